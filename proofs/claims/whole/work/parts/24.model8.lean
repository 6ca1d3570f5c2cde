set_option maxHeartbeats 4000000 in
set_option maxRecDepth 100000 in
theorem c_X6_grow (l : Launch) (D : va_G) (cI cJ cZ cA : ClassId) (r : Nat → Nat) (i7 i8 i9 i13 i15 i17 i18 i19 i22 i23 : Int32) (a1 a2 a4 a5 a6 a10 a11 a12 a14 a16 a20 a21 a24 a25 a26 : Nat → Int32) (sz pl tr : Nat) (hpl : pl ≤ 5) (htr : tr ≤ 6) : Met l yX6_grow wsX6_grow ({ frames := 3, cells := 0, slots := 0, locals := 73 } : Room) (wr_P D (tysC cI cJ cZ cA) [.ref (r 0)] (mw cI r (nI pl) (nI tr) i7 i8 i9 i13 i15 i17 i18 i19 i22 i23 a1 a2 a4 a5 a6 a10 a11 a12 a14 a16 a20 a21 a24 a25 a26) sz) (wr_Qi D (S := Bool × Int32 × Int32 × Int32 × Int32 × (Nat → Int32) × (Nat → Int32) × (Nat → Int32) × (Nat → Int32)) (mw cI r (nI pl) (nI tr) i7 i8 i9 i13 i15 i17 i18 i19 i22 i23 a1 a2 a4 a5 a6 a10 a11 a12 a14 a16 a20 a21 a24 a25 a26) sz (fun r9 u => ((growG (canR a4) (kidR (nI 1000000) a4 a5) tr a1 1001).length ≤ 1000 → r9 = nI (growG (canR a4) (kidR (nI 1000000) a4 a5) tr a1 1001).length ∧ u.1 = true ∧ u.2.1 = nI (growG (canR a4) (kidR (nI 1000000) a4 a5) tr a1 1001).length ∧ u.2.2.1 = nI pl ∧ u.2.2.2.1 = livL tr a4 (mks (growG (canR a4) (kidR (nI 1000000) a4 a5) tr a1 1001)) (nI 0) ∧ u.2.2.2.2.1 = nI (limL (mks (growG (canR a4) (kidR (nI 1000000) a4 a5) tr a1 1001)) (mks (growG (canR a4) (kidR (nI 1000000) a4 a5) tr a1 1001)).length).length ∧ rowsV u.2.2.2.2.2.1 0 (mks (growG (canR a4) (kidR (nI 1000000) a4 a5) tr a1 1001)) ∧ idxV u.2.2.2.2.2.2.2.1 (limL (mks (growG (canR a4) (kidR (nI 1000000) a4 a5) tr a1 1001)) (mks (growG (canR a4) (kidR (nI 1000000) a4 a5) tr a1 1001)).length)) ∧ (¬ (growG (canR a4) (kidR (nI 1000000) a4 a5) tr a1 1001).length ≤ 1000 → r9 = -1 ∧ u.1 = false)) (fun u => (mw cI r (nI pl) (nI tr) i7 i8 i9 i13 i15 (bI u.1) u.2.2.1 u.2.1 u.2.2.2.1 u.2.2.2.2.1 a1 a2 a4 a5 a6 a10 a11 a12 a14 a16 u.2.2.2.2.2.1 u.2.2.2.2.2.2.1 u.2.2.2.2.2.2.2.1 u.2.2.2.2.2.2.2.2 a26))) 0 0 (va_A (mw cI r (nI pl) (nI tr) i7 i8 i9 i13 i15 i17 i18 i19 i22 i23 a1 a2 a4 a5 a6 a10 a11 a12 a14 a16 a20 a21 a24 a25 a26) sz) := by
  refine met_wi (cc := cX6_grow) (maxL := 5) (ty := .int) (by decide) rfl (Nat.le_of_ble_eq_true rfl) ?_
  intro p e s m args below meth c Q A hx hb hml hown hts hP hK hD hA hret ls hl
  obtain ⟨H, hH9⟩ : ∃ H : Heap, H = s.heap := ⟨_, rfl⟩
  have hP : va_P D vwCl (mw cI r (nI pl) (nI tr) i7 i8 i9 i13 i15 i17 i18 i19 i22 i23 a1 a2 a4 a5 a6 a10 a11 a12 a14 a16 a20 a21 a24 a25 a26) H := by rw [hH9]; exact hP
  have hS : va_S A s.heap H [] := by rw [hH9]; exact va_S.rf
  rw [← hH9]
  have hown : s.vm.findClass RX6 = some m.cls := hown
  have hin6 : ∀ w ∈ wsX60, w ∈ wsX6_grow := by decide +kernel
  have fl124 := hts (.fieldLink RX6 124 "CoverRoundsModel" "isGrown" "Z") (by decide +kernel)
  have fl128 := hts (.fieldLink RX6 128 "CoverRoundsModel" "nodes" "I") (by decide +kernel)
  have fl48 := hts (.fieldLink RX6 48 "CoverRoundsModel" "above" "[I") (by decide +kernel)
  have fl45 := hts (.fieldLink RX6 45 "CoverRoundsModel" "markings" "[I") (by decide +kernel)
  have fl7 := hts (.fieldLink RX6 7 "CoverRoundsModel" "first" "[I") (by decide +kernel)
  have fl63 := hts (.fieldLink RX6 63 "CoverRoundsModel" "transitions" "I") (by decide +kernel)
  have fl54 := hts (.fieldLink RX6 54 "CoverRoundsModel" "work" "[I") (by decide +kernel)
  have fl19 := hts (.fieldLink RX6 19 "CoverRoundsModel" "gives" "[I") (by decide +kernel)
  have fl16 := hts (.fieldLink RX6 16 "CoverRoundsModel" "takes" "[I") (by decide +kernel)
  have fl60 := hts (.fieldLink RX6 60 "CoverRoundsModel" "places" "I") (by decide +kernel)
  have fl138 := hts (.fieldLink RX6 138 "CoverRoundsModel" "grownPlaces" "I") (by decide +kernel)
  have hl : lv_has ls 5 [(0, .ref (r 0))] := hl
  refine lv_aload_n hx hb dX6_grow_0 rfl (lv_at hl 0 rfl) ?_
  refine lv_iconst (v := nI 0) hx hb dX6_grow_1 (by decide) ?_
  refine va_put (D := D) (ci := 5) (v := .int (bI false)) (ty := .boolean) (C := RX6) (T := TX6) (N := 27) hx hb hts hin6 tyX6 tyX6_ok nmX6 hown hK hP hD hS 0 rfl rfl 17 (by decide) fl124 (fun _ h9 => h9) rfl (by decide +kernel) (bI_n _) (wk_fz _) (Nat.le_of_ble_eq_true rfl) dX6_grow_2 (fun H locs hP hD hS => ?_)
  have hP : va_P D vwCl (mw cI r (nI pl) (nI tr) i7 i8 i9 i13 i15 (bI false) i18 i19 i22 i23 a1 a2 a4 a5 a6 a10 a11 a12 a14 a16 a20 a21 a24 a25 a26) H := hP
  have hD : va_D A (mw cI r (nI pl) (nI tr) i7 i8 i9 i13 i15 (bI false) i18 i19 i22 i23 a1 a2 a4 a5 a6 a10 a11 a12 a14 a16 a20 a21 a24 a25 a26) := hD
  refine lv_aload_n hx hb dX6_grow_5 rfl (lv_at hl 0 rfl) ?_
  refine lv_iconst (v := nI 1) hx hb dX6_grow_6 (by decide) ?_
  refine va_put (D := D) (ci := 5) (v := .int (nI 1)) (ty := .int) (C := RX6) (T := TX6) (N := 27) hx hb hts hin6 tyX6 tyX6_ok nmX6 hown hK hP hD hS 0 rfl rfl 19 (by decide) fl128 (fun _ h9 => h9) rfl (by decide +kernel) rfl rfl (Nat.le_of_ble_eq_true rfl) dX6_grow_7 (fun H locs hP hD hS => ?_)
  have hP : va_P D vwCl (mw cI r (nI pl) (nI tr) i7 i8 i9 i13 i15 (bI false) i18 (nI 1) i22 i23 a1 a2 a4 a5 a6 a10 a11 a12 a14 a16 a20 a21 a24 a25 a26) H := hP
  have hD : va_D A (mw cI r (nI pl) (nI tr) i7 i8 i9 i13 i15 (bI false) i18 (nI 1) i22 i23 a1 a2 a4 a5 a6 a10 a11 a12 a14 a16 a20 a21 a24 a25 a26) := hD
  refine lv_aload_n hx hb dX6_grow_10 rfl (lv_at hl 0 rfl) ?_
  refine va_get (D := D) (ci := 5) (v := .ref (r 21)) (C := RX6) (T := TX6) (N := 27) hx hb hts hin6 hown hK hP 0 rfl rfl 21 (by decide) fl48 (fun _ h9 => h9) rfl dX6_grow_11 ?_
  refine lv_iconst (v := nI 0) hx hb dX6_grow_14 (by decide) ?_
  refine lv_iconst (v := -1) hx hb dX6_grow_15 (by decide) ?_
  refine wk_iast hx hb hK hP hD hS 12 0 rfl rfl (i := 0) (by omega) (by omega) dX6_grow_16 (fun H locs hP hD hS => ?_)
  have hP : va_P D vwCl (mw cI r (nI pl) (nI tr) i7 i8 i9 i13 i15 (bI false) i18 (nI 1) i22 i23 a1 a2 a4 a5 a6 a10 a11 a12 a14 a16 a20 (upd a21 0 (-1)) a24 a25 a26) H := hP
  have hD : va_D A (mw cI r (nI pl) (nI tr) i7 i8 i9 i13 i15 (bI false) i18 (nI 1) i22 i23 a1 a2 a4 a5 a6 a10 a11 a12 a14 a16 a20 (upd a21 0 (-1)) a24 a25 a26) := hD
  refine lv_iconst (v := nI 0) hx hb dX6_grow_17 (by decide) ?_
  refine lv_istore_n (lv' := [(1, .int (nI 0)), (0, .ref (r 0))]) hx hb dX6_grow_18 rfl hl (by decide) rfl (fun ls hl => ?_)
  have lp19 : ∀ (n9 : Nat) (q : Nat), 5 - q < n9 → q ≤ 5 → ∀ (H : Heap) (locs : List Loc) (ls : Array Slot), va_P D vwCl (mw cI r (nI pl) (nI tr) i7 i8 i9 i13 i15 (bI false) i18 (nI 1) i22 i23 a1 a2 a4 a5 a6 a10 a11 a12 a14 a16 (cpN a1 a20 q) (upd a21 0 (-1)) a24 a25 a26) H → va_D A (mw cI r (nI pl) (nI tr) i7 i8 i9 i13 i15 (bI false) i18 (nI 1) i22 i23 a1 a2 a4 a5 a6 a10 a11 a12 a14 a16 (cpN a1 a20 q) (upd a21 0 (-1)) a24 a25 a26) → va_S A s.heap H locs → lv_has ls 5 [(0, .ref (r 0)), (1, .int (nI q))] → W p l e ({ frames := 3, cells := 0, slots := 0, locals := 73 } : Room) s m args below meth c H locs 0 0 Q (F0 m 19 ls []) := by
    intro n9
    induction n9 with
    | zero => intro q hm19; exact absurd hm19 (Nat.not_lt_zero _)
    | succ n9 ih19 =>
      intro q hm19 hq H locs ls hP hD hS hl
      refine lv_iload_n hx hb dX6_grow_19 rfl (lv_at hl 1 rfl) ?_
      refine lv_iconst (v := nI 5) hx hb dX6_grow_20 (by decide) ?_
      refine wk_icmp_ge (tgt := 42) hx hb (by omega) (by omega) dX6_grow_21 (by decide) (fun c21 => ?_) (fun c21 => ?_)
      · skip
        have hq9 : q = 5 := by omega
        subst hq9
        refine lv_iconst (v := nI 0) hx hb dX6_grow_42 (by decide) ?_
        refine lv_istore_n (lv' := [(1, .int (nI 0)), (0, .ref (r 0))]) hx hb dX6_grow_43 rfl hl (by decide) rfl (fun ls hl => ?_)
        have lp44 : ∀ (n9 : Nat) (k : Nat) (f20 : Nat → Int32) (f21 : Nat → Int32) (f25 : Nat → Int32), 1001 - k < n9 → k ≤ (growG (canR a4) (kidR (nI 1000000) a4 a5) tr a1 k).length → treeV f20 f21 (growG (canR a4) (kidR (nI 1000000) a4 a5) tr a1 k) → ∀ (H : Heap) (locs : List Loc) (ls : Array Slot), va_P D vwCl (mw cI r (nI pl) (nI tr) i7 i8 i9 i13 i15 (bI false) i18 (nI ((growG (canR a4) (kidR (nI 1000000) a4 a5) tr a1 k).length)) i22 i23 a1 a2 a4 a5 a6 a10 a11 a12 a14 a16 f20 f21 a24 f25 a26) H → va_D A (mw cI r (nI pl) (nI tr) i7 i8 i9 i13 i15 (bI false) i18 (nI ((growG (canR a4) (kidR (nI 1000000) a4 a5) tr a1 k).length)) i22 i23 a1 a2 a4 a5 a6 a10 a11 a12 a14 a16 f20 f21 a24 f25 a26) → va_S A s.heap H locs → lv_has ls 5 [(0, .ref (r 0)), (1, .int (nI k))] → W p l e ({ frames := 3, cells := 0, slots := 0, locals := 73 } : Room) s m args below meth c H locs 0 0 Q (F0 m 44 ls []) := by
          intro n9
          induction n9 with
          | zero => intro k f20 f21 f25 hm44; exact absurd hm44 (Nat.not_lt_zero _)
          | succ n9 ih44 =>
            intro k f20 f21 f25 hm44 hk hG H locs ls hP hD hS hl
            have hGl := grow_len (canR a4) (kidR (nI 1000000) a4 a5) tr a1 k
            refine lv_iload_n hx hb dX6_grow_44 rfl (lv_at hl 1 rfl) ?_
            refine lv_aload_n hx hb dX6_grow_45 rfl (lv_at hl 0 rfl) ?_
            refine va_get (D := D) (ci := 5) (v := .int (nI ((growG (canR a4) (kidR (nI 1000000) a4 a5) tr a1 k).length))) (C := RX6) (T := TX6) (N := 27) hx hb hts hin6 hown hK hP 0 rfl rfl 19 (by decide) fl128 (fun _ h9 => h9) rfl dX6_grow_46 ?_
            refine wk_icmp_ge (tgt := 241) hx hb (by omega) (by omega) dX6_grow_49 (by decide) (fun c49 => ?_) (fun c49 => ?_)
            · skip
              have hfin : growG (canR a4) (kidR (nI 1000000) a4 a5) tr a1 1001 = (growG (canR a4) (kidR (nI 1000000) a4 a5) tr a1 k) := by
                have h9 := grow_stop (can := canR a4) (kid := kidR (nI 1000000) a4 a5) (tr := tr) (x := a1) (k := k) (Or.inl (by omega)) (1001 - k)
                rw [show k + (1001 - k) = 1001 by omega] at h9
                exact h9
              refine lv_aload_n hx hb dX6_grow_241 rfl (lv_at hl 0 rfl) ?_
              refine va_get (D := D) (ci := 5) (v := .int (nI ((growG (canR a4) (kidR (nI 1000000) a4 a5) tr a1 k).length))) (C := RX6) (T := TX6) (N := 27) hx hb hts hin6 hown hK hP 0 rfl rfl 19 (by decide) fl128 (fun _ h9 => h9) rfl dX6_grow_242 ?_
              refine lv_sipush (v := nI 1000) hx hb dX6_grow_245 (by decide) ?_
              refine wk_icmp_le (tgt := 253) hx hb (by omega) (by omega) dX6_grow_248 (by decide) (fun c248 => ?_) (fun c248 => ?_)
              · skip
                refine lv_aload_n hx hb dX6_grow_253 rfl (lv_at hl 0 rfl) ?_
                refine lv_iconst (v := nI 1) hx hb dX6_grow_254 (by decide) ?_
                refine va_put (D := D) (ci := 5) (v := .int (bI true)) (ty := .boolean) (C := RX6) (T := TX6) (N := 27) hx hb hts hin6 tyX6 tyX6_ok nmX6 hown hK hP hD hS 0 rfl rfl 17 (by decide) fl124 (fun _ h9 => h9) rfl (by decide +kernel) (bI_n _) (wk_fz _) (Nat.le_of_ble_eq_true rfl) dX6_grow_255 (fun H locs hP hD hS => ?_)
                have hP : va_P D vwCl (mw cI r (nI pl) (nI tr) i7 i8 i9 i13 i15 (bI true) i18 (nI ((growG (canR a4) (kidR (nI 1000000) a4 a5) tr a1 k).length)) i22 i23 a1 a2 a4 a5 a6 a10 a11 a12 a14 a16 f20 f21 a24 f25 a26) H := hP
                have hD : va_D A (mw cI r (nI pl) (nI tr) i7 i8 i9 i13 i15 (bI true) i18 (nI ((growG (canR a4) (kidR (nI 1000000) a4 a5) tr a1 k).length)) i22 i23 a1 a2 a4 a5 a6 a10 a11 a12 a14 a16 f20 f21 a24 f25 a26) := hD
                refine lv_aload_n hx hb dX6_grow_258 rfl (lv_at hl 0 rfl) ?_
                refine lv_aload_n hx hb dX6_grow_259 rfl (lv_at hl 0 rfl) ?_
                refine va_get (D := D) (ci := 5) (v := .int (nI pl)) (C := RX6) (T := TX6) (N := 27) hx hb hts hin6 hown hK hP 0 rfl rfl 0 (by decide) fl60 (fun _ h9 => h9) rfl dX6_grow_260 ?_
                refine va_put (D := D) (ci := 5) (v := .int (nI pl)) (ty := .int) (C := RX6) (T := TX6) (N := 27) hx hb hts hin6 tyX6 tyX6_ok nmX6 hown hK hP hD hS 0 rfl rfl 18 (by decide) fl138 (fun _ h9 => h9) rfl (by decide +kernel) rfl rfl (Nat.le_of_ble_eq_true rfl) dX6_grow_263 (fun H locs hP hD hS => ?_)
                have hP : va_P D vwCl (mw cI r (nI pl) (nI tr) i7 i8 i9 i13 i15 (bI true) (nI pl) (nI ((growG (canR a4) (kidR (nI 1000000) a4 a5) tr a1 k).length)) i22 i23 a1 a2 a4 a5 a6 a10 a11 a12 a14 a16 f20 f21 a24 f25 a26) H := hP
                have hD : va_D A (mw cI r (nI pl) (nI tr) i7 i8 i9 i13 i15 (bI true) (nI pl) (nI ((growG (canR a4) (kidR (nI 1000000) a4 a5) tr a1 k).length)) i22 i23 a1 a2 a4 a5 a6 a10 a11 a12 a14 a16 f20 f21 a24 f25 a26) := hD
                refine lv_aload_n hx hb dX6_grow_266 rfl (lv_at hl 0 rfl) ?_
                rw [show (growG (canR a4) (kidR (nI 1000000) a4 a5) tr a1 k).length = (mks (growG (canR a4) (kidR (nI 1000000) a4 a5) tr a1 k)).length from (mks_len _).symm] at hP hD
                refine wk_VvW (As := []) (rest := []) (wr := []) ⟨hx, hb, hml, hown, hts⟩ (c_X6_tellTree l D cI cJ cZ cA r (nI pl) i7 i8 i9 i13 i15 (bI true) (nI pl) i22 i23 a1 a2 a4 a5 a6 a10 a11 a12 a14 a16 f20 f21 a24 f25 a26 H.size tr htr (mks (growG (canR a4) (kidR (nI 1000000) a4 a5) tr a1 k)) (tv_rows hG) (by rw [mks_len]; omega)) (cwV 0 hts gX6_grow_X6_tellTree rfl rfl rfl (by decide +kernel) ⟨Nat.le_of_ble_eq_true rfl, Nat.le_of_ble_eq_true rfl⟩) hK hP hD hA [0, 1, 2, 3, 4, 5, 6, 7, 8, 9, 10, 11, 12, 13, 14, 15] rfl (by decide) [] rfl (by decide) (by decide) 0 5 rfl rfl hS rfl hl.1 rfl (Nat.le_of_ble_eq_true rfl) dX6_grow_267 ⟨Nat.le_of_ble_eq_true rfl, Nat.le_of_ble_eq_true rfl⟩ (fun u9 H locs hu hP hD hS => ?_)
                have hP : va_P D vwCl (mw cI r (nI pl) (nI tr) i7 i8 i9 i13 i15 (bI true) (nI pl) (nI ((mks (growG (canR a4) (kidR (nI 1000000) a4 a5) tr a1 k)).length)) (livL tr a4 (mks (growG (canR a4) (kidR (nI 1000000) a4 a5) tr a1 k)) (nI 0)) (nI ((limL (mks (growG (canR a4) (kidR (nI 1000000) a4 a5) tr a1 k)) (mks (growG (canR a4) (kidR (nI 1000000) a4 a5) tr a1 k)).length).length)) a1 a2 a4 a5 a6 a10 a11 a12 a14 a16 f20 f21 u9 f25 a26) H := hP
                have hD : va_D A (mw cI r (nI pl) (nI tr) i7 i8 i9 i13 i15 (bI true) (nI pl) (nI ((mks (growG (canR a4) (kidR (nI 1000000) a4 a5) tr a1 k)).length)) (livL tr a4 (mks (growG (canR a4) (kidR (nI 1000000) a4 a5) tr a1 k)) (nI 0)) (nI ((limL (mks (growG (canR a4) (kidR (nI 1000000) a4 a5) tr a1 k)) (mks (growG (canR a4) (kidR (nI 1000000) a4 a5) tr a1 k)).length).length)) a1 a2 a4 a5 a6 a10 a11 a12 a14 a16 f20 f21 u9 f25 a26) := hD
                refine lv_aload_n hx hb dX6_grow_270 rfl (lv_at hl 0 rfl) ?_
                refine va_get (D := D) (ci := 5) (v := .int (nI ((mks (growG (canR a4) (kidR (nI 1000000) a4 a5) tr a1 k)).length))) (C := RX6) (T := TX6) (N := 27) hx hb hts hin6 hown hK hP 0 rfl rfl 19 (by decide) fl128 (fun _ h9 => h9) rfl dX6_grow_271 ?_
                have hl9 := mks_len (growG (canR a4) (kidR (nI 1000000) a4 a5) tr a1 k)
                exact hret _ (true, (nI ((mks (growG (canR a4) (kidR (nI 1000000) a4 a5) tr a1 k)).length)), nI pl, (livL tr a4 (mks (growG (canR a4) (kidR (nI 1000000) a4 a5) tr a1 k)) (nI 0)), (nI ((limL (mks (growG (canR a4) (kidR (nI 1000000) a4 a5) tr a1 k)) (mks (growG (canR a4) (kidR (nI 1000000) a4 a5) tr a1 k)).length).length)), f20, f21, u9, f25) _ _ _ _ _ _ rfl ⟨fun h9 => by rw [hfin]; exact ⟨by rw [hl9], rfl, by rw [hl9], rfl, rfl, rfl, tv_rows hG, hu⟩, fun h9 => by rw [hfin] at h9; omega⟩ hP hD dX6_grow_274 hS (Nat.zero_le _) (Nat.zero_le _)
              · skip
                refine lv_iconst (v := -1) hx hb dX6_grow_251 (by decide) ?_
                exact hret _ (false, (nI ((growG (canR a4) (kidR (nI 1000000) a4 a5) tr a1 k).length)), i18, i22, i23, f20, f21, a24, f25) _ _ _ _ _ _ rfl ⟨fun h9 => by rw [hfin] at h9; omega, fun h9 => ⟨rfl, rfl⟩⟩ hP hD dX6_grow_252 hS (Nat.zero_le _) (Nat.zero_le _)
            · skip
              obtain ⟨nd, hkG⟩ : ∃ nd, (growG (canR a4) (kidR (nI 1000000) a4 a5) tr a1 k)[k]? = some nd := ⟨_, List.getElem?_eq_getElem (by omega)⟩
              refine lv_aload_n hx hb dX6_grow_52 rfl (lv_at hl 0 rfl) ?_
              refine va_get (D := D) (ci := 5) (v := .int (nI ((growG (canR a4) (kidR (nI 1000000) a4 a5) tr a1 k).length))) (C := RX6) (T := TX6) (N := 27) hx hb hts hin6 hown hK hP 0 rfl rfl 19 (by decide) fl128 (fun _ h9 => h9) rfl dX6_grow_53 ?_
              refine lv_sipush (v := nI 1000) hx hb dX6_grow_56 (by decide) ?_
              refine wk_icmp_gt (tgt := 241) hx hb (by omega) (by omega) dX6_grow_59 (by decide) (fun c59 => ?_) (fun c59 => ?_)
              · skip
                have hfin : growG (canR a4) (kidR (nI 1000000) a4 a5) tr a1 1001 = (growG (canR a4) (kidR (nI 1000000) a4 a5) tr a1 k) := by
                  have h9 := grow_stop (can := canR a4) (kid := kidR (nI 1000000) a4 a5) (tr := tr) (x := a1) (k := k) (Or.inr (by omega)) (1001 - k)
                  rw [show k + (1001 - k) = 1001 by omega] at h9
                  exact h9
                refine lv_aload_n hx hb dX6_grow_241 rfl (lv_at hl 0 rfl) ?_
                refine va_get (D := D) (ci := 5) (v := .int (nI ((growG (canR a4) (kidR (nI 1000000) a4 a5) tr a1 k).length))) (C := RX6) (T := TX6) (N := 27) hx hb hts hin6 hown hK hP 0 rfl rfl 19 (by decide) fl128 (fun _ h9 => h9) rfl dX6_grow_242 ?_
                refine lv_sipush (v := nI 1000) hx hb dX6_grow_245 (by decide) ?_
                refine wk_icmp_le (tgt := 253) hx hb (by omega) (by omega) dX6_grow_248 (by decide) (fun c248 => ?_) (fun c248 => ?_)
                · skip
                  refine lv_aload_n hx hb dX6_grow_253 rfl (lv_at hl 0 rfl) ?_
                  refine lv_iconst (v := nI 1) hx hb dX6_grow_254 (by decide) ?_
                  refine va_put (D := D) (ci := 5) (v := .int (bI true)) (ty := .boolean) (C := RX6) (T := TX6) (N := 27) hx hb hts hin6 tyX6 tyX6_ok nmX6 hown hK hP hD hS 0 rfl rfl 17 (by decide) fl124 (fun _ h9 => h9) rfl (by decide +kernel) (bI_n _) (wk_fz _) (Nat.le_of_ble_eq_true rfl) dX6_grow_255 (fun H locs hP hD hS => ?_)
                  have hP : va_P D vwCl (mw cI r (nI pl) (nI tr) i7 i8 i9 i13 i15 (bI true) i18 (nI ((growG (canR a4) (kidR (nI 1000000) a4 a5) tr a1 k).length)) i22 i23 a1 a2 a4 a5 a6 a10 a11 a12 a14 a16 f20 f21 a24 f25 a26) H := hP
                  have hD : va_D A (mw cI r (nI pl) (nI tr) i7 i8 i9 i13 i15 (bI true) i18 (nI ((growG (canR a4) (kidR (nI 1000000) a4 a5) tr a1 k).length)) i22 i23 a1 a2 a4 a5 a6 a10 a11 a12 a14 a16 f20 f21 a24 f25 a26) := hD
                  refine lv_aload_n hx hb dX6_grow_258 rfl (lv_at hl 0 rfl) ?_
                  refine lv_aload_n hx hb dX6_grow_259 rfl (lv_at hl 0 rfl) ?_
                  refine va_get (D := D) (ci := 5) (v := .int (nI pl)) (C := RX6) (T := TX6) (N := 27) hx hb hts hin6 hown hK hP 0 rfl rfl 0 (by decide) fl60 (fun _ h9 => h9) rfl dX6_grow_260 ?_
                  refine va_put (D := D) (ci := 5) (v := .int (nI pl)) (ty := .int) (C := RX6) (T := TX6) (N := 27) hx hb hts hin6 tyX6 tyX6_ok nmX6 hown hK hP hD hS 0 rfl rfl 18 (by decide) fl138 (fun _ h9 => h9) rfl (by decide +kernel) rfl rfl (Nat.le_of_ble_eq_true rfl) dX6_grow_263 (fun H locs hP hD hS => ?_)
                  have hP : va_P D vwCl (mw cI r (nI pl) (nI tr) i7 i8 i9 i13 i15 (bI true) (nI pl) (nI ((growG (canR a4) (kidR (nI 1000000) a4 a5) tr a1 k).length)) i22 i23 a1 a2 a4 a5 a6 a10 a11 a12 a14 a16 f20 f21 a24 f25 a26) H := hP
                  have hD : va_D A (mw cI r (nI pl) (nI tr) i7 i8 i9 i13 i15 (bI true) (nI pl) (nI ((growG (canR a4) (kidR (nI 1000000) a4 a5) tr a1 k).length)) i22 i23 a1 a2 a4 a5 a6 a10 a11 a12 a14 a16 f20 f21 a24 f25 a26) := hD
                  refine lv_aload_n hx hb dX6_grow_266 rfl (lv_at hl 0 rfl) ?_
                  rw [show (growG (canR a4) (kidR (nI 1000000) a4 a5) tr a1 k).length = (mks (growG (canR a4) (kidR (nI 1000000) a4 a5) tr a1 k)).length from (mks_len _).symm] at hP hD
                  refine wk_VvW (As := []) (rest := []) (wr := []) ⟨hx, hb, hml, hown, hts⟩ (c_X6_tellTree l D cI cJ cZ cA r (nI pl) i7 i8 i9 i13 i15 (bI true) (nI pl) i22 i23 a1 a2 a4 a5 a6 a10 a11 a12 a14 a16 f20 f21 a24 f25 a26 H.size tr htr (mks (growG (canR a4) (kidR (nI 1000000) a4 a5) tr a1 k)) (tv_rows hG) (by rw [mks_len]; omega)) (cwV 0 hts gX6_grow_X6_tellTree rfl rfl rfl (by decide +kernel) ⟨Nat.le_of_ble_eq_true rfl, Nat.le_of_ble_eq_true rfl⟩) hK hP hD hA [0, 1, 2, 3, 4, 5, 6, 7, 8, 9, 10, 11, 12, 13, 14, 15] rfl (by decide) [] rfl (by decide) (by decide) 0 5 rfl rfl hS rfl hl.1 rfl (Nat.le_of_ble_eq_true rfl) dX6_grow_267 ⟨Nat.le_of_ble_eq_true rfl, Nat.le_of_ble_eq_true rfl⟩ (fun u9 H locs hu hP hD hS => ?_)
                  have hP : va_P D vwCl (mw cI r (nI pl) (nI tr) i7 i8 i9 i13 i15 (bI true) (nI pl) (nI ((mks (growG (canR a4) (kidR (nI 1000000) a4 a5) tr a1 k)).length)) (livL tr a4 (mks (growG (canR a4) (kidR (nI 1000000) a4 a5) tr a1 k)) (nI 0)) (nI ((limL (mks (growG (canR a4) (kidR (nI 1000000) a4 a5) tr a1 k)) (mks (growG (canR a4) (kidR (nI 1000000) a4 a5) tr a1 k)).length).length)) a1 a2 a4 a5 a6 a10 a11 a12 a14 a16 f20 f21 u9 f25 a26) H := hP
                  have hD : va_D A (mw cI r (nI pl) (nI tr) i7 i8 i9 i13 i15 (bI true) (nI pl) (nI ((mks (growG (canR a4) (kidR (nI 1000000) a4 a5) tr a1 k)).length)) (livL tr a4 (mks (growG (canR a4) (kidR (nI 1000000) a4 a5) tr a1 k)) (nI 0)) (nI ((limL (mks (growG (canR a4) (kidR (nI 1000000) a4 a5) tr a1 k)) (mks (growG (canR a4) (kidR (nI 1000000) a4 a5) tr a1 k)).length).length)) a1 a2 a4 a5 a6 a10 a11 a12 a14 a16 f20 f21 u9 f25 a26) := hD
                  refine lv_aload_n hx hb dX6_grow_270 rfl (lv_at hl 0 rfl) ?_
                  refine va_get (D := D) (ci := 5) (v := .int (nI ((mks (growG (canR a4) (kidR (nI 1000000) a4 a5) tr a1 k)).length))) (C := RX6) (T := TX6) (N := 27) hx hb hts hin6 hown hK hP 0 rfl rfl 19 (by decide) fl128 (fun _ h9 => h9) rfl dX6_grow_271 ?_
                  have hl9 := mks_len (growG (canR a4) (kidR (nI 1000000) a4 a5) tr a1 k)
                  exact hret _ (true, (nI ((mks (growG (canR a4) (kidR (nI 1000000) a4 a5) tr a1 k)).length)), nI pl, (livL tr a4 (mks (growG (canR a4) (kidR (nI 1000000) a4 a5) tr a1 k)) (nI 0)), (nI ((limL (mks (growG (canR a4) (kidR (nI 1000000) a4 a5) tr a1 k)) (mks (growG (canR a4) (kidR (nI 1000000) a4 a5) tr a1 k)).length).length)), f20, f21, u9, f25) _ _ _ _ _ _ rfl ⟨fun h9 => by rw [hfin]; exact ⟨by rw [hl9], rfl, by rw [hl9], rfl, rfl, rfl, tv_rows hG, hu⟩, fun h9 => by rw [hfin] at h9; omega⟩ hP hD dX6_grow_274 hS (Nat.zero_le _) (Nat.zero_le _)
                · skip
                  refine lv_iconst (v := -1) hx hb dX6_grow_251 (by decide) ?_
                  exact hret _ (false, (nI ((growG (canR a4) (kidR (nI 1000000) a4 a5) tr a1 k).length)), i18, i22, i23, f20, f21, a24, f25) _ _ _ _ _ _ rfl ⟨fun h9 => by rw [hfin] at h9; omega, fun h9 => ⟨rfl, rfl⟩⟩ hP hD dX6_grow_252 hS (Nat.zero_le _) (Nat.zero_le _)
              · skip
                refine lv_iconst (v := nI 0) hx hb dX6_grow_62 (by decide) ?_
                refine lv_istore_n (lv' := [(2, .int (nI 0)), (0, .ref (r 0)), (1, .int (nI k))]) hx hb dX6_grow_63 rfl hl (by decide) rfl (fun ls hl => ?_)
                have lp64 : ∀ (n9 : Nat) (t : Nat) (T : List Nd) (g20 : Nat → Int32) (g21 : Nat → Int32) (g25 : Nat → Int32), tr - t < n9 → t ≤ tr → treeV g20 g21 T → T = kidsG (canR a4 nd.2.1) (kidR (nI 1000000) a4 a5 (nd.2.1 :: nd.2.2)) k (nd.2.1 :: nd.2.2) t (growG (canR a4) (kidR (nI 1000000) a4 a5) tr a1 k) → (0 < t → oldG nd.2.1 nd.2.2 = false) → ∀ (H : Heap) (locs : List Loc) (ls : Array Slot), va_P D vwCl (mw cI r (nI pl) (nI tr) i7 i8 i9 i13 i15 (bI false) i18 (nI T.length) i22 i23 a1 a2 a4 a5 a6 a10 a11 a12 a14 a16 g20 g21 a24 g25 a26) H → va_D A (mw cI r (nI pl) (nI tr) i7 i8 i9 i13 i15 (bI false) i18 (nI T.length) i22 i23 a1 a2 a4 a5 a6 a10 a11 a12 a14 a16 g20 g21 a24 g25 a26) → va_S A s.heap H locs → lv_has ls 5 [(0, .ref (r 0)), (1, .int (nI k)), (2, .int (nI t))] → W p l e ({ frames := 3, cells := 0, slots := 0, locals := 73 } : Room) s m args below meth c H locs 0 0 Q (F0 m 64 ls []) := by
                  intro n9
                  induction n9 with
                  | zero => intro t T g20 g21 g25 hm64; exact absurd hm64 (Nat.not_lt_zero _)
                  | succ n9 ih64 =>
                    intro t T g20 g21 g25 hm64 ht hT hTe hno H locs ls hP hD hS hl
                    have hTl : T.length ≤ 1001 := by rw [hTe]; exact (kids_len _ _ _ _ _ _).2 hGl.2
                    refine lv_iload_n hx hb dX6_grow_64 rfl (lv_at hl 2 rfl) ?_
                    refine lv_aload_n hx hb dX6_grow_65 rfl (lv_at hl 0 rfl) ?_
                    refine va_get (D := D) (ci := 5) (v := .int (nI tr)) (C := RX6) (T := TX6) (N := 27) hx hb hts hin6 hown hK hP 0 rfl rfl 3 (by decide) fl63 (fun _ h9 => h9) rfl dX6_grow_66 ?_
                    refine wk_icmp_ge (tgt := 235) hx hb (by omega) (by omega) dX6_grow_69 (by decide) (fun c69 => ?_) (fun c69 => ?_)
                    · skip
                      have hst : T = stepG (canR a4) (kidR (nI 1000000) a4 a5) tr (growG (canR a4) (kidR (nI 1000000) a4 a5) tr a1 k) k := by
                        rcases Nat.eq_zero_or_pos t with h0 | h0
                        · have htr0 : 0 = tr := by omega
                          subst h0
                          cases ho9 : oldG nd.2.1 nd.2.2 with
                          | true => rw [step_old hkG ho9]; exact hTe
                          | false => rw [step_new hkG ho9]; exact hTe.trans (congrArg (fun z => kidsG (canR a4 nd.2.1) (kidR (nI 1000000) a4 a5 (nd.2.1 :: nd.2.2)) k (nd.2.1 :: nd.2.2) z (growG (canR a4) (kidR (nI 1000000) a4 a5) tr a1 k)) (htr0))
                        · rw [step_new hkG (hno h0)]; exact hTe.trans (congrArg (fun z => kidsG (canR a4 nd.2.1) (kidR (nI 1000000) a4 a5 (nd.2.1 :: nd.2.2)) k (nd.2.1 :: nd.2.2) z (growG (canR a4) (kidR (nI 1000000) a4 a5) tr a1 k)) (show t = tr by omega))
                      refine lv_iinc (v := (nI (k + 1))) (lv' := [(1, .int (nI (k + 1))), (0, .ref (r 0)), (2, .int (nI t))]) hx hb dX6_grow_235 hl (k := 1) rfl (by exact nI_1 _) (by decide) rfl (fun ls hl => ?_)
                      refine lv_goto (tgt := 44) hx hb dX6_grow_238 (by decide) ?_
                      have hP : va_P D vwCl (mw cI r (nI pl) (nI tr) i7 i8 i9 i13 i15 (bI false) i18 (nI ((growG (canR a4) (kidR (nI 1000000) a4 a5) tr a1 (k + 1)).length)) i22 i23 a1 a2 a4 a5 a6 a10 a11 a12 a14 a16 g20 g21 a24 g25 a26) H := by rw [grow_s (by omega), ← hst]; exact hP
                      have hD : va_D A (mw cI r (nI pl) (nI tr) i7 i8 i9 i13 i15 (bI false) i18 (nI ((growG (canR a4) (kidR (nI 1000000) a4 a5) tr a1 (k + 1)).length)) i22 i23 a1 a2 a4 a5 a6 a10 a11 a12 a14 a16 g20 g21 a24 g25 a26) := by rw [grow_s (by omega), ← hst]; exact hD
                      exact ih44 (k + 1) g20 g21 g25 (by omega) (by rw [grow_s (by omega)]; have := step_len (canR a4) (kidR (nI 1000000) a4 a5) tr (growG (canR a4) (kidR (nI 1000000) a4 a5) tr a1 k) k; omega) (by rw [grow_s (by omega), ← hst]; exact hT) _ _ _ hP hD hS (lv_sub hl [1, 0] rfl)
                    · skip
                      have hkT : T[k]? = some nd := by rw [hTe]; exact kids_pre _ _ _ _ _ _ _ _ hkG
                      have hkl := lt_of_some hkT
                      have hkr := (hT k nd hkT).1
                      refine lv_aload_n hx hb dX6_grow_72 rfl (lv_at hl 0 rfl) ?_
                      refine lv_iload_n hx hb dX6_grow_73 rfl (lv_at hl 1 rfl) ?_
                      refine wk_Vi (As := [.int (nI k)]) (rest := []) ⟨hx, hb, hml, hown, hts⟩ (c_X6_isOld l D cI cJ cZ cA r (nI pl) (nI tr) i7 i8 i9 i13 i15 (bI false) i18 (nI T.length) i22 i23 a1 a2 a4 a5 a6 a10 a11 a12 a14 a16 g20 g21 a24 g25 a26 T k nd hT (by omega) hkT) (cwV 1 hts gX6_grow_X6_isOld rfl rfl rfl (by decide +kernel) ⟨Nat.le_of_ble_eq_true rfl, Nat.le_of_ble_eq_true rfl⟩) hK hP [0, 1, 2, 3, 4, 5, 6, 7, 8, 9, 10, 11, 12, 13, 14, 15] rfl 0 5 rfl rfl hS rfl hl.1 rfl (Nat.le_of_ble_eq_true rfl) dX6_grow_74 ⟨Nat.zero_le _, Nat.zero_le _⟩ (fun H locs hP hS => ?_)
                      refine wk_if_neb (tgt := 235) hx hb dX6_grow_77 (by decide) (fun c77 => ?_) (fun c77 => ?_)
                      · skip
                        have hst : T = stepG (canR a4) (kidR (nI 1000000) a4 a5) tr (growG (canR a4) (kidR (nI 1000000) a4 a5) tr a1 k) k := by
                          rcases Nat.eq_zero_or_pos t with h0 | h0
                          · subst h0
                            rw [step_old hkG c77]; exact hTe
                          · rw [hno h0] at c77; cases c77
                        refine lv_iinc (v := (nI (k + 1))) (lv' := [(1, .int (nI (k + 1))), (0, .ref (r 0)), (2, .int (nI t))]) hx hb dX6_grow_235 hl (k := 1) rfl (by exact nI_1 _) (by decide) rfl (fun ls hl => ?_)
                        refine lv_goto (tgt := 44) hx hb dX6_grow_238 (by decide) ?_
                        have hP : va_P D vwCl (mw cI r (nI pl) (nI tr) i7 i8 i9 i13 i15 (bI false) i18 (nI ((growG (canR a4) (kidR (nI 1000000) a4 a5) tr a1 (k + 1)).length)) i22 i23 a1 a2 a4 a5 a6 a10 a11 a12 a14 a16 g20 g21 a24 g25 a26) H := by rw [grow_s (by omega), ← hst]; exact hP
                        have hD : va_D A (mw cI r (nI pl) (nI tr) i7 i8 i9 i13 i15 (bI false) i18 (nI ((growG (canR a4) (kidR (nI 1000000) a4 a5) tr a1 (k + 1)).length)) i22 i23 a1 a2 a4 a5 a6 a10 a11 a12 a14 a16 g20 g21 a24 g25 a26) := by rw [grow_s (by omega), ← hst]; exact hD
                        exact ih44 (k + 1) g20 g21 g25 (by omega) (by rw [grow_s (by omega)]; have := step_len (canR a4) (kidR (nI 1000000) a4 a5) tr (growG (canR a4) (kidR (nI 1000000) a4 a5) tr a1 k) k; omega) (by rw [grow_s (by omega), ← hst]; exact hT) _ _ _ hP hD hS (lv_sub hl [1, 0] rfl)
                      · skip
                        refine lv_aload_n hx hb dX6_grow_80 rfl (lv_at hl 0 rfl) ?_
                        refine va_get (D := D) (ci := 5) (v := .int (nI T.length)) (C := RX6) (T := TX6) (N := 27) hx hb hts hin6 hown hK hP 0 rfl rfl 19 (by decide) fl128 (fun _ h9 => h9) rfl dX6_grow_81 ?_
                        refine lv_sipush (v := nI 1000) hx hb dX6_grow_84 (by decide) ?_
                        refine wk_icmp_gt (tgt := 235) hx hb (by omega) (by omega) dX6_grow_87 (by decide) (fun c87 => ?_) (fun c87 => ?_)
                        · skip
                          have hst : T = stepG (canR a4) (kidR (nI 1000000) a4 a5) tr (growG (canR a4) (kidR (nI 1000000) a4 a5) tr a1 k) k := by
                            rw [step_new hkG c77]
                            have h9 := kids_stop (can := canR a4 nd.2.1) (kid := kidR (nI 1000000) a4 a5 (nd.2.1 :: nd.2.2)) (k := k) (ch := nd.2.1 :: nd.2.2) (t := t) (T := (growG (canR a4) (kidR (nI 1000000) a4 a5) tr a1 k)) (by rw [← hTe]; omega) (tr - t)
                            exact hTe.trans (h9.symm.trans (congrArg (fun z => kidsG (canR a4 nd.2.1) (kidR (nI 1000000) a4 a5 (nd.2.1 :: nd.2.2)) k (nd.2.1 :: nd.2.2) z (growG (canR a4) (kidR (nI 1000000) a4 a5) tr a1 k)) (show t + (tr - t) = tr by omega)))
                          refine lv_iinc (v := (nI (k + 1))) (lv' := [(1, .int (nI (k + 1))), (0, .ref (r 0)), (2, .int (nI t))]) hx hb dX6_grow_235 hl (k := 1) rfl (by exact nI_1 _) (by decide) rfl (fun ls hl => ?_)
                          refine lv_goto (tgt := 44) hx hb dX6_grow_238 (by decide) ?_
                          have hP : va_P D vwCl (mw cI r (nI pl) (nI tr) i7 i8 i9 i13 i15 (bI false) i18 (nI ((growG (canR a4) (kidR (nI 1000000) a4 a5) tr a1 (k + 1)).length)) i22 i23 a1 a2 a4 a5 a6 a10 a11 a12 a14 a16 g20 g21 a24 g25 a26) H := by rw [grow_s (by omega), ← hst]; exact hP
                          have hD : va_D A (mw cI r (nI pl) (nI tr) i7 i8 i9 i13 i15 (bI false) i18 (nI ((growG (canR a4) (kidR (nI 1000000) a4 a5) tr a1 (k + 1)).length)) i22 i23 a1 a2 a4 a5 a6 a10 a11 a12 a14 a16 g20 g21 a24 g25 a26) := by rw [grow_s (by omega), ← hst]; exact hD
                          exact ih44 (k + 1) g20 g21 g25 (by omega) (by rw [grow_s (by omega)]; have := step_len (canR a4) (kidR (nI 1000000) a4 a5) tr (growG (canR a4) (kidR (nI 1000000) a4 a5) tr a1 k) k; omega) (by rw [grow_s (by omega), ← hst]; exact hT) _ _ _ hP hD hS (lv_sub hl [1, 0] rfl)
                        · skip
                          refine lv_aload_n hx hb dX6_grow_90 rfl (lv_at hl 0 rfl) ?_
                          refine lv_aload_n hx hb dX6_grow_91 rfl (lv_at hl 0 rfl) ?_
                          refine va_get (D := D) (ci := 5) (v := .ref (r 20)) (C := RX6) (T := TX6) (N := 27) hx hb hts hin6 hown hK hP 0 rfl rfl 20 (by decide) fl45 (fun _ h9 => h9) rfl dX6_grow_92 ?_
                          refine lv_iconst (v := nI 5) hx hb dX6_grow_95 (by decide) ?_
                          refine lv_iload_n hx hb dX6_grow_96 rfl (lv_at hl 1 rfl) ?_
                          refine wk_imul hx hb dX6_grow_97 ?_
                          refine lv_iload_n hx hb dX6_grow_98 rfl (lv_at hl 2 rfl) ?_
                          refine wk_Vi (As := [.ref (r 20), .int (nI (5 * k)), .int (nI t)]) (rest := []) ⟨hx, hb, hml, hown, hts⟩ (c_X6_canFire l D cI cJ cZ cA r (nI pl) i7 i8 i9 i13 i15 (bI false) i18 (nI T.length) i22 i23 a1 a2 a4 a5 a6 a10 a11 a12 a14 a16 g20 g21 a24 g25 a26 tr (r 20) 5005 (5 * k) g20 (nI t) (by omega) (by omega) (by omega)) (cwV 3 hts gX6_grow_X6_canFire rfl rfl rfl (by decide +kernel) ⟨Nat.le_of_ble_eq_true rfl, Nat.le_of_ble_eq_true rfl⟩) hK hP [0, 1, 2, 3, 4, 5, 6, 7, 8, 9, 10, 11, 12, 13, 14, 15, 11] rfl 0 5 rfl rfl hS rfl hl.1 rfl (Nat.le_of_ble_eq_true rfl) dX6_grow_99 ⟨Nat.zero_le _, Nat.zero_le _⟩ (fun H locs hP hS => ?_)
                          refine wk_if_eqb (tgt := 229) hx hb dX6_grow_102 (by decide) (fun c102 => ?_) (fun c102 => ?_)
                          · skip
                            refine lv_iinc (v := (nI (t + 1))) (lv' := [(2, .int (nI (t + 1))), (0, .ref (r 0)), (1, .int (nI k))]) hx hb dX6_grow_229 hl (k := 2) rfl (by exact nI_1 _) (by decide) rfl (fun ls hl => ?_)
                            refine lv_goto (tgt := 64) hx hb dX6_grow_232 (by decide) ?_
                            exact ih64 (t + 1) T g20 g21 g25 (by omega) (by omega) hT (by rw [kids_n (by rw [← canM_row htr (by omega) hkr]; exact c102)]; exact hTe) (fun _ => c77) _ _ _ hP hD hS (lv_sub hl [1, 2, 0] rfl)
                          · skip
                            refine lv_iconst (v := nI 0) hx hb dX6_grow_105 (by decide) ?_
                            refine lv_istore_n (lv' := [(3, .int (nI 0)), (0, .ref (r 0)), (1, .int (nI k)), (2, .int (nI t))]) hx hb dX6_grow_106 rfl hl (by decide) rfl (fun ls hl => ?_)
                            have lp107 : ∀ (n9 : Nat) (q : Nat), 5 - q < n9 → q ≤ 5 → ∀ (H : Heap) (locs : List Loc) (ls : Array Slot), va_P D vwCl (mw cI r (nI pl) (nI tr) i7 i8 i9 i13 i15 (bI false) i18 (nI T.length) i22 i23 a1 a2 a4 a5 a6 a10 a11 a12 a14 a16 g20 g21 a24 (cpN (fwA (nI 1000000) a4 a5 g20 k t) g25 q) a26) H → va_D A (mw cI r (nI pl) (nI tr) i7 i8 i9 i13 i15 (bI false) i18 (nI T.length) i22 i23 a1 a2 a4 a5 a6 a10 a11 a12 a14 a16 g20 g21 a24 (cpN (fwA (nI 1000000) a4 a5 g20 k t) g25 q) a26) → va_S A s.heap H locs → lv_has ls 5 [(0, .ref (r 0)), (1, .int (nI k)), (2, .int (nI t)), (3, .int (nI q))] → W p l e ({ frames := 3, cells := 0, slots := 0, locals := 73 } : Room) s m args below meth c H locs 0 0 Q (F0 m 107 ls []) := by
                              intro n9
                              induction n9 with
                              | zero => intro q hm107; exact absurd hm107 (Nat.not_lt_zero _)
                              | succ n9 ih107 =>
                                intro q hm107 hq H locs ls hP hD hS hl
                                refine lv_iload_n hx hb dX6_grow_107 rfl (lv_at hl 3 rfl) ?_
                                refine lv_iconst (v := nI 5) hx hb dX6_grow_108 (by decide) ?_
                                refine wk_icmp_ge (tgt := 172) hx hb (by omega) (by omega) dX6_grow_109 (by decide) (fun c109 => ?_) (fun c109 => ?_)
                                · skip
                                  have hq9 : q = 5 := by omega
                                  subst hq9
                                  refine lv_aload_n hx hb dX6_grow_172 rfl (lv_at hl 0 rfl) ?_
                                  refine lv_iload_n hx hb dX6_grow_173 rfl (lv_at hl 1 rfl) ?_
                                  refine wk_VvW (As := [.int (nI k)]) (rest := []) (wr := []) ⟨hx, hb, hml, hown, hts⟩ (c_X6_accelerate l D cI cJ cZ cA r (nI pl) (nI tr) i7 i8 i9 i13 i15 (bI false) i18 (nI T.length) i22 i23 a1 a2 a4 a5 a6 a10 a11 a12 a14 a16 g20 g21 a24 (cpN (fwA (nI 1000000) a4 a5 g20 k t) g25 5) a26 H.size (fwM (nI 1000000) a4 a5 nd.2.1 t) T k nd hT (by omega) hkT (fun q hq => by rw [cpN_lt hq]; exact fwA_row (hkr q hq))) (cwV 1 hts gX6_grow_X6_accelerate rfl rfl rfl (by decide +kernel) ⟨Nat.le_of_ble_eq_true rfl, Nat.le_of_ble_eq_true rfl⟩) hK hP hD hA [0, 1, 2, 3, 4, 5, 6, 7, 8, 9, 10, 11, 12, 13, 14, 15] rfl (by decide) [] rfl (by decide) (by decide) 0 5 rfl rfl hS rfl hl.1 rfl (Nat.le_of_ble_eq_true rfl) dX6_grow_174 ⟨Nat.le_of_ble_eq_true rfl, Nat.le_of_ble_eq_true rfl⟩ (fun u9 H locs hu hP hD hS => ?_)
                                  have hP : va_P D vwCl (mw cI r (nI pl) (nI tr) i7 i8 i9 i13 i15 (bI false) i18 (nI T.length) i22 i23 a1 a2 a4 a5 a6 a10 a11 a12 a14 a16 g20 g21 a24 u9 a26) H := hP
                                  have hD : va_D A (mw cI r (nI pl) (nI tr) i7 i8 i9 i13 i15 (bI false) i18 (nI T.length) i22 i23 a1 a2 a4 a5 a6 a10 a11 a12 a14 a16 g20 g21 a24 u9 a26) := hD
                                  refine lv_iconst (v := nI 0) hx hb dX6_grow_177 (by decide) ?_
                                  refine lv_istore_n (lv' := [(3, .int (nI 0)), (0, .ref (r 0)), (1, .int (nI k)), (2, .int (nI t))]) hx hb dX6_grow_178 rfl hl (by decide) rfl (fun ls hl => ?_)
                                  have lp179 : ∀ (n9 : Nat) (q : Nat), 5 - q < n9 → q ≤ 5 → ∀ (H : Heap) (locs : List Loc) (ls : Array Slot), va_P D vwCl (mw cI r (nI pl) (nI tr) i7 i8 i9 i13 i15 (bI false) i18 (nI T.length) i22 i23 a1 a2 a4 a5 a6 a10 a11 a12 a14 a16 (wrN g20 u9 (5 * T.length) q) g21 a24 u9 a26) H → va_D A (mw cI r (nI pl) (nI tr) i7 i8 i9 i13 i15 (bI false) i18 (nI T.length) i22 i23 a1 a2 a4 a5 a6 a10 a11 a12 a14 a16 (wrN g20 u9 (5 * T.length) q) g21 a24 u9 a26) → va_S A s.heap H locs → lv_has ls 5 [(0, .ref (r 0)), (1, .int (nI k)), (2, .int (nI t)), (3, .int (nI q))] → W p l e ({ frames := 3, cells := 0, slots := 0, locals := 73 } : Room) s m args below meth c H locs 0 0 Q (F0 m 179 ls []) := by
                                    intro n9
                                    induction n9 with
                                    | zero => intro q hm179; exact absurd hm179 (Nat.not_lt_zero _)
                                    | succ n9 ih179 =>
                                      intro q hm179 hq H locs ls hP hD hS hl
                                      refine lv_iload_n hx hb dX6_grow_179 rfl (lv_at hl 3 rfl) ?_
                                      refine lv_iconst (v := nI 5) hx hb dX6_grow_180 (by decide) ?_
                                      refine wk_icmp_ge (tgt := 209) hx hb (by omega) (by omega) dX6_grow_181 (by decide) (fun c181 => ?_) (fun c181 => ?_)
                                      · skip
                                        have hq9 : q = 5 := by omega
                                        subst hq9
                                        refine lv_aload_n hx hb dX6_grow_209 rfl (lv_at hl 0 rfl) ?_
                                        refine va_get (D := D) (ci := 5) (v := .ref (r 21)) (C := RX6) (T := TX6) (N := 27) hx hb hts hin6 hown hK hP 0 rfl rfl 21 (by decide) fl48 (fun _ h9 => h9) rfl dX6_grow_210 ?_
                                        refine lv_aload_n hx hb dX6_grow_213 rfl (lv_at hl 0 rfl) ?_
                                        refine va_get (D := D) (ci := 5) (v := .int (nI T.length)) (C := RX6) (T := TX6) (N := 27) hx hb hts hin6 hown hK hP 0 rfl rfl 19 (by decide) fl128 (fun _ h9 => h9) rfl dX6_grow_214 ?_
                                        refine lv_iload_n hx hb dX6_grow_217 rfl (lv_at hl 1 rfl) ?_
                                        refine wk_iast hx hb hK hP hD hS 12 0 rfl rfl (i := T.length) (by omega) (by omega) dX6_grow_218 (fun H locs hP hD hS => ?_)
                                        have hP : va_P D vwCl (mw cI r (nI pl) (nI tr) i7 i8 i9 i13 i15 (bI false) i18 (nI T.length) i22 i23 a1 a2 a4 a5 a6 a10 a11 a12 a14 a16 (wrN g20 u9 (5 * T.length) 5) (upd g21 T.length (nI k)) a24 u9 a26) H := hP
                                        have hD : va_D A (mw cI r (nI pl) (nI tr) i7 i8 i9 i13 i15 (bI false) i18 (nI T.length) i22 i23 a1 a2 a4 a5 a6 a10 a11 a12 a14 a16 (wrN g20 u9 (5 * T.length) 5) (upd g21 T.length (nI k)) a24 u9 a26) := hD
                                        refine lv_aload_n hx hb dX6_grow_219 rfl (lv_at hl 0 rfl) ?_
                                        refine lv_dup hx hb dX6_grow_220 rfl ?_
                                        refine va_get (D := D) (ci := 5) (v := .int (nI T.length)) (C := RX6) (T := TX6) (N := 27) hx hb hts hin6 hown hK hP 0 rfl rfl 19 (by decide) fl128 (fun _ h9 => h9) rfl dX6_grow_221 ?_
                                        refine lv_iconst (v := nI 1) hx hb dX6_grow_224 (by decide) ?_
                                        refine wk_iadd hx hb dX6_grow_225 ?_
                                        refine va_put (D := D) (ci := 5) (v := .int (nI (T.length + 1))) (ty := .int) (C := RX6) (T := TX6) (N := 27) hx hb hts hin6 tyX6 tyX6_ok nmX6 hown hK hP hD hS 0 rfl rfl 19 (by decide) fl128 (fun _ h9 => h9) rfl (by decide +kernel) rfl rfl (Nat.le_of_ble_eq_true rfl) dX6_grow_226 (fun H locs hP hD hS => ?_)
                                        have hP : va_P D vwCl (mw cI r (nI pl) (nI tr) i7 i8 i9 i13 i15 (bI false) i18 (nI (T.length + 1)) i22 i23 a1 a2 a4 a5 a6 a10 a11 a12 a14 a16 (wrN g20 u9 (5 * T.length) 5) (upd g21 T.length (nI k)) a24 u9 a26) H := hP
                                        have hD : va_D A (mw cI r (nI pl) (nI tr) i7 i8 i9 i13 i15 (bI false) i18 (nI (T.length + 1)) i22 i23 a1 a2 a4 a5 a6 a10 a11 a12 a14 a16 (wrN g20 u9 (5 * T.length) 5) (upd g21 T.length (nI k)) a24 u9 a26) := hD
                                        refine lv_iinc (v := (nI (t + 1))) (lv' := [(2, .int (nI (t + 1))), (0, .ref (r 0)), (1, .int (nI k)), (3, .int (nI 5))]) hx hb dX6_grow_229 hl (k := 2) rfl (by exact nI_1 _) (by decide) rfl (fun ls hl => ?_)
                                        refine lv_goto (tgt := 64) hx hb dX6_grow_232 (by decide) ?_
                                        have hP : va_P D vwCl (mw cI r (nI pl) (nI tr) i7 i8 i9 i13 i15 (bI false) i18 (nI (T ++ [(k, kidR (nI 1000000) a4 a5 (nd.2.1 :: nd.2.2) t, nd.2.1 :: nd.2.2)]).length) i22 i23 a1 a2 a4 a5 a6 a10 a11 a12 a14 a16 (wrN g20 u9 (5 * T.length) 5) (upd g21 T.length (nI k)) a24 u9 a26) H := by rw [List.length_append]; exact hP
                                        have hD : va_D A (mw cI r (nI pl) (nI tr) i7 i8 i9 i13 i15 (bI false) i18 (nI (T ++ [(k, kidR (nI 1000000) a4 a5 (nd.2.1 :: nd.2.2) t, nd.2.1 :: nd.2.2)]).length) i22 i23 a1 a2 a4 a5 a6 a10 a11 a12 a14 a16 (wrN g20 u9 (5 * T.length) 5) (upd g21 T.length (nI k)) a24 u9 a26) := by rw [List.length_append]; exact hD
                                        exact ih64 (t + 1) (T ++ [(k, kidR (nI 1000000) a4 a5 (nd.2.1 :: nd.2.2) t, nd.2.1 :: nd.2.2)]) (wrN g20 u9 (5 * T.length) 5) (upd g21 T.length (nI k)) u9 (by omega) (by omega) (tv_push hT hkT hu) (by rw [kids_y (by rw [← hTe]; omega) (by rw [← canM_row htr (by omega) hkr]; exact c102), ← hTe]) (fun _ => c77) _ _ _ hP hD hS (lv_sub hl [1, 2, 0] rfl)
                                      · skip
                                        refine lv_aload_n hx hb dX6_grow_184 rfl (lv_at hl 0 rfl) ?_
                                        refine va_get (D := D) (ci := 5) (v := .ref (r 20)) (C := RX6) (T := TX6) (N := 27) hx hb hts hin6 hown hK hP 0 rfl rfl 20 (by decide) fl45 (fun _ h9 => h9) rfl dX6_grow_185 ?_
                                        refine lv_iconst (v := nI 5) hx hb dX6_grow_188 (by decide) ?_
                                        refine lv_aload_n hx hb dX6_grow_189 rfl (lv_at hl 0 rfl) ?_
                                        refine va_get (D := D) (ci := 5) (v := .int (nI T.length)) (C := RX6) (T := TX6) (N := 27) hx hb hts hin6 hown hK hP 0 rfl rfl 19 (by decide) fl128 (fun _ h9 => h9) rfl dX6_grow_190 ?_
                                        refine wk_imul hx hb dX6_grow_193 ?_
                                        refine lv_iload_n hx hb dX6_grow_194 rfl (lv_at hl 3 rfl) ?_
                                        refine wk_iadd hx hb dX6_grow_195 ?_
                                        refine lv_aload_n hx hb dX6_grow_196 rfl (lv_at hl 0 rfl) ?_
                                        refine va_get (D := D) (ci := 5) (v := .ref (r 25)) (C := RX6) (T := TX6) (N := 27) hx hb hts hin6 hown hK hP 0 rfl rfl 25 (by decide) fl54 (fun _ h9 => h9) rfl dX6_grow_197 ?_
                                        refine lv_iload_n hx hb dX6_grow_200 rfl (lv_at hl 3 rfl) ?_
                                        refine wk_iald hx hb hK hP 14 0 rfl rfl (i := q) (by omega) (by omega) dX6_grow_201 ?_
                                        refine wk_iast hx hb hK hP hD hS 11 0 rfl rfl (i := (5 * T.length) + q) (by omega) (by omega) dX6_grow_202 (fun H locs hP hD hS => ?_)
                                        have hP : va_P D vwCl (mw cI r (nI pl) (nI tr) i7 i8 i9 i13 i15 (bI false) i18 (nI T.length) i22 i23 a1 a2 a4 a5 a6 a10 a11 a12 a14 a16 (upd (wrN g20 u9 (5 * T.length) q) ((5 * T.length) + q) (u9 q)) g21 a24 u9 a26) H := hP
                                        have hD : va_D A (mw cI r (nI pl) (nI tr) i7 i8 i9 i13 i15 (bI false) i18 (nI T.length) i22 i23 a1 a2 a4 a5 a6 a10 a11 a12 a14 a16 (upd (wrN g20 u9 (5 * T.length) q) ((5 * T.length) + q) (u9 q)) g21 a24 u9 a26) := hD
                                        refine lv_iinc (v := (nI (q + 1))) (lv' := [(3, .int (nI (q + 1))), (0, .ref (r 0)), (1, .int (nI k)), (2, .int (nI t))]) hx hb dX6_grow_203 hl (k := 3) rfl (by exact nI_1 _) (by decide) rfl (fun ls hl => ?_)
                                        refine lv_goto (tgt := 179) hx hb dX6_grow_206 (by decide) ?_
                                        have hP : va_P D vwCl (mw cI r (nI pl) (nI tr) i7 i8 i9 i13 i15 (bI false) i18 (nI T.length) i22 i23 a1 a2 a4 a5 a6 a10 a11 a12 a14 a16 (wrN g20 u9 (5 * T.length) (q + 1)) g21 a24 u9 a26) H := by rw [← wrN_s]; exact hP
                                        have hD : va_D A (mw cI r (nI pl) (nI tr) i7 i8 i9 i13 i15 (bI false) i18 (nI T.length) i22 i23 a1 a2 a4 a5 a6 a10 a11 a12 a14 a16 (wrN g20 u9 (5 * T.length) (q + 1)) g21 a24 u9 a26) := by rw [← wrN_s]; exact hD
                                        exact ih179 (q + 1) (by omega) (by omega) _ _ _ hP hD hS (lv_sub hl [1, 2, 3, 0] rfl)
                                  have hP : va_P D vwCl (mw cI r (nI pl) (nI tr) i7 i8 i9 i13 i15 (bI false) i18 (nI T.length) i22 i23 a1 a2 a4 a5 a6 a10 a11 a12 a14 a16 (wrN g20 u9 (5 * T.length) 0) g21 a24 u9 a26) H := by rw [wrN_0]; exact hP
                                  have hD : va_D A (mw cI r (nI pl) (nI tr) i7 i8 i9 i13 i15 (bI false) i18 (nI T.length) i22 i23 a1 a2 a4 a5 a6 a10 a11 a12 a14 a16 (wrN g20 u9 (5 * T.length) 0) g21 a24 u9 a26) := by rw [wrN_0]; exact hD
                                  exact lp179 _ 0 (Nat.lt_succ_self _) (by omega) _ _ _ hP hD hS (lv_sub hl [1, 2, 3, 0] rfl)
                                · skip
                                  refine lv_aload_n hx hb dX6_grow_112 rfl (lv_at hl 0 rfl) ?_
                                  refine va_get (D := D) (ci := 5) (v := .ref (r 20)) (C := RX6) (T := TX6) (N := 27) hx hb hts hin6 hown hK hP 0 rfl rfl 20 (by decide) fl45 (fun _ h9 => h9) rfl dX6_grow_113 ?_
                                  refine lv_iconst (v := nI 5) hx hb dX6_grow_116 (by decide) ?_
                                  refine lv_iload_n hx hb dX6_grow_117 rfl (lv_at hl 1 rfl) ?_
                                  refine wk_imul hx hb dX6_grow_118 ?_
                                  refine lv_iload_n hx hb dX6_grow_119 rfl (lv_at hl 3 rfl) ?_
                                  refine wk_iadd hx hb dX6_grow_120 ?_
                                  refine wk_iald hx hb hK hP 11 0 rfl rfl (i := (5 * k) + q) (by omega) (by omega) dX6_grow_121 ?_
                                  refine lv_istore (lv' := [(4, .int (g20 ((5 * k) + q))), (0, .ref (r 0)), (1, .int (nI k)), (2, .int (nI t)), (3, .int (nI q))]) hx hb dX6_grow_122 hl (by decide) rfl (fun ls hl => ?_)
                                  refine lv_aload_n hx hb dX6_grow_124 rfl (lv_at hl 1 rfl) ?_
                                  refine va_get (D := D) (ci := 5) (v := .ref (r 25)) (C := RX6) (T := TX6) (N := 27) hx hb hts hin6 hown hK hP 0 rfl rfl 25 (by decide) fl54 (fun _ h9 => h9) rfl dX6_grow_125 ?_
                                  refine lv_iload_n hx hb dX6_grow_128 rfl (lv_at hl 4 rfl) ?_
                                  refine lv_iload hx hb dX6_grow_129 (lv_at hl 0 rfl) ?_
                                  refine wk_ldc (v := nI 1000000) hx hb hown (hts (.constant RX6 123 (nI 1000000)) (by decide +kernel)) dX6_grow_131 ?_
                                  refine lv_icmp_ne (tgt := 141) hx hb dX6_grow_133 (by decide) (fun c133 => ?_) (fun c133 => ?_)
                                  · skip
                                    refine lv_iload hx hb dX6_grow_141 (lv_at hl 0 rfl) ?_
                                    refine lv_aload_n hx hb dX6_grow_143 rfl (lv_at hl 1 rfl) ?_
                                    refine va_get (D := D) (ci := 5) (v := .ref (r 5)) (C := RX6) (T := TX6) (N := 27) hx hb hts hin6 hown hK hP 0 rfl rfl 5 (by decide) fl19 (fun _ h9 => h9) rfl dX6_grow_144 ?_
                                    refine lv_iconst (v := nI 5) hx hb dX6_grow_147 (by decide) ?_
                                    refine lv_iload_n hx hb dX6_grow_148 rfl (lv_at hl 3 rfl) ?_
                                    refine wk_imul hx hb dX6_grow_149 ?_
                                    refine lv_iload_n hx hb dX6_grow_150 rfl (lv_at hl 4 rfl) ?_
                                    refine wk_iadd hx hb dX6_grow_151 ?_
                                    refine wk_iald hx hb hK hP 4 0 rfl rfl (i := (5 * t) + q) (by omega) (by omega) dX6_grow_152 ?_
                                    refine lv_iadd hx hb dX6_grow_153 ?_
                                    refine lv_aload_n hx hb dX6_grow_154 rfl (lv_at hl 1 rfl) ?_
                                    refine va_get (D := D) (ci := 5) (v := .ref (r 4)) (C := RX6) (T := TX6) (N := 27) hx hb hts hin6 hown hK hP 0 rfl rfl 4 (by decide) fl16 (fun _ h9 => h9) rfl dX6_grow_155 ?_
                                    refine lv_iconst (v := nI 5) hx hb dX6_grow_158 (by decide) ?_
                                    refine lv_iload_n hx hb dX6_grow_159 rfl (lv_at hl 3 rfl) ?_
                                    refine wk_imul hx hb dX6_grow_160 ?_
                                    refine lv_iload_n hx hb dX6_grow_161 rfl (lv_at hl 4 rfl) ?_
                                    refine wk_iadd hx hb dX6_grow_162 ?_
                                    refine wk_iald hx hb hK hP 3 0 rfl rfl (i := (5 * t) + q) (by omega) (by omega) dX6_grow_163 ?_
                                    refine lv_isub hx hb dX6_grow_164 ?_
                                    refine wk_iast hx hb hK hP hD hS 14 0 rfl rfl (i := q) (by omega) (by omega) dX6_grow_165 (fun H locs hP hD hS => ?_)
                                    have hP : va_P D vwCl (mw cI r (nI pl) (nI tr) i7 i8 i9 i13 i15 (bI false) i18 (nI T.length) i22 i23 a1 a2 a4 a5 a6 a10 a11 a12 a14 a16 g20 g21 a24 (upd (cpN (fwA (nI 1000000) a4 a5 g20 k t) g25 q) q (((g20 ((5 * k) + q)) + (a5 ((5 * t) + q))) - (a4 ((5 * t) + q)))) a26) H := hP
                                    have hD : va_D A (mw cI r (nI pl) (nI tr) i7 i8 i9 i13 i15 (bI false) i18 (nI T.length) i22 i23 a1 a2 a4 a5 a6 a10 a11 a12 a14 a16 g20 g21 a24 (upd (cpN (fwA (nI 1000000) a4 a5 g20 k t) g25 q) q (((g20 ((5 * k) + q)) + (a5 ((5 * t) + q))) - (a4 ((5 * t) + q)))) a26) := hD
                                    refine lv_iinc (v := (nI (q + 1))) (lv' := [(3, .int (nI (q + 1))), (4, .int (g20 ((5 * k) + q))), (0, .ref (r 0)), (1, .int (nI k)), (2, .int (nI t))]) hx hb dX6_grow_166 hl (k := 4) rfl (by exact nI_1 _) (by decide) rfl (fun ls hl => ?_)
                                    refine lv_goto (tgt := 107) hx hb dX6_grow_169 (by decide) ?_
                                    have hP : va_P D vwCl (mw cI r (nI pl) (nI tr) i7 i8 i9 i13 i15 (bI false) i18 (nI T.length) i22 i23 a1 a2 a4 a5 a6 a10 a11 a12 a14 a16 g20 g21 a24 (cpN (fwA (nI 1000000) a4 a5 g20 k t) g25 (q + 1)) a26) H := by rw [← cpN_s, fwA_n c133]; exact hP
                                    have hD : va_D A (mw cI r (nI pl) (nI tr) i7 i8 i9 i13 i15 (bI false) i18 (nI T.length) i22 i23 a1 a2 a4 a5 a6 a10 a11 a12 a14 a16 g20 g21 a24 (cpN (fwA (nI 1000000) a4 a5 g20 k t) g25 (q + 1)) a26) := by rw [← cpN_s, fwA_n c133]; exact hD
                                    exact ih107 (q + 1) (by omega) (by omega) _ _ _ hP hD hS (lv_sub hl [2, 3, 4, 0] rfl)
                                  · skip
                                    refine wk_ldc (v := nI 1000000) hx hb hown (hts (.constant RX6 123 (nI 1000000)) (by decide +kernel)) dX6_grow_136 ?_
                                    refine lv_goto (tgt := 165) hx hb dX6_grow_138 (by decide) ?_
                                    refine wk_iast hx hb hK hP hD hS 14 0 rfl rfl (i := q) (by omega) (by omega) dX6_grow_165 (fun H locs hP hD hS => ?_)
                                    have hP : va_P D vwCl (mw cI r (nI pl) (nI tr) i7 i8 i9 i13 i15 (bI false) i18 (nI T.length) i22 i23 a1 a2 a4 a5 a6 a10 a11 a12 a14 a16 g20 g21 a24 (upd (cpN (fwA (nI 1000000) a4 a5 g20 k t) g25 q) q (nI 1000000)) a26) H := hP
                                    have hD : va_D A (mw cI r (nI pl) (nI tr) i7 i8 i9 i13 i15 (bI false) i18 (nI T.length) i22 i23 a1 a2 a4 a5 a6 a10 a11 a12 a14 a16 g20 g21 a24 (upd (cpN (fwA (nI 1000000) a4 a5 g20 k t) g25 q) q (nI 1000000)) a26) := hD
                                    refine lv_iinc (v := (nI (q + 1))) (lv' := [(3, .int (nI (q + 1))), (4, .int (g20 ((5 * k) + q))), (0, .ref (r 0)), (1, .int (nI k)), (2, .int (nI t))]) hx hb dX6_grow_166 hl (k := 4) rfl (by exact nI_1 _) (by decide) rfl (fun ls hl => ?_)
                                    refine lv_goto (tgt := 107) hx hb dX6_grow_169 (by decide) ?_
                                    have hP : va_P D vwCl (mw cI r (nI pl) (nI tr) i7 i8 i9 i13 i15 (bI false) i18 (nI T.length) i22 i23 a1 a2 a4 a5 a6 a10 a11 a12 a14 a16 g20 g21 a24 (cpN (fwA (nI 1000000) a4 a5 g20 k t) g25 (q + 1)) a26) H := by rw [← cpN_s, fwA_y c133]; exact hP
                                    have hD : va_D A (mw cI r (nI pl) (nI tr) i7 i8 i9 i13 i15 (bI false) i18 (nI T.length) i22 i23 a1 a2 a4 a5 a6 a10 a11 a12 a14 a16 g20 g21 a24 (cpN (fwA (nI 1000000) a4 a5 g20 k t) g25 (q + 1)) a26) := by rw [← cpN_s, fwA_y c133]; exact hD
                                    exact ih107 (q + 1) (by omega) (by omega) _ _ _ hP hD hS (lv_sub hl [2, 3, 4, 0] rfl)
                            have hP : va_P D vwCl (mw cI r (nI pl) (nI tr) i7 i8 i9 i13 i15 (bI false) i18 (nI T.length) i22 i23 a1 a2 a4 a5 a6 a10 a11 a12 a14 a16 g20 g21 a24 (cpN (fwA (nI 1000000) a4 a5 g20 k t) g25 0) a26) H := by rw [cpN_0]; exact hP
                            have hD : va_D A (mw cI r (nI pl) (nI tr) i7 i8 i9 i13 i15 (bI false) i18 (nI T.length) i22 i23 a1 a2 a4 a5 a6 a10 a11 a12 a14 a16 g20 g21 a24 (cpN (fwA (nI 1000000) a4 a5 g20 k t) g25 0) a26) := by rw [cpN_0]; exact hD
                            exact lp107 _ 0 (Nat.lt_succ_self _) (by omega) _ _ _ hP hD hS (lv_sub hl [1, 2, 3, 0] rfl)
                exact lp64 _ 0 (growG (canR a4) (kidR (nI 1000000) a4 a5) tr a1 k) f20 f21 f25 (Nat.lt_succ_self _) (by omega) hG rfl (fun h => absurd h (Nat.lt_irrefl 0)) _ _ _ hP hD hS (lv_sub hl [1, 2, 0] rfl)
        have hP : va_P D vwCl (mw cI r (nI pl) (nI tr) i7 i8 i9 i13 i15 (bI false) i18 (nI ((growG (canR a4) (kidR (nI 1000000) a4 a5) tr a1 0).length)) i22 i23 a1 a2 a4 a5 a6 a10 a11 a12 a14 a16 (cpN a1 a20 5) (upd a21 0 (-1)) a24 a25 a26) H := by skip; exact hP
        have hD : va_D A (mw cI r (nI pl) (nI tr) i7 i8 i9 i13 i15 (bI false) i18 (nI ((growG (canR a4) (kidR (nI 1000000) a4 a5) tr a1 0).length)) i22 i23 a1 a2 a4 a5 a6 a10 a11 a12 a14 a16 (cpN a1 a20 5) (upd a21 0 (-1)) a24 a25 a26) := by skip; exact hD
        exact lp44 _ 0 (cpN a1 a20 5) (upd a21 0 (-1)) a25 (Nat.lt_succ_self _) (Nat.zero_le _) (tv_root (fun q hq => cpN_lt hq) pk_us) _ _ _ hP hD hS (lv_sub hl [1, 0] rfl)
      · skip
        refine lv_aload_n hx hb dX6_grow_24 rfl (lv_at hl 0 rfl) ?_
        refine va_get (D := D) (ci := 5) (v := .ref (r 20)) (C := RX6) (T := TX6) (N := 27) hx hb hts hin6 hown hK hP 0 rfl rfl 20 (by decide) fl45 (fun _ h9 => h9) rfl dX6_grow_25 ?_
        refine lv_iload_n hx hb dX6_grow_28 rfl (lv_at hl 1 rfl) ?_
        refine lv_aload_n hx hb dX6_grow_29 rfl (lv_at hl 0 rfl) ?_
        refine va_get (D := D) (ci := 5) (v := .ref (r 1)) (C := RX6) (T := TX6) (N := 27) hx hb hts hin6 hown hK hP 0 rfl rfl 1 (by decide) fl7 (fun _ h9 => h9) rfl dX6_grow_30 ?_
        refine lv_iload_n hx hb dX6_grow_33 rfl (lv_at hl 1 rfl) ?_
        refine wk_iald hx hb hK hP 1 0 rfl rfl (i := q) (by omega) (by omega) dX6_grow_34 ?_
        refine wk_iast hx hb hK hP hD hS 11 0 rfl rfl (i := q) (by omega) (by omega) dX6_grow_35 (fun H locs hP hD hS => ?_)
        have hP : va_P D vwCl (mw cI r (nI pl) (nI tr) i7 i8 i9 i13 i15 (bI false) i18 (nI 1) i22 i23 a1 a2 a4 a5 a6 a10 a11 a12 a14 a16 (upd (cpN a1 a20 q) q (a1 q)) (upd a21 0 (-1)) a24 a25 a26) H := hP
        have hD : va_D A (mw cI r (nI pl) (nI tr) i7 i8 i9 i13 i15 (bI false) i18 (nI 1) i22 i23 a1 a2 a4 a5 a6 a10 a11 a12 a14 a16 (upd (cpN a1 a20 q) q (a1 q)) (upd a21 0 (-1)) a24 a25 a26) := hD
        refine lv_iinc (v := (nI (q + 1))) (lv' := [(1, .int (nI (q + 1))), (0, .ref (r 0))]) hx hb dX6_grow_36 hl (k := 1) rfl (by exact nI_1 _) (by decide) rfl (fun ls hl => ?_)
        refine lv_goto (tgt := 19) hx hb dX6_grow_39 (by decide) ?_
        have hP : va_P D vwCl (mw cI r (nI pl) (nI tr) i7 i8 i9 i13 i15 (bI false) i18 (nI 1) i22 i23 a1 a2 a4 a5 a6 a10 a11 a12 a14 a16 (cpN a1 a20 (q + 1)) (upd a21 0 (-1)) a24 a25 a26) H := by rw [← cpN_s]; exact hP
        have hD : va_D A (mw cI r (nI pl) (nI tr) i7 i8 i9 i13 i15 (bI false) i18 (nI 1) i22 i23 a1 a2 a4 a5 a6 a10 a11 a12 a14 a16 (cpN a1 a20 (q + 1)) (upd a21 0 (-1)) a24 a25 a26) := by rw [← cpN_s]; exact hD
        exact ih19 (q + 1) (by omega) (by omega) _ _ _ hP hD hS (lv_sub hl [1, 0] rfl)
  have hP : va_P D vwCl (mw cI r (nI pl) (nI tr) i7 i8 i9 i13 i15 (bI false) i18 (nI 1) i22 i23 a1 a2 a4 a5 a6 a10 a11 a12 a14 a16 (cpN a1 a20 0) (upd a21 0 (-1)) a24 a25 a26) H := by rw [cpN_0]; exact hP
  have hD : va_D A (mw cI r (nI pl) (nI tr) i7 i8 i9 i13 i15 (bI false) i18 (nI 1) i22 i23 a1 a2 a4 a5 a6 a10 a11 a12 a14 a16 (cpN a1 a20 0) (upd a21 0 (-1)) a24 a25 a26) := by rw [cpN_0]; exact hD
  exact lp19 _ 0 (Nat.lt_succ_self _) (by omega) _ _ _ hP hD hS (lv_sub hl [1, 0] rfl)
