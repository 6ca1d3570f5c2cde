set_option maxHeartbeats 4000000 in
set_option maxRecDepth 100000 in
theorem c_J7_copyOf_c38d5 (l : Launch) (D : va_G) (cI cJ cZ cA : ClassId) (sz ra len : Nat) (f : Nat → Int64) (hlen : len ≤ 50000) (h0 : 0 < len) : Met l yJ7_copyOf_c38d5 wsJ7_copyOf_c38d5 ({ frames := 1, cells := 1, slots := 2 * len, locals := 40 } : Room) (wr_P D (tysC cI cJ cZ cA) [.ref ra, .int (nI (2 * len))] [(ra, .inl (cJ, len, .inr (.inl f)))] sz) (va_Qr (S := Unit) (fun _ => True) (fun u a t => va_P D vwCl ((fun _ q9 => [(ra, .inl (cJ, len, .inr (.inl f))), (q9, .inl (cJ, 2 * len, .inr (.inl (va_cpy f (fun _ => 0) 0 0 len))))]) u a) t.heap ∧ va_D (va_A [(ra, .inl (cJ, len, .inr (.inl f)))] sz) ((fun _ q9 => [(ra, .inl (cJ, len, .inr (.inl f))), (q9, .inl (cJ, 2 * len, .inr (.inl (va_cpy f (fun _ => 0) 0 0 len))))]) u a)) (va_A [(ra, .inl (cJ, len, .inr (.inl f)))] sz)) 1 (2 * len) (va_A [(ra, .inl (cJ, len, .inr (.inl f)))] sz) := by
  refine met_wr (w1 := fun _ q9 => [(ra, .inl (cJ, len, .inr (.inl f))), (q9, .inl (cJ, 2 * len, .inr (.inl (va_cpy f (fun _ => 0) 0 0 len))))]) (cc := cJ7_copyOf_c38d5) (maxL := 3) (ty := (.array .long)) (by decide) rfl (Nat.le_of_ble_eq_true rfl) (Or.inr ⟨_, rfl⟩) ?_
  intro p e s m args below meth c Q A hx hb hml hown hts hP hK hD hA hret ls hl
  obtain ⟨H, hH9⟩ : ∃ H : Heap, H = s.heap := ⟨_, rfl⟩
  have hP : va_P D vwCl [(ra, .inl (cJ, len, .inr (.inl f)))] H := by rw [hH9]; exact hP
  have hS : va_S A s.heap H [] := by rw [hH9]; exact va_S.rf
  rw [← hH9]
  have hown : s.vm.findClass RJ7 = some m.cls := hown
  have hl : lv_has ls 3 [(0, .ref ra), (1, .int (nI (2 * len)))] := hl
  refine lv_iload_n hx hb dJ7_copyOf_c38d5_0 rfl (lv_at hl 1 rfl) ?_
  refine lv_aload_n hx hb dJ7_copyOf_c38d5_1 rfl (lv_at hl 0 rfl) ?_
  refine va_alen (v := nI len) hx hb hK hP 0 1 rfl rfl rfl dJ7_copyOf_c38d5_2 ?_
  refine wk_icmp_ne (tgt := 14) hx hb (by omega) (by omega) dJ7_copyOf_c38d5_3 (by decide) (fun c3 => ?_) (fun c3 => ?_)
  · skip
    refine lv_iload_n hx hb dJ7_copyOf_c38d5_14 rfl (lv_at hl 1 rfl) ?_
    refine wk_newaJ hx hb (hts (.arrayClass .long) (by decide +kernel)) hK hP hD hS hA (n := 2 * len) (by omega) (by omega) (Nat.le_refl _) (by show 0 + 2 * len ≤ 2 * len; omega) dJ7_copyOf_c38d5_15 (fun q_1 H hP hD hS => ?_)
    have hP : va_P D vwCl [(ra, .inl (cJ, len, .inr (.inl f))), (q_1, .inl (cJ, 2 * len, .inr (.inl (fun _ => 0))))] H := hP
    have hD : va_D A [(ra, .inl (cJ, len, .inr (.inl f))), (q_1, .inl (cJ, 2 * len, .inr (.inl (fun _ => 0))))] := hD
    refine lv_astore_n (lv' := [(2, .ref q_1), (0, .ref ra), (1, .int (nI (2 * len)))]) hx hb dJ7_copyOf_c38d5_17 rfl hl (by decide) rfl (fun ls hl => ?_)
    refine lv_aload_n hx hb dJ7_copyOf_c38d5_18 rfl (lv_at hl 1 rfl) ?_
    refine lv_iconst (v := nI 0) hx hb dJ7_copyOf_c38d5_19 (by decide) ?_
    refine lv_aload_n hx hb dJ7_copyOf_c38d5_20 rfl (lv_at hl 0 rfl) ?_
    refine lv_iconst (v := nI 0) hx hb dJ7_copyOf_c38d5_21 (by decide) ?_
    refine lv_aload_n hx hb dJ7_copyOf_c38d5_22 rfl (lv_at hl 1 rfl) ?_
    refine va_alen (v := nI len) hx hb hK hP 0 1 rfl rfl rfl dJ7_copyOf_c38d5_23 ?_
    refine lv_iload_n hx hb dJ7_copyOf_c38d5_24 rfl (lv_at hl 2 rfl) ?_
    refine va_mmin hx hb (hml.trans hl.1.symm) hown (hts (.methodLink RJ7 304 Lib.Math.min.name) (by decide +kernel)) (hts (.static Lib.Math.min.name) (by decide +kernel)) (hts (.initialized "java/lang/Math") (by decide +kernel)) (hts (.code Lib.Math.min.name Lib.Math.min.code 2 (some .int)) (by decide +kernel)) (Nat.le_of_ble_eq_true rfl) (Nat.le_of_ble_eq_true rfl) (Nat.le_refl _) (by show 0 + 2 * len ≤ 2 * len; omega) dJ7_copyOf_c38d5_25 ?_
    rw [if_neg (nI_nlt (show len ≤ 2 * len by omega) (by omega))]
    refine wk_copyJ hx hb (hml.trans hl.1.symm) hown (hts (.methodLink RJ7 150 arraycopyName) (by decide +kernel)) (hts (.native arraycopyName) (by decide +kernel)) (hts (.static arraycopyName) (by decide +kernel)) (hts (.initialized "java/lang/System") (by decide +kernel)) hK hP hD hS 0 1 1 1 rfl rfl rfl rfl (sp := 0) (dp := 0) (n := len) (by omega) (by omega) (by omega) (by omega) (Nat.le_of_ble_eq_true rfl) (Nat.le_of_ble_eq_true rfl) dJ7_copyOf_c38d5_28 (fun H locs hP hD hS => ?_)
    have hP : va_P D vwCl [(ra, .inl (cJ, len, .inr (.inl f))), (q_1, .inl (cJ, 2 * len, .inr (.inl (va_cpy f (fun _ => 0) 0 0 len))))] H := hP
    have hD : va_D A [(ra, .inl (cJ, len, .inr (.inl f))), (q_1, .inl (cJ, 2 * len, .inr (.inl (va_cpy f (fun _ => 0) 0 0 len))))] := hD
    refine lv_aload_n hx hb dJ7_copyOf_c38d5_31 rfl (lv_at hl 0 rfl) ?_
    exact hret () _ _ _ _ _ _ _ trivial hP hD dJ7_copyOf_c38d5_32 hS (Nat.le_refl _) (by omega)
  · skip
    exact absurd c3 (by omega)

set_option maxHeartbeats 4000000 in
set_option maxRecDepth 100000 in
theorem c_X2_add (l : Launch) (D : va_G) (cI cJ cZ cA : ClassId) (sz pa ra len : Nat) (f : Nat → Int64) (X : List Int64) (x : Int64) (hX : listV f X) (hXl : X.length ≤ len) (hlen : len ≤ 50000) (h0 : 0 < len) : Met l yX2_add wsX2_add ({ frames := 2, cells := dC9 (grL X.length len) len, slots := dS9 (grL X.length len) len, locals := 62 } : Room) (wr_P D (tysC cI cJ cZ cA) [.ref pa, .long x] [(pa, .inr (1, [.ref ra, .int (nI X.length)])), (ra, .inl (cJ, len, .inr (.inl f)))] sz) (wr_Qv D (S := Nat × (Nat → Int64)) [(pa, .inr (1, [.ref ra, .int (nI X.length)])), (ra, .inl (cJ, len, .inr (.inl f)))] sz (fun u => listV u.2 (X ++ [x])) (fun u => [(pa, .inr (1, [.ref u.1, .int (nI (X.length + 1))])), (u.1, .inl (cJ, grL X.length len, .inr (.inl u.2)))])) (dC9 (grL X.length len) len) (dS9 (grL X.length len) len) (va_A [(pa, .inr (1, [.ref ra, .int (nI X.length)])), (ra, .inl (cJ, len, .inr (.inl f)))] sz) := by
  refine met_wv (cc := cX2_add) (maxL := 3) (by decide) rfl (Nat.le_of_ble_eq_true rfl) ?_
  intro p e s m args below meth c Q A hx hb hml hown hts hP hK hD hA hret ls hl
  obtain ⟨H, hH9⟩ : ∃ H : Heap, H = s.heap := ⟨_, rfl⟩
  have hP : va_P D vwCl [(pa, .inr (1, [.ref ra, .int (nI X.length)])), (ra, .inl (cJ, len, .inr (.inl f)))] H := by rw [hH9]; exact hP
  have hS : va_S A s.heap H [] := by rw [hH9]; exact va_S.rf
  rw [← hH9]
  have hown : s.vm.findClass RX2 = some m.cls := hown
  have hin2 : ∀ w ∈ wsX20, w ∈ wsX2_add := by decide +kernel
  have fl13 := hts (.fieldLink RX2 13 "CoverRounds$Pile" "size" "I") (by decide +kernel)
  have fl9 := hts (.fieldLink RX2 9 "CoverRounds$Pile" "rows" "[J") (by decide +kernel)
  have hl : lv_has ls 3 [(0, .ref pa), (1, .long x)] := hl
  refine lv_aload_n hx hb dX2_add_0 rfl (lv_at hl 0 rfl) ?_
  refine va_get (D := D) (ci := 1) (v := .int (nI X.length)) (C := RX2) (T := TX2) (N := 2) hx hb hts hin2 hown hK hP 0 rfl rfl 1 (by decide) fl13 (fun _ h9 => h9) rfl dX2_add_1 ?_
  refine lv_aload_n hx hb dX2_add_4 rfl (lv_at hl 0 rfl) ?_
  refine va_get (D := D) (ci := 1) (v := .ref ra) (C := RX2) (T := TX2) (N := 2) hx hb hts hin2 hown hK hP 0 rfl rfl 0 (by decide) fl9 (fun _ h9 => h9) rfl dX2_add_5 ?_
  refine va_alen (v := nI len) hx hb hK hP 1 1 rfl rfl rfl dX2_add_8 ?_
  refine wk_icmp_lt (tgt := 30) hx hb (by omega) (by omega) dX2_add_9 (by decide) (fun c9 => ?_) (fun c9 => ?_)
  · skip
    refine lv_aload_n hx hb dX2_add_30 rfl (lv_at hl 0 rfl) ?_
    refine va_get (D := D) (ci := 1) (v := .ref ra) (C := RX2) (T := TX2) (N := 2) hx hb hts hin2 hown hK hP 0 rfl rfl 0 (by decide) fl9 (fun _ h9 => h9) rfl dX2_add_31 ?_
    refine lv_aload_n hx hb dX2_add_34 rfl (lv_at hl 0 rfl) ?_
    refine va_get (D := D) (ci := 1) (v := .int (nI X.length)) (C := RX2) (T := TX2) (N := 2) hx hb hts hin2 hown hK hP 0 rfl rfl 1 (by decide) fl13 (fun _ h9 => h9) rfl dX2_add_35 ?_
    refine lv_lload_n hx hb dX2_add_38 rfl (lv_at hl 1 rfl) ?_
    refine wk_last hx hb hK hP hD hS 1 1 rfl rfl (i := X.length) (by omega) (by omega) dX2_add_39 (fun H locs hP hD hS => ?_)
    have hP : va_P D vwCl [(pa, .inr (1, [.ref ra, .int (nI X.length)])), (ra, .inl (cJ, len, .inr (.inl (vp_updL f X.length x))))] H := hP
    have hD : va_D A [(pa, .inr (1, [.ref ra, .int (nI X.length)])), (ra, .inl (cJ, len, .inr (.inl (vp_updL f X.length x))))] := hD
    refine lv_aload_n hx hb dX2_add_40 rfl (lv_at hl 0 rfl) ?_
    refine lv_dup hx hb dX2_add_41 rfl ?_
    refine va_get (D := D) (ci := 1) (v := .int (nI X.length)) (C := RX2) (T := TX2) (N := 2) hx hb hts hin2 hown hK hP 0 rfl rfl 1 (by decide) fl13 (fun _ h9 => h9) rfl dX2_add_42 ?_
    refine lv_iconst (v := nI 1) hx hb dX2_add_45 (by decide) ?_
    refine wk_iadd hx hb dX2_add_46 ?_
    refine va_put (D := D) (ci := 1) (v := .int (nI (X.length + 1))) (ty := .int) (C := RX2) (T := TX2) (N := 2) hx hb hts hin2 tyX2 tyX2_ok nmX2 hown hK hP hD hS 0 rfl rfl 1 (by decide) fl13 (fun _ h9 => h9) rfl (by decide +kernel) rfl rfl (Nat.le_of_ble_eq_true rfl) dX2_add_47 (fun H locs hP hD hS => ?_)
    have hP : va_P D vwCl [(pa, .inr (1, [.ref ra, .int (nI (X.length + 1))])), (ra, .inl (cJ, len, .inr (.inl (vp_updL f X.length x))))] H := hP
    have hD : va_D A [(pa, .inr (1, [.ref ra, .int (nI (X.length + 1))])), (ra, .inl (cJ, len, .inr (.inl (vp_updL f X.length x))))] := hD
    exact hret (ra, _) _ _ _ _ _ _ (listV_put hX) (by rw [gr_y c9]; exact hP) (by rw [gr_y c9]; exact hD) dX2_add_50 hS (Nat.zero_le _) (Nat.zero_le _)
  · skip
    refine lv_aload_n hx hb dX2_add_12 rfl (lv_at hl 0 rfl) ?_
    refine lv_aload_n hx hb dX2_add_13 rfl (lv_at hl 0 rfl) ?_
    refine va_get (D := D) (ci := 1) (v := .ref ra) (C := RX2) (T := TX2) (N := 2) hx hb hts hin2 hown hK hP 0 rfl rfl 0 (by decide) fl9 (fun _ h9 => h9) rfl dX2_add_14 ?_
    refine lv_iconst (v := nI 2) hx hb dX2_add_17 (by decide) ?_
    refine lv_aload_n hx hb dX2_add_18 rfl (lv_at hl 0 rfl) ?_
    refine va_get (D := D) (ci := 1) (v := .ref ra) (C := RX2) (T := TX2) (N := 2) hx hb hts hin2 hown hK hP 0 rfl rfl 0 (by decide) fl9 (fun _ h9 => h9) rfl dX2_add_19 ?_
    refine va_alen (v := nI len) hx hb hK hP 1 1 rfl rfl rfl dX2_add_22 ?_
    refine wk_imul hx hb dX2_add_23 ?_
    refine wk_SrW (As := [.ref ra, .int (nI (2 * len))]) (rest := [.ref pa]) (wr := [(pa, .inr (1, [.ref ra, .int (nI X.length)]))]) ⟨hx, hb, hml, hown, hts⟩ (c_J7_copyOf_c38d5 l D cI cJ cZ cA H.size ra len f (by omega) (by omega)) (va_cwS 2 hts gX2_add_J7_copyOf_c38d5 rfl rfl rfl (by decide +kernel) ⟨Nat.le_of_ble_eq_true rfl, Nat.le_of_ble_eq_true rfl⟩) hK hP hD hA [1] rfl (by decide) [0] rfl (by decide) (by decide) hS rfl hl.1 rfl (Nat.le_of_ble_eq_true rfl) dX2_add_24 ⟨by show 0 + 1 ≤ dC9 _ _; rw [dC_gr c9 h0]; omega, by show 0 + 2 * len ≤ dS9 _ _; rw [dS_gr c9]; omega⟩ (fun u9 q_n H locs hu hP hD hS => ?_)
    have hP : va_P D vwCl [(pa, .inr (1, [.ref ra, .int (nI X.length)])), (ra, .inl (cJ, len, .inr (.inl f))), (q_n, .inl (cJ, 2 * len, .inr (.inl (va_cpy f (fun _ => 0) 0 0 len))))] H := hP
    have hD : va_D A [(pa, .inr (1, [.ref ra, .int (nI X.length)])), (ra, .inl (cJ, len, .inr (.inl f))), (q_n, .inl (cJ, 2 * len, .inr (.inl (va_cpy f (fun _ => 0) 0 0 len))))] := hD
    refine va_put (D := D) (ci := 1) (v := .ref q_n) (ty := (tyX2 0)) (C := RX2) (T := TX2) (N := 2) hx hb hts hin2 tyX2 tyX2_ok nmX2 hown hK hP hD hS 0 rfl rfl 0 (by decide) fl9 (fun _ h9 => h9) rfl (by decide +kernel) rfl rfl (Nat.le_of_ble_eq_true rfl) dX2_add_27 (fun H locs hP hD hS => ?_)
    have hP : va_P D vwCl [(pa, .inr (1, [.ref q_n, .int (nI X.length)])), (ra, .inl (cJ, len, .inr (.inl f))), (q_n, .inl (cJ, 2 * len, .inr (.inl (va_cpy f (fun _ => 0) 0 0 len))))] H := hP
    have hD : va_D A [(pa, .inr (1, [.ref q_n, .int (nI X.length)])), (ra, .inl (cJ, len, .inr (.inl f))), (q_n, .inl (cJ, 2 * len, .inr (.inl (va_cpy f (fun _ => 0) 0 0 len))))] := hD
    refine lv_aload_n hx hb dX2_add_30 rfl (lv_at hl 0 rfl) ?_
    refine va_get (D := D) (ci := 1) (v := .ref q_n) (C := RX2) (T := TX2) (N := 2) hx hb hts hin2 hown hK hP 0 rfl rfl 0 (by decide) fl9 (fun _ h9 => h9) rfl dX2_add_31 ?_
    refine lv_aload_n hx hb dX2_add_34 rfl (lv_at hl 0 rfl) ?_
    refine va_get (D := D) (ci := 1) (v := .int (nI X.length)) (C := RX2) (T := TX2) (N := 2) hx hb hts hin2 hown hK hP 0 rfl rfl 1 (by decide) fl13 (fun _ h9 => h9) rfl dX2_add_35 ?_
    refine lv_lload_n hx hb dX2_add_38 rfl (lv_at hl 1 rfl) ?_
    refine wk_last hx hb hK hP hD hS 2 1 rfl rfl (i := X.length) (by omega) (by omega) dX2_add_39 (fun H locs hP hD hS => ?_)
    have hP : va_P D vwCl [(pa, .inr (1, [.ref q_n, .int (nI X.length)])), (ra, .inl (cJ, len, .inr (.inl f))), (q_n, .inl (cJ, 2 * len, .inr (.inl (vp_updL (va_cpy f (fun _ => 0) 0 0 len) X.length x))))] H := hP
    have hD : va_D A [(pa, .inr (1, [.ref q_n, .int (nI X.length)])), (ra, .inl (cJ, len, .inr (.inl f))), (q_n, .inl (cJ, 2 * len, .inr (.inl (vp_updL (va_cpy f (fun _ => 0) 0 0 len) X.length x))))] := hD
    refine lv_aload_n hx hb dX2_add_40 rfl (lv_at hl 0 rfl) ?_
    refine lv_dup hx hb dX2_add_41 rfl ?_
    refine va_get (D := D) (ci := 1) (v := .int (nI X.length)) (C := RX2) (T := TX2) (N := 2) hx hb hts hin2 hown hK hP 0 rfl rfl 1 (by decide) fl13 (fun _ h9 => h9) rfl dX2_add_42 ?_
    refine lv_iconst (v := nI 1) hx hb dX2_add_45 (by decide) ?_
    refine wk_iadd hx hb dX2_add_46 ?_
    refine va_put (D := D) (ci := 1) (v := .int (nI (X.length + 1))) (ty := .int) (C := RX2) (T := TX2) (N := 2) hx hb hts hin2 tyX2 tyX2_ok nmX2 hown hK hP hD hS 0 rfl rfl 1 (by decide) fl13 (fun _ h9 => h9) rfl (by decide +kernel) rfl rfl (Nat.le_of_ble_eq_true rfl) dX2_add_47 (fun H locs hP hD hS => ?_)
    have hP : va_P D vwCl [(pa, .inr (1, [.ref q_n, .int (nI (X.length + 1))])), (ra, .inl (cJ, len, .inr (.inl f))), (q_n, .inl (cJ, 2 * len, .inr (.inl (vp_updL (va_cpy f (fun _ => 0) 0 0 len) X.length x))))] H := hP
    have hD : va_D A [(pa, .inr (1, [.ref q_n, .int (nI (X.length + 1))])), (ra, .inl (cJ, len, .inr (.inl f))), (q_n, .inl (cJ, 2 * len, .inr (.inl (vp_updL (va_cpy f (fun _ => 0) 0 0 len) X.length x))))] := hD
    exact hret (q_n, _) _ _ _ _ _ _ (listV_put (listV_cpy hX hXl)) (by rw [gr_n c9]; exact hP.sub [0, 2] rfl) (by rw [gr_n c9]; exact hD.sub [0, 2] (by decide) rfl) dX2_add_50 hS (by rw [dC_gr c9 h0]; omega) (by rw [dS_gr c9]; omega)
