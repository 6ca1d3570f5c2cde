set_option maxHeartbeats 4000000 in
set_option maxRecDepth 100000 in
theorem c_X4_addChild (l : Launch) (D : va_G) (cI cJ cZ cA : ClassId) (tr : Int32) (b rt rg : Nat → Nat) (f2 f3 : Nat → Int32) (tk gv : Nat → Nat → Int32) (ta : Nat → Nat) (g0 g3 : Int32) (h4 h5 h6 h7 h8 : Nat → Int32) (sz pl k t : Nat) (nd : Nd) (hpl : pl ≤ 5) (ht : t < 6) (T : List Nd) (hT : treeC h5 h6 h7 T) (hTl : T.length < 1000) (hk : T[k]? = some nd)  : Met l yX4_addChild wsX4_addChild ({ frames := 3, cells := 0, slots := 0, locals := 72 } : Room) (wr_P D (tysC cI cJ cZ cA) [.ref (ta 0), .ref (b 0), .int (nI k), .int (nI t)] (nw cI cA b rt rg (nI pl) tr f2 f3 tk gv ++ tw cI cZ ta g0 (nI pl) (nI T.length) g3 h4 h5 h6 h7 h8) sz) (wr_Qv D (S := Nat → Int32) (nw cI cA b rt rg (nI pl) tr f2 f3 tk gv ++ tw cI cZ ta g0 (nI pl) (nI T.length) g3 h4 h5 h6 h7 h8) sz (fun u => treeC u (upd h6 T.length (nI k)) (upd h7 T.length (nI (nd.2.2.length + 1))) (T ++ [(k, (kidP pl (nI 1000000000) tk gv (nd.2.1 :: nd.2.2) t), (nd.2.1 :: nd.2.2))])) (fun u => (nw cI cA b rt rg (nI pl) tr f2 f3 tk gv ++ tw cI cZ ta g0 (nI pl) (nI (T.length + 1)) g3 h4 u (upd h6 T.length (nI k)) (upd h7 T.length (nI (nd.2.2.length + 1))) h8))) 0 0 (va_A (nw cI cA b rt rg (nI pl) tr f2 f3 tk gv ++ tw cI cZ ta g0 (nI pl) (nI T.length) g3 h4 h5 h6 h7 h8) sz) := by
  refine met_wv (cc := cX4_addChild) (maxL := 5) (by decide) rfl (Nat.le_of_ble_eq_true rfl) ?_
  intro p e s m args below meth c Q A hx hb hml hown hts hP hK hD hA hret ls hl
  obtain ⟨H, hH9⟩ : ∃ H : Heap, H = s.heap := ⟨_, rfl⟩
  have hP : va_P D vwCl (nw cI cA b rt rg (nI pl) tr f2 f3 tk gv ++ tw cI cZ ta g0 (nI pl) (nI T.length) g3 h4 h5 h6 h7 h8) H := by rw [hH9]; exact hP
  have hS : va_S A s.heap H [] := by rw [hH9]; exact va_S.rf
  rw [← hH9]
  have hown : s.vm.findClass RX4 = some m.cls := hown
  have hin4 : ∀ w ∈ wsX40, w ∈ wsX4_addChild := by decide +kernel
  have hin0 : ∀ w ∈ wsX00, w ∈ wsX4_addChild := by decide +kernel
  have fl19 := hts (.fieldLink RX4 19 "CoverRounds$Tree" "nodes" "I") (by decide +kernel)
  have fl33 := hts (.fieldLink RX4 33 "CoverRounds$Tree" "above" "[I") (by decide +kernel)
  have fl36 := hts (.fieldLink RX4 36 "CoverRounds$Tree" "depth" "[I") (by decide +kernel)
  have fl29 := hts (.fieldLink RX4 29 "CoverRounds$Tree" "counts" "[I") (by decide +kernel)
  have hl : lv_has ls 5 [(0, .ref (ta 0)), (1, .ref (b 0)), (2, .int (nI k)), (3, .int (nI t))] := hl
  have hkr := (hT k nd hk).1
  have hkl := lt_of_some hk
  have hkd := tc_len hT k nd hk
  refine lv_aload_n hx hb dX4_addChild_0 rfl (lv_at hl 0 rfl) ?_
  refine va_get (D := D) (ci := 3) (v := .int (nI T.length)) (C := RX4) (T := TX4) (N := 9) hx hb hts hin4 hown hK hP 17 rfl rfl 2 (by decide) fl19 (fun _ h9 => h9) rfl dX4_addChild_1 ?_
  refine lv_istore (lv' := [(4, .int (nI T.length)), (0, .ref (ta 0)), (1, .ref (b 0)), (2, .int (nI k)), (3, .int (nI t))]) hx hb dX4_addChild_4 hl (by decide) rfl (fun ls hl => ?_)
  refine lv_aload_n hx hb dX4_addChild_6 rfl (lv_at hl 1 rfl) ?_
  refine lv_iload hx hb dX4_addChild_7 (lv_at hl 0 rfl) ?_
  refine lv_iconst (v := nI 1) hx hb dX4_addChild_9 (by decide) ?_
  refine wk_iadd hx hb dX4_addChild_10 ?_
  refine va_put (D := D) (ci := 3) (v := .int (nI (T.length + 1))) (ty := .int) (C := RX4) (T := TX4) (N := 9) hx hb hts hin4 tyX4 tyX4_ok nmX4 hown hK hP hD hS 17 rfl rfl 2 (by decide) fl19 (fun _ h9 => h9) rfl (by decide +kernel) rfl rfl (Nat.le_of_ble_eq_true rfl) dX4_addChild_11 (fun H locs hP hD hS => ?_)
  have hP : va_P D vwCl (nw cI cA b rt rg (nI pl) tr f2 f3 tk gv ++ tw cI cZ ta g0 (nI pl) (nI (T.length + 1)) g3 h4 h5 h6 h7 h8) H := hP
  have hD : va_D A (nw cI cA b rt rg (nI pl) tr f2 f3 tk gv ++ tw cI cZ ta g0 (nI pl) (nI (T.length + 1)) g3 h4 h5 h6 h7 h8) := hD
  refine lv_aload_n hx hb dX4_addChild_14 rfl (lv_at hl 1 rfl) ?_
  refine va_get (D := D) (ci := 3) (v := .ref (ta 6)) (C := RX4) (T := TX4) (N := 9) hx hb hts hin4 hown hK hP 17 rfl rfl 6 (by decide) fl33 (fun _ h9 => h9) rfl dX4_addChild_15 ?_
  refine lv_iload hx hb dX4_addChild_18 (lv_at hl 0 rfl) ?_
  refine lv_iload_n hx hb dX4_addChild_20 rfl (lv_at hl 3 rfl) ?_
  refine wk_iast hx hb hK hP hD hS 20 0 rfl rfl (i := T.length) (by omega) (by omega) dX4_addChild_21 (fun H locs hP hD hS => ?_)
  have hP : va_P D vwCl (nw cI cA b rt rg (nI pl) tr f2 f3 tk gv ++ tw cI cZ ta g0 (nI pl) (nI (T.length + 1)) g3 h4 h5 (upd h6 T.length (nI k)) h7 h8) H := hP
  have hD : va_D A (nw cI cA b rt rg (nI pl) tr f2 f3 tk gv ++ tw cI cZ ta g0 (nI pl) (nI (T.length + 1)) g3 h4 h5 (upd h6 T.length (nI k)) h7 h8) := hD
  refine lv_aload_n hx hb dX4_addChild_22 rfl (lv_at hl 1 rfl) ?_
  refine va_get (D := D) (ci := 3) (v := .ref (ta 7)) (C := RX4) (T := TX4) (N := 9) hx hb hts hin4 hown hK hP 17 rfl rfl 7 (by decide) fl36 (fun _ h9 => h9) rfl dX4_addChild_23 ?_
  refine lv_iload hx hb dX4_addChild_26 (lv_at hl 0 rfl) ?_
  refine lv_aload_n hx hb dX4_addChild_28 rfl (lv_at hl 1 rfl) ?_
  refine va_get (D := D) (ci := 3) (v := .ref (ta 7)) (C := RX4) (T := TX4) (N := 9) hx hb hts hin4 hown hK hP 17 rfl rfl 7 (by decide) fl36 (fun _ h9 => h9) rfl dX4_addChild_29 ?_
  refine lv_iload_n hx hb dX4_addChild_32 rfl (lv_at hl 3 rfl) ?_
  refine wk_iald hx hb hK hP 21 0 rfl rfl (i := k) (by omega) (by omega) dX4_addChild_33 ?_
  rw [show (h7 k) = (nI nd.2.2.length) from (hT k nd hk).2.1]
  refine lv_iconst (v := nI 1) hx hb dX4_addChild_34 (by decide) ?_
  refine wk_iadd hx hb dX4_addChild_35 ?_
  refine wk_iast hx hb hK hP hD hS 21 0 rfl rfl (i := T.length) (by omega) (by omega) dX4_addChild_36 (fun H locs hP hD hS => ?_)
  have hP : va_P D vwCl (nw cI cA b rt rg (nI pl) tr f2 f3 tk gv ++ tw cI cZ ta g0 (nI pl) (nI (T.length + 1)) g3 h4 h5 (upd h6 T.length (nI k)) (upd h7 T.length (nI (nd.2.2.length + 1))) h8) H := hP
  have hD : va_D A (nw cI cA b rt rg (nI pl) tr f2 f3 tk gv ++ tw cI cZ ta g0 (nI pl) (nI (T.length + 1)) g3 h4 h5 (upd h6 T.length (nI k)) (upd h7 T.length (nI (nd.2.2.length + 1))) h8) := hD
  refine lv_aload_n hx hb dX4_addChild_37 rfl (lv_at hl 1 rfl) ?_
  refine va_get (D := D) (ci := 3) (v := .ref (ta 5)) (C := RX4) (T := TX4) (N := 9) hx hb hts hin4 hown hK hP 17 rfl rfl 5 (by decide) fl29 (fun _ h9 => h9) rfl dX4_addChild_38 ?_
  refine lv_iload_n hx hb dX4_addChild_41 rfl (lv_at hl 3 rfl) ?_
  refine lv_iconst (v := nI 5) hx hb dX4_addChild_42 (by decide) ?_
  refine wk_imulC hx hb dX4_addChild_43 ?_
  refine lv_aload_n hx hb dX4_addChild_44 rfl (lv_at hl 1 rfl) ?_
  refine va_get (D := D) (ci := 3) (v := .ref (ta 5)) (C := RX4) (T := TX4) (N := 9) hx hb hts hin4 hown hK hP 17 rfl rfl 5 (by decide) fl29 (fun _ h9 => h9) rfl dX4_addChild_45 ?_
  refine lv_iload hx hb dX4_addChild_48 (lv_at hl 0 rfl) ?_
  refine lv_iconst (v := nI 5) hx hb dX4_addChild_50 (by decide) ?_
  refine wk_imulC hx hb dX4_addChild_51 ?_
  refine lv_iconst (v := nI 5) hx hb dX4_addChild_52 (by decide) ?_
  refine wk_copyI hx hb (hml.trans hl.1.symm) hown (hts (.methodLink RX4 63 arraycopyName) (by decide +kernel)) (hts (.native arraycopyName) (by decide +kernel)) (hts (.static arraycopyName) (by decide +kernel)) (hts (.initialized "java/lang/System") (by decide +kernel)) hK hP hD hS 19 19 0 0 rfl rfl rfl rfl (sp := 5 * k) (dp := 5 * T.length) (n := 5) (by omega) (by omega) (by omega) (by omega) (Nat.le_of_ble_eq_true rfl) (Nat.le_of_ble_eq_true rfl) dX4_addChild_53 (fun H locs hP hD hS => ?_)
  have hP : va_P D vwCl (nw cI cA b rt rg (nI pl) tr f2 f3 tk gv ++ tw cI cZ ta g0 (nI pl) (nI (T.length + 1)) g3 h4 (va_cpy h5 h5 (5 * k) (5 * T.length) 5) (upd h6 T.length (nI k)) (upd h7 T.length (nI (nd.2.2.length + 1))) h8) H := hP
  have hD : va_D A (nw cI cA b rt rg (nI pl) tr f2 f3 tk gv ++ tw cI cZ ta g0 (nI pl) (nI (T.length + 1)) g3 h4 (va_cpy h5 h5 (5 * k) (5 * T.length) 5) (upd h6 T.length (nI k)) (upd h7 T.length (nI (nd.2.2.length + 1))) h8) := hD
  refine lv_aload_n hx hb dX4_addChild_56 rfl (lv_at hl 2 rfl) ?_
  refine lv_iload_n hx hb dX4_addChild_57 rfl (lv_at hl 4 rfl) ?_
  refine lv_aload_n hx hb dX4_addChild_58 rfl (lv_at hl 1 rfl) ?_
  refine va_get (D := D) (ci := 3) (v := .ref (ta 5)) (C := RX4) (T := TX4) (N := 9) hx hb hts hin4 hown hK hP 17 rfl rfl 5 (by decide) fl29 (fun _ h9 => h9) rfl dX4_addChild_59 ?_
  refine lv_iload hx hb dX4_addChild_62 (lv_at hl 0 rfl) ?_
  refine lv_iconst (v := nI 5) hx hb dX4_addChild_64 (by decide) ?_
  refine wk_imulC hx hb dX4_addChild_65 ?_
  refine wk_VvW (As := [.int (nI t), .ref (ta 5), .int (nI (5 * T.length))]) (rest := []) (wr := [((ta 0), .inr (3, [.int g0, .int (nI pl), .int (nI (T.length + 1)), .int g3, .ref (ta 4), .ref (ta 5), .ref (ta 6), .ref (ta 7), .ref (ta 8)])), ((ta 4), .inl (cZ, 6, .inl h4)), ((ta 6), .inl (cI, 1000, .inl (upd h6 T.length (nI k)))), ((ta 7), .inl (cI, 1000, .inl (upd h7 T.length (nI (nd.2.2.length + 1))))), ((ta 8), .inl (cI, 1000, .inl h8))]) ⟨hx, hb, hml, hown, hts⟩ (c_X0_move l D cI cJ cZ cA b rt rg f2 f3 tk gv tr H.size pl t (ta 5) 5000 (5 * T.length) (va_cpy h5 h5 (5 * k) (5 * T.length) 5) (by omega) (by omega) (by omega) (by omega)) (cwV 3 hts gX4_addChild_X0_move rfl rfl rfl (by decide +kernel) ⟨Nat.le_of_ble_eq_true rfl, Nat.le_of_ble_eq_true rfl⟩) hK hP hD hA [0, 1, 2, 3, 4, 5, 6, 7, 8, 9, 10, 11, 12, 13, 14, 15, 16, 19] rfl (by decide) [17, 18, 20, 21, 22] rfl (by decide) (by decide) 0 0 rfl rfl hS rfl hl.1 rfl (Nat.le_of_ble_eq_true rfl) dX4_addChild_66 ⟨Nat.zero_le _, Nat.zero_le _⟩ (fun u9 H locs hu hP hD hS => ?_)
  have hP : va_P D vwCl (nw cI cA b rt rg (nI pl) tr f2 f3 tk gv ++ tw cI cZ ta g0 (nI pl) (nI (T.length + 1)) g3 h4 (wrN (va_cpy h5 h5 (5 * k) (5 * T.length) 5) (mvW (va_cpy h5 h5 (5 * k) (5 * T.length) 5) (5 * T.length) (gv t) (tk t)) (5 * T.length) pl) (upd h6 T.length (nI k)) (upd h7 T.length (nI (nd.2.2.length + 1))) h8) H := hP.sub [5, 6, 7, 8, 9, 10, 11, 12, 13, 14, 15, 16, 17, 18, 19, 20, 21, 0, 1, 22, 2, 3, 4] rfl
  have hD : va_D A (nw cI cA b rt rg (nI pl) tr f2 f3 tk gv ++ tw cI cZ ta g0 (nI pl) (nI (T.length + 1)) g3 h4 (wrN (va_cpy h5 h5 (5 * k) (5 * T.length) 5) (mvW (va_cpy h5 h5 (5 * k) (5 * T.length) 5) (5 * T.length) (gv t) (tk t)) (5 * T.length) pl) (upd h6 T.length (nI k)) (upd h7 T.length (nI (nd.2.2.length + 1))) h8) := hD.sub [5, 6, 7, 8, 9, 10, 11, 12, 13, 14, 15, 16, 17, 18, 19, 20, 21, 0, 1, 22, 2, 3, 4] (by decide) rfl
  have hkeep : ∀ z, z < 5 * T.length → (wrN (va_cpy h5 h5 (5 * k) (5 * T.length) 5) (mvW (va_cpy h5 h5 (5 * k) (5 * T.length) 5) (5 * T.length) (gv t) (tk t)) (5 * T.length) pl) z = h5 z := fun z hz => (wrN_far (Or.inl hz)).trans (pk_cpy_out (Or.inl hz))
  refine lv_aload_n hx hb dX4_addChild_69 rfl (lv_at hl 1 rfl) ?_
  refine lv_iload hx hb dX4_addChild_70 (lv_at hl 0 rfl) ?_
  refine wk_VvW (As := [.int (nI T.length)]) (rest := []) (wr := [((b 0), .inr (0, [.int (nI pl), .int tr, .ref (b 2), .ref (b 3), .ref (b 4), .ref (b 5)])), ((b 2), .inl (cI, 5, .inl f2)), ((b 3), .inl (cI, 5, .inl f3)), ((b 4), .inl (cA, 6, .inr (.inr (.inr (.inr (rfA rt)))))), ((b 5), .inl (cA, 6, .inr (.inr (.inr (.inr (rfA rg)))))), ((rt 0), .inl (cI, 5, .inl (tk 0))), ((rt 1), .inl (cI, 5, .inl (tk 1))), ((rt 2), .inl (cI, 5, .inl (tk 2))), ((rt 3), .inl (cI, 5, .inl (tk 3))), ((rt 4), .inl (cI, 5, .inl (tk 4))), ((rt 5), .inl (cI, 5, .inl (tk 5))), ((rg 0), .inl (cI, 5, .inl (gv 0))), ((rg 1), .inl (cI, 5, .inl (gv 1))), ((rg 2), .inl (cI, 5, .inl (gv 2))), ((rg 3), .inl (cI, 5, .inl (gv 3))), ((rg 4), .inl (cI, 5, .inl (gv 4))), ((rg 5), .inl (cI, 5, .inl (gv 5)))]) ⟨hx, hb, hml, hown, hts⟩ (c_X4_accelerate l D cI cJ cZ cA ta g0 (nI (T.length + 1)) g3 h4 (wrN (va_cpy h5 h5 (5 * k) (5 * T.length) 5) (mvW (va_cpy h5 h5 (5 * k) (5 * T.length) 5) (5 * T.length) (gv t) (tk t)) (5 * T.length) pl) (upd h6 T.length (nI k)) (upd h7 T.length (nI (nd.2.2.length + 1))) h8 H.size pl k nd (fwP pl (nI 1000000000) (gv t) (tk t) nd.2.1) hpl T (tc_keep (tc_upd hT) hkeep) (by omega) hk pk_us pk_us (fwP_row hkr)) (cwV 1 hts gX4_addChild_X4_accelerate rfl rfl rfl (by decide +kernel) ⟨Nat.le_of_ble_eq_true rfl, Nat.le_of_ble_eq_true rfl⟩) hK hP hD hA [17, 18, 19, 20, 21, 22] rfl (by decide) [0, 1, 2, 3, 4, 5, 6, 7, 8, 9, 10, 11, 12, 13, 14, 15, 16] rfl (by decide) (by decide) 0 3 rfl rfl hS rfl hl.1 rfl (Nat.le_of_ble_eq_true rfl) dX4_addChild_72 ⟨Nat.zero_le _, Nat.zero_le _⟩ (fun u9 H locs hu hP hD hS => ?_)
  have hP : va_P D vwCl (nw cI cA b rt rg (nI pl) tr f2 f3 tk gv ++ tw cI cZ ta g0 (nI pl) (nI (T.length + 1)) g3 h4 u9 (upd h6 T.length (nI k)) (upd h7 T.length (nI (nd.2.2.length + 1))) h8) H := hP
  have hD : va_D A (nw cI cA b rt rg (nI pl) tr f2 f3 tk gv ++ tw cI cZ ta g0 (nI pl) (nI (T.length + 1)) g3 h4 u9 (upd h6 T.length (nI k)) (upd h7 T.length (nI (nd.2.2.length + 1))) h8) := hD
  obtain ⟨hu1, hu2⟩ := hu
  exact hret u9 _ _ _ _ _ _ (tc_push hT hk (fun z hz => (hu2 z hz).trans (hkeep z hz)) hu1) hP hD dX4_addChild_75 hS (Nat.zero_le _) (Nat.zero_le _)

set_option maxHeartbeats 4000000 in
set_option maxRecDepth 100000 in
theorem c_X4_addChildren (l : Launch) (D : va_G) (cI cJ cZ cA : ClassId) (b rt rg : Nat → Nat) (f2 f3 : Nat → Int32) (tk gv : Nat → Nat → Int32) (ta : Nat → Nat) (g0 g3 : Int32) (h4 h5 h6 h7 h8 : Nat → Int32) (sz pl tr k : Nat) (nd : Nd) (hpl : pl ≤ 5) (htr : tr ≤ 6) (T : List Nd) (hT : treeC h5 h6 h7 T) (hTl : T.length ≤ 1000) (hk : T[k]? = some nd) (fr : Nat → Bool) (hfr : ∀ q, q < 6 → h4 q = bI (fr q)) : Met l yX4_addChildren wsX4_addChildren ({ frames := 4, cells := 0, slots := 0, locals := 96 } : Room) (wr_P D (tysC cI cJ cZ cA) [.ref (ta 0), .ref (b 0), .int (nI k)] (nw cI cA b rt rg (nI pl) (nI tr) f2 f3 tk gv ++ tw cI cZ ta g0 (nI pl) (nI T.length) g3 h4 h5 h6 h7 h8) sz) (wr_Qi D (S := Nat × (Nat → Int32) × (Nat → Int32) × (Nat → Int32) × (Nat → Int32)) (nw cI cA b rt rg (nI pl) (nI tr) f2 f3 tk gv ++ tw cI cZ ta g0 (nI pl) (nI T.length) g3 h4 h5 h6 h7 h8) sz (fun r9 u => r9 = bI (decide ((kidsG (canP pl tk nd.2.1) (kidP pl (nI 1000000000) tk gv (nd.2.1 :: nd.2.2)) k (nd.2.1 :: nd.2.2) tr T).length ≤ 1000)) ∧ ((kidsG (canP pl tk nd.2.1) (kidP pl (nI 1000000000) tk gv (nd.2.1 :: nd.2.2)) k (nd.2.1 :: nd.2.2) tr T).length ≤ 1000 → u.1 = (kidsG (canP pl tk nd.2.1) (kidP pl (nI 1000000000) tk gv (nd.2.1 :: nd.2.2)) k (nd.2.1 :: nd.2.2) tr T).length ∧ treeC u.2.2.1 u.2.2.2.1 u.2.2.2.2 (kidsG (canP pl tk nd.2.1) (kidP pl (nI 1000000000) tk gv (nd.2.1 :: nd.2.2)) k (nd.2.1 :: nd.2.2) tr T) ∧ ∀ q, q < 6 → u.2.1 q = bI (frN (canP pl tk nd.2.1) fr tr q))) (fun u => (nw cI cA b rt rg (nI pl) (nI tr) f2 f3 tk gv ++ tw cI cZ ta g0 (nI pl) (nI u.1) g3 u.2.1 u.2.2.1 u.2.2.2.1 u.2.2.2.2 h8))) 0 0 (va_A (nw cI cA b rt rg (nI pl) (nI tr) f2 f3 tk gv ++ tw cI cZ ta g0 (nI pl) (nI T.length) g3 h4 h5 h6 h7 h8) sz) := by
  refine met_wi (cc := cX4_addChildren) (maxL := 4) (ty := .boolean) (by decide) rfl (Nat.le_of_ble_eq_true rfl) ?_
  intro p e s m args below meth c Q A hx hb hml hown hts hP hK hD hA hret ls hl
  obtain ⟨H, hH9⟩ : ∃ H : Heap, H = s.heap := ⟨_, rfl⟩
  have hP : va_P D vwCl (nw cI cA b rt rg (nI pl) (nI tr) f2 f3 tk gv ++ tw cI cZ ta g0 (nI pl) (nI T.length) g3 h4 h5 h6 h7 h8) H := by rw [hH9]; exact hP
  have hS : va_S A s.heap H [] := by rw [hH9]; exact va_S.rf
  rw [← hH9]
  have hown : s.vm.findClass RX4 = some m.cls := hown
  have hin4 : ∀ w ∈ wsX40, w ∈ wsX4_addChildren := by decide +kernel
  have hin0 : ∀ w ∈ wsX00, w ∈ wsX4_addChildren := by decide +kernel
  have fl73 := hts (.fieldLink RX4 73 "CoverRounds$Net" "transitions" "I") (by decide +kernel)
  have fl29 := hts (.fieldLink RX4 29 "CoverRounds$Tree" "counts" "[I") (by decide +kernel)
  have fl19 := hts (.fieldLink RX4 19 "CoverRounds$Tree" "nodes" "I") (by decide +kernel)
  have fl25 := hts (.fieldLink RX4 25 "CoverRounds$Tree" "fires" "[Z") (by decide +kernel)
  have hl : lv_has ls 4 [(0, .ref (ta 0)), (1, .ref (b 0)), (2, .int (nI k))] := hl
  refine lv_iconst (v := nI 0) hx hb dX4_addChildren_0 (by decide) ?_
  refine lv_istore_n (lv' := [(3, .int (nI 0)), (0, .ref (ta 0)), (1, .ref (b 0)), (2, .int (nI k))]) hx hb dX4_addChildren_1 rfl hl (by decide) rfl (fun ls hl => ?_)
  have lp2 : ∀ (n9 : Nat) (t : Nat) (U : List Nd) (f4 : Nat → Int32) (f5 : Nat → Int32) (f6 : Nat → Int32) (f7 : Nat → Int32), tr - t < n9 → t ≤ tr → treeC f5 f6 f7 U → U = (kidsG (canP pl tk nd.2.1) (kidP pl (nI 1000000000) tk gv (nd.2.1 :: nd.2.2)) k (nd.2.1 :: nd.2.2) t T) → U.length ≤ 1000 → (∀ q, q < 6 → f4 q = bI (frN (canP pl tk nd.2.1) fr t q)) → ∀ (H : Heap) (locs : List Loc) (ls : Array Slot), va_P D vwCl (nw cI cA b rt rg (nI pl) (nI tr) f2 f3 tk gv ++ tw cI cZ ta g0 (nI pl) (nI U.length) g3 f4 f5 f6 f7 h8) H → va_D A (nw cI cA b rt rg (nI pl) (nI tr) f2 f3 tk gv ++ tw cI cZ ta g0 (nI pl) (nI U.length) g3 f4 f5 f6 f7 h8) → va_S A s.heap H locs → lv_has ls 4 [(0, .ref (ta 0)), (1, .ref (b 0)), (2, .int (nI k)), (3, .int (nI t))] → W p l e ({ frames := 4, cells := 0, slots := 0, locals := 96 } : Room) s m args below meth c H locs 0 0 Q (F0 m 2 ls []) := by
    intro n9
    induction n9 with
    | zero => intro t U f4 f5 f6 f7 hm2; exact absurd hm2 (Nat.not_lt_zero _)
    | succ n9 ih2 =>
      intro t U f4 f5 f6 f7 hm2 ht hU hUe hUl hf4 H locs ls hP hD hS hl
      have hkU : U[k]? = some nd := by rw [hUe]; exact kids_pre _ _ _ _ _ _ _ _ hk
      have hkr := (hU k nd hkU).1
      have hkl := lt_of_some hkU
      refine lv_iload_n hx hb dX4_addChildren_2 rfl (lv_at hl 3 rfl) ?_
      refine lv_aload_n hx hb dX4_addChildren_3 rfl (lv_at hl 1 rfl) ?_
      refine va_get (D := D) (ci := 0) (v := .int (nI tr)) (C := RX0) (T := TX0) (N := 6) hx hb hts hin0 hown hK hP 0 rfl rfl 1 (by decide) fl73 (fun _ h9 => h9) rfl dX4_addChildren_4 ?_
      refine wk_icmp_ge (tgt := 57) hx hb (by omega) (by omega) dX4_addChildren_7 (by decide) (fun c7 => ?_) (fun c7 => ?_)
      · skip
        refine lv_iconst (v := nI 1) hx hb dX4_addChildren_57 (by decide) ?_
        have htt : tr = t := by omega
        subst htt
        exact hret _ (U.length, f4, f5, f6, f7) _ _ _ _ _ _ rfl ⟨bI_T (decide_eq_true (by rw [← hUe]; exact hUl)), fun _ => ⟨by rw [← hUe], by rw [← hUe]; exact hU, hf4⟩⟩ hP hD dX4_addChildren_58 hS (Nat.zero_le _) (Nat.zero_le _)
      · skip
        refine lv_aload_n hx hb dX4_addChildren_10 rfl (lv_at hl 1 rfl) ?_
        refine lv_iload_n hx hb dX4_addChildren_11 rfl (lv_at hl 3 rfl) ?_
        refine lv_aload_n hx hb dX4_addChildren_12 rfl (lv_at hl 0 rfl) ?_
        refine va_get (D := D) (ci := 3) (v := .ref (ta 5)) (C := RX4) (T := TX4) (N := 9) hx hb hts hin4 hown hK hP 17 rfl rfl 5 (by decide) fl29 (fun _ h9 => h9) rfl dX4_addChildren_13 ?_
        refine lv_iload_n hx hb dX4_addChildren_16 rfl (lv_at hl 2 rfl) ?_
        refine lv_iconst (v := nI 5) hx hb dX4_addChildren_17 (by decide) ?_
        refine wk_imulC hx hb dX4_addChildren_18 ?_
        refine wk_Vi (As := [.int (nI t), .ref (ta 5), .int (nI (5 * k))]) (rest := []) ⟨hx, hb, hml, hown, hts⟩ (c_X0_canFire l D cI cJ cZ cA b rt rg f2 f3 tk gv (nI tr) pl t (ta 5) 5000 (5 * k) f5 (by omega) (by omega) (by omega) (by omega)) (cwV 3 hts gX4_addChildren_X0_canFire rfl rfl rfl (by decide +kernel) ⟨Nat.le_of_ble_eq_true rfl, Nat.le_of_ble_eq_true rfl⟩) hK hP [0, 1, 2, 3, 4, 5, 6, 7, 8, 9, 10, 11, 12, 13, 14, 15, 16, 19] rfl 0 0 rfl rfl hS rfl hl.1 rfl (Nat.le_of_ble_eq_true rfl) dX4_addChildren_19 ⟨Nat.zero_le _, Nat.zero_le _⟩ (fun H locs hP hS => ?_)
        refine wk_if_eqb (tgt := 51) hx hb dX4_addChildren_22 (by decide) (fun c22 => ?_) (fun c22 => ?_)
        · skip
          refine lv_iinc (v := (nI (t + 1))) (lv' := [(3, .int (nI (t + 1))), (0, .ref (ta 0)), (1, .ref (b 0)), (2, .int (nI k))]) hx hb dX4_addChildren_51 hl (k := 3) rfl (by exact nI_1 _) (by decide) rfl (fun ls hl => ?_)
          refine lv_goto (tgt := 2) hx hb dX4_addChildren_54 (by decide) ?_
          exact ih2 (t + 1) U f4 f5 f6 f7 (by omega) (by omega) hU (by rw [kids_n (by rw [← canP_row hpl hkr]; exact c22)]; exact hUe) (by omega) (fr_n hf4 (by rw [← canP_row hpl hkr]; exact c22)) _ _ _ hP hD hS (lv_sub hl [1, 2, 3, 0] rfl)
        · skip
          refine lv_aload_n hx hb dX4_addChildren_25 rfl (lv_at hl 0 rfl) ?_
          refine va_get (D := D) (ci := 3) (v := .int (nI U.length)) (C := RX4) (T := TX4) (N := 9) hx hb hts hin4 hown hK hP 17 rfl rfl 2 (by decide) fl19 (fun _ h9 => h9) rfl dX4_addChildren_26 ?_
          refine lv_sipush (v := nI 1000) hx hb dX4_addChildren_29 (by decide) ?_
          refine wk_icmp_lt (tgt := 37) hx hb (by omega) (by omega) dX4_addChildren_32 (by decide) (fun c32 => ?_) (fun c32 => ?_)
          · skip
            refine lv_aload_n hx hb dX4_addChildren_37 rfl (lv_at hl 0 rfl) ?_
            refine va_get (D := D) (ci := 3) (v := .ref (ta 4)) (C := RX4) (T := TX4) (N := 9) hx hb hts hin4 hown hK hP 17 rfl rfl 4 (by decide) fl25 (fun _ h9 => h9) rfl dX4_addChildren_38 ?_
            refine lv_iload_n hx hb dX4_addChildren_41 rfl (lv_at hl 3 rfl) ?_
            refine lv_iconst (v := nI 1) hx hb dX4_addChildren_42 (by decide) ?_
            refine wk_zast hx hb hK hP hD hS 18 2 rfl rfl (i := t) (b := true) (by omega) (by omega) dX4_addChildren_43 (fun H locs hP hD hS => ?_)
            have hP : va_P D vwCl (nw cI cA b rt rg (nI pl) (nI tr) f2 f3 tk gv ++ tw cI cZ ta g0 (nI pl) (nI U.length) g3 (upd f4 t (bI true)) f5 f6 f7 h8) H := hP
            have hD : va_D A (nw cI cA b rt rg (nI pl) (nI tr) f2 f3 tk gv ++ tw cI cZ ta g0 (nI pl) (nI U.length) g3 (upd f4 t (bI true)) f5 f6 f7 h8) := hD
            refine lv_aload_n hx hb dX4_addChildren_44 rfl (lv_at hl 0 rfl) ?_
            refine lv_aload_n hx hb dX4_addChildren_45 rfl (lv_at hl 1 rfl) ?_
            refine lv_iload_n hx hb dX4_addChildren_46 rfl (lv_at hl 2 rfl) ?_
            refine lv_iload_n hx hb dX4_addChildren_47 rfl (lv_at hl 3 rfl) ?_
            refine wk_VvW (As := [.ref (b 0), .int (nI k), .int (nI t)]) (rest := []) (wr := []) ⟨hx, hb, hml, hown, hts⟩ (c_X4_addChild l D cI cJ cZ cA (nI tr) b rt rg f2 f3 tk gv ta g0 g3 (upd f4 t (bI true)) f5 f6 f7 h8 H.size pl k t nd hpl (by omega) U hU (by omega) hkU) (cwV 3 hts gX4_addChildren_X4_addChild rfl rfl rfl (by decide +kernel) ⟨Nat.le_of_ble_eq_true rfl, Nat.le_of_ble_eq_true rfl⟩) hK hP hD hA [0, 1, 2, 3, 4, 5, 6, 7, 8, 9, 10, 11, 12, 13, 14, 15, 16, 17, 18, 19, 20, 21, 22] rfl (by decide) [] rfl (by decide) (by decide) 17 3 rfl rfl hS rfl hl.1 rfl (Nat.le_of_ble_eq_true rfl) dX4_addChildren_48 ⟨Nat.zero_le _, Nat.zero_le _⟩ (fun u9 H locs hu hP hD hS => ?_)
            have hP : va_P D vwCl (nw cI cA b rt rg (nI pl) (nI tr) f2 f3 tk gv ++ tw cI cZ ta g0 (nI pl) (nI (U.length + 1)) g3 (upd f4 t (bI true)) u9 (upd f6 U.length (nI k)) (upd f7 U.length (nI (nd.2.2.length + 1))) h8) H := hP
            have hD : va_D A (nw cI cA b rt rg (nI pl) (nI tr) f2 f3 tk gv ++ tw cI cZ ta g0 (nI pl) (nI (U.length + 1)) g3 (upd f4 t (bI true)) u9 (upd f6 U.length (nI k)) (upd f7 U.length (nI (nd.2.2.length + 1))) h8) := hD
            refine lv_iinc (v := (nI (t + 1))) (lv' := [(3, .int (nI (t + 1))), (0, .ref (ta 0)), (1, .ref (b 0)), (2, .int (nI k))]) hx hb dX4_addChildren_51 hl (k := 3) rfl (by exact nI_1 _) (by decide) rfl (fun ls hl => ?_)
            refine lv_goto (tgt := 2) hx hb dX4_addChildren_54 (by decide) ?_
            have hP : va_P D vwCl (nw cI cA b rt rg (nI pl) (nI tr) f2 f3 tk gv ++ tw cI cZ ta g0 (nI pl) (nI (U ++ [(k, (kidP pl (nI 1000000000) tk gv (nd.2.1 :: nd.2.2) t), (nd.2.1 :: nd.2.2))]).length) g3 (upd f4 t (bI true)) u9 (upd f6 U.length (nI k)) (upd f7 U.length (nI (nd.2.2.length + 1))) h8) H := by rw [List.length_append]; exact hP
            have hD : va_D A (nw cI cA b rt rg (nI pl) (nI tr) f2 f3 tk gv ++ tw cI cZ ta g0 (nI pl) (nI (U ++ [(k, (kidP pl (nI 1000000000) tk gv (nd.2.1 :: nd.2.2) t), (nd.2.1 :: nd.2.2))]).length) g3 (upd f4 t (bI true)) u9 (upd f6 U.length (nI k)) (upd f7 U.length (nI (nd.2.2.length + 1))) h8) := by rw [List.length_append]; exact hD
            exact ih2 (t + 1) (U ++ [(k, (kidP pl (nI 1000000000) tk gv (nd.2.1 :: nd.2.2) t), (nd.2.1 :: nd.2.2))]) (upd f4 t (bI true)) u9 (upd f6 U.length (nI k)) (upd f7 U.length (nI (nd.2.2.length + 1))) (by omega) (by omega) hu (by rw [kids_y (by rw [← hUe]; omega) (by rw [← canP_row hpl hkr]; exact c22), ← hUe]) (by rw [List.length_append, List.length_singleton]; omega) (fr_y hf4 (by rw [← canP_row hpl hkr]; exact c22)) _ _ _ hP hD hS (lv_sub hl [1, 2, 3, 0] rfl)
          · skip
            refine lv_iconst (v := nI 0) hx hb dX4_addChildren_35 (by decide) ?_
            have hbig : 1000 < (kidsG (canP pl tk nd.2.1) (kidP pl (nI 1000000000) tk gv (nd.2.1 :: nd.2.2)) k (nd.2.1 :: nd.2.2) tr T).length := by
              have h8 : (kidsG (canP pl tk nd.2.1) (kidP pl (nI 1000000000) tk gv (nd.2.1 :: nd.2.2)) k (nd.2.1 :: nd.2.2) (t + 1) T) = U ++ [(k, (kidP pl (nI 1000000000) tk gv (nd.2.1 :: nd.2.2) t), (nd.2.1 :: nd.2.2))] := by rw [kids_y (by rw [← hUe]; omega) (by rw [← canP_row hpl hkr]; exact c22), ← hUe]
              have h9 := kids_mono (canP pl tk nd.2.1) (kidP pl (nI 1000000000) tk gv (nd.2.1 :: nd.2.2)) k (nd.2.1 :: nd.2.2) T (t + 1) (tr - (t + 1))
              rw [show t + 1 + (tr - (t + 1)) = tr by omega, h8, List.length_append, List.length_singleton] at h9
              omega
            exact hret _ (U.length, f4, f5, f6, f7) _ _ _ _ _ _ rfl ⟨bI_F (decide_eq_false (by omega)), fun h9 => absurd h9 (by omega)⟩ hP hD dX4_addChildren_36 hS (Nat.zero_le _) (Nat.zero_le _)
  exact lp2 _ 0 T h4 h5 h6 h7 (Nat.lt_succ_self _) (by omega) hT rfl (by omega) (fun q hq => by rw [hfr q hq]; unfold frN; simp) _ _ _ hP hD hS (lv_sub hl [1, 2, 3, 0] rfl)

set_option maxHeartbeats 4000000 in
set_option maxRecDepth 100000 in
theorem c_X4_begin (l : Launch) (D : va_G) (cI cJ cZ cA : ClassId) (tr : Int32) (b rt rg : Nat → Nat) (f2 f3 : Nat → Int32) (tk gv : Nat → Nat → Int32) (ta : Nat → Nat) (g0 g1 g2 g3 : Int32) (h4 h5 h6 h7 h8 : Nat → Int32) (sz pl : Nat) : Met l yX4_begin wsX4_begin ({ frames := 1, cells := 0, slots := 0, locals := 40 } : Room) (wr_P D (tysC cI cJ cZ cA) [.ref (ta 0), .ref (b 0)] (nw cI cA b rt rg (nI pl) tr f2 f3 tk gv ++ tw cI cZ ta g0 g1 g2 g3 h4 h5 h6 h7 h8) sz) (wr_Qv D (S := Unit) (nw cI cA b rt rg (nI pl) tr f2 f3 tk gv ++ tw cI cZ ta g0 g1 g2 g3 h4 h5 h6 h7 h8) sz (fun _ => True) (fun _ => (nw cI cA b rt rg (nI pl) tr f2 f3 tk gv ++ tw cI cZ ta g0 (nI pl) (nI 1) (nI 0) (cpN (fun _ => bI false) h4 6) (va_cpy f2 h5 0 0 5) (upd h6 0 (nI 0)) (upd h7 0 (nI 0)) h8))) 0 0 (va_A (nw cI cA b rt rg (nI pl) tr f2 f3 tk gv ++ tw cI cZ ta g0 g1 g2 g3 h4 h5 h6 h7 h8) sz) := by
  refine met_wv (cc := cX4_begin) (maxL := 3) (by decide) rfl (Nat.le_of_ble_eq_true rfl) ?_
  intro p e s m args below meth c Q A hx hb hml hown hts hP hK hD hA hret ls hl
  obtain ⟨H, hH9⟩ : ∃ H : Heap, H = s.heap := ⟨_, rfl⟩
  have hP : va_P D vwCl (nw cI cA b rt rg (nI pl) tr f2 f3 tk gv ++ tw cI cZ ta g0 g1 g2 g3 h4 h5 h6 h7 h8) H := by rw [hH9]; exact hP
  have hS : va_S A s.heap H [] := by rw [hH9]; exact va_S.rf
  rw [← hH9]
  have hown : s.vm.findClass RX4 = some m.cls := hown
  have hin4 : ∀ w ∈ wsX40, w ∈ wsX4_begin := by decide +kernel
  have hin0 : ∀ w ∈ wsX00, w ∈ wsX4_begin := by decide +kernel
  have fl57 := hts (.fieldLink RX4 57 "CoverRounds$Net" "places" "I") (by decide +kernel)
  have fl15 := hts (.fieldLink RX4 15 "CoverRounds$Tree" "places" "I") (by decide +kernel)
  have fl25 := hts (.fieldLink RX4 25 "CoverRounds$Tree" "fires" "[Z") (by decide +kernel)
  have fl60 := hts (.fieldLink RX4 60 "CoverRounds$Net" "first" "[I") (by decide +kernel)
  have fl29 := hts (.fieldLink RX4 29 "CoverRounds$Tree" "counts" "[I") (by decide +kernel)
  have fl33 := hts (.fieldLink RX4 33 "CoverRounds$Tree" "above" "[I") (by decide +kernel)
  have fl36 := hts (.fieldLink RX4 36 "CoverRounds$Tree" "depth" "[I") (by decide +kernel)
  have fl19 := hts (.fieldLink RX4 19 "CoverRounds$Tree" "nodes" "I") (by decide +kernel)
  have fl22 := hts (.fieldLink RX4 22 "CoverRounds$Tree" "limitCount" "I") (by decide +kernel)
  have hl : lv_has ls 3 [(0, .ref (ta 0)), (1, .ref (b 0))] := hl
  refine lv_aload_n hx hb dX4_begin_0 rfl (lv_at hl 0 rfl) ?_
  refine lv_aload_n hx hb dX4_begin_1 rfl (lv_at hl 1 rfl) ?_
  refine va_get (D := D) (ci := 0) (v := .int (nI pl)) (C := RX0) (T := TX0) (N := 6) hx hb hts hin0 hown hK hP 0 rfl rfl 0 (by decide) fl57 (fun _ h9 => h9) rfl dX4_begin_2 ?_
  refine va_put (D := D) (ci := 3) (v := .int (nI pl)) (ty := .int) (C := RX4) (T := TX4) (N := 9) hx hb hts hin4 tyX4 tyX4_ok nmX4 hown hK hP hD hS 17 rfl rfl 1 (by decide) fl15 (fun _ h9 => h9) rfl (by decide +kernel) rfl rfl (Nat.le_of_ble_eq_true rfl) dX4_begin_5 (fun H locs hP hD hS => ?_)
  have hP : va_P D vwCl (nw cI cA b rt rg (nI pl) tr f2 f3 tk gv ++ tw cI cZ ta g0 (nI pl) g2 g3 h4 h5 h6 h7 h8) H := hP
  have hD : va_D A (nw cI cA b rt rg (nI pl) tr f2 f3 tk gv ++ tw cI cZ ta g0 (nI pl) g2 g3 h4 h5 h6 h7 h8) := hD
  refine lv_iconst (v := nI 0) hx hb dX4_begin_8 (by decide) ?_
  refine lv_istore_n (lv' := [(2, .int (nI 0)), (0, .ref (ta 0)), (1, .ref (b 0))]) hx hb dX4_begin_9 rfl hl (by decide) rfl (fun ls hl => ?_)
  have lp10 : ∀ (n9 : Nat) (q : Nat), 6 - q < n9 → q ≤ 6 → ∀ (H : Heap) (locs : List Loc) (ls : Array Slot), va_P D vwCl (nw cI cA b rt rg (nI pl) tr f2 f3 tk gv ++ tw cI cZ ta g0 (nI pl) g2 g3 (cpN (fun _ => bI false) h4 q) h5 h6 h7 h8) H → va_D A (nw cI cA b rt rg (nI pl) tr f2 f3 tk gv ++ tw cI cZ ta g0 (nI pl) g2 g3 (cpN (fun _ => bI false) h4 q) h5 h6 h7 h8) → va_S A s.heap H locs → lv_has ls 3 [(0, .ref (ta 0)), (1, .ref (b 0)), (2, .int (nI q))] → W p l e ({ frames := 1, cells := 0, slots := 0, locals := 40 } : Room) s m args below meth c H locs 0 0 Q (F0 m 10 ls []) := by
    intro n9
    induction n9 with
    | zero => intro q hm10; exact absurd hm10 (Nat.not_lt_zero _)
    | succ n9 ih10 =>
      intro q hm10 hq H locs ls hP hD hS hl
      refine lv_iload_n hx hb dX4_begin_10 rfl (lv_at hl 2 rfl) ?_
      refine lv_bipush (v := nI 6) hx hb dX4_begin_11 (by decide) ?_
      refine wk_icmp_ge (tgt := 29) hx hb (by omega) (by omega) dX4_begin_13 (by decide) (fun c13 => ?_) (fun c13 => ?_)
      · skip
        have hq9 : q = 6 := by omega
        subst hq9
        refine lv_aload_n hx hb dX4_begin_29 rfl (lv_at hl 1 rfl) ?_
        refine va_get (D := D) (ci := 0) (v := .ref (b 2)) (C := RX0) (T := TX0) (N := 6) hx hb hts hin0 hown hK hP 0 rfl rfl 2 (by decide) fl60 (fun _ h9 => h9) rfl dX4_begin_30 ?_
        refine lv_iconst (v := nI 0) hx hb dX4_begin_33 (by decide) ?_
        refine lv_aload_n hx hb dX4_begin_34 rfl (lv_at hl 0 rfl) ?_
        refine va_get (D := D) (ci := 3) (v := .ref (ta 5)) (C := RX4) (T := TX4) (N := 9) hx hb hts hin4 hown hK hP 17 rfl rfl 5 (by decide) fl29 (fun _ h9 => h9) rfl dX4_begin_35 ?_
        refine lv_iconst (v := nI 0) hx hb dX4_begin_38 (by decide) ?_
        refine lv_iconst (v := nI 5) hx hb dX4_begin_39 (by decide) ?_
        refine wk_copyI hx hb (hml.trans hl.1.symm) hown (hts (.methodLink RX4 63 arraycopyName) (by decide +kernel)) (hts (.native arraycopyName) (by decide +kernel)) (hts (.static arraycopyName) (by decide +kernel)) (hts (.initialized "java/lang/System") (by decide +kernel)) hK hP hD hS 1 19 0 0 rfl rfl rfl rfl (sp := 0) (dp := 0) (n := 5) (by omega) (by omega) (by omega) (by omega) (Nat.le_of_ble_eq_true rfl) (Nat.le_of_ble_eq_true rfl) dX4_begin_40 (fun H locs hP hD hS => ?_)
        have hP : va_P D vwCl (nw cI cA b rt rg (nI pl) tr f2 f3 tk gv ++ tw cI cZ ta g0 (nI pl) g2 g3 (cpN (fun _ => bI false) h4 6) (va_cpy f2 h5 0 0 5) h6 h7 h8) H := hP
        have hD : va_D A (nw cI cA b rt rg (nI pl) tr f2 f3 tk gv ++ tw cI cZ ta g0 (nI pl) g2 g3 (cpN (fun _ => bI false) h4 6) (va_cpy f2 h5 0 0 5) h6 h7 h8) := hD
        refine lv_aload_n hx hb dX4_begin_43 rfl (lv_at hl 0 rfl) ?_
        refine va_get (D := D) (ci := 3) (v := .ref (ta 6)) (C := RX4) (T := TX4) (N := 9) hx hb hts hin4 hown hK hP 17 rfl rfl 6 (by decide) fl33 (fun _ h9 => h9) rfl dX4_begin_44 ?_
        refine lv_iconst (v := nI 0) hx hb dX4_begin_47 (by decide) ?_
        refine lv_iconst (v := nI 0) hx hb dX4_begin_48 (by decide) ?_
        refine wk_iast hx hb hK hP hD hS 20 0 rfl rfl (i := 0) (by omega) (by omega) dX4_begin_49 (fun H locs hP hD hS => ?_)
        have hP : va_P D vwCl (nw cI cA b rt rg (nI pl) tr f2 f3 tk gv ++ tw cI cZ ta g0 (nI pl) g2 g3 (cpN (fun _ => bI false) h4 6) (va_cpy f2 h5 0 0 5) (upd h6 0 (nI 0)) h7 h8) H := hP
        have hD : va_D A (nw cI cA b rt rg (nI pl) tr f2 f3 tk gv ++ tw cI cZ ta g0 (nI pl) g2 g3 (cpN (fun _ => bI false) h4 6) (va_cpy f2 h5 0 0 5) (upd h6 0 (nI 0)) h7 h8) := hD
        refine lv_aload_n hx hb dX4_begin_50 rfl (lv_at hl 0 rfl) ?_
        refine va_get (D := D) (ci := 3) (v := .ref (ta 7)) (C := RX4) (T := TX4) (N := 9) hx hb hts hin4 hown hK hP 17 rfl rfl 7 (by decide) fl36 (fun _ h9 => h9) rfl dX4_begin_51 ?_
        refine lv_iconst (v := nI 0) hx hb dX4_begin_54 (by decide) ?_
        refine lv_iconst (v := nI 0) hx hb dX4_begin_55 (by decide) ?_
        refine wk_iast hx hb hK hP hD hS 21 0 rfl rfl (i := 0) (by omega) (by omega) dX4_begin_56 (fun H locs hP hD hS => ?_)
        have hP : va_P D vwCl (nw cI cA b rt rg (nI pl) tr f2 f3 tk gv ++ tw cI cZ ta g0 (nI pl) g2 g3 (cpN (fun _ => bI false) h4 6) (va_cpy f2 h5 0 0 5) (upd h6 0 (nI 0)) (upd h7 0 (nI 0)) h8) H := hP
        have hD : va_D A (nw cI cA b rt rg (nI pl) tr f2 f3 tk gv ++ tw cI cZ ta g0 (nI pl) g2 g3 (cpN (fun _ => bI false) h4 6) (va_cpy f2 h5 0 0 5) (upd h6 0 (nI 0)) (upd h7 0 (nI 0)) h8) := hD
        refine lv_aload_n hx hb dX4_begin_57 rfl (lv_at hl 0 rfl) ?_
        refine lv_iconst (v := nI 1) hx hb dX4_begin_58 (by decide) ?_
        refine va_put (D := D) (ci := 3) (v := .int (nI 1)) (ty := .int) (C := RX4) (T := TX4) (N := 9) hx hb hts hin4 tyX4 tyX4_ok nmX4 hown hK hP hD hS 17 rfl rfl 2 (by decide) fl19 (fun _ h9 => h9) rfl (by decide +kernel) rfl rfl (Nat.le_of_ble_eq_true rfl) dX4_begin_59 (fun H locs hP hD hS => ?_)
        have hP : va_P D vwCl (nw cI cA b rt rg (nI pl) tr f2 f3 tk gv ++ tw cI cZ ta g0 (nI pl) (nI 1) g3 (cpN (fun _ => bI false) h4 6) (va_cpy f2 h5 0 0 5) (upd h6 0 (nI 0)) (upd h7 0 (nI 0)) h8) H := hP
        have hD : va_D A (nw cI cA b rt rg (nI pl) tr f2 f3 tk gv ++ tw cI cZ ta g0 (nI pl) (nI 1) g3 (cpN (fun _ => bI false) h4 6) (va_cpy f2 h5 0 0 5) (upd h6 0 (nI 0)) (upd h7 0 (nI 0)) h8) := hD
        refine lv_aload_n hx hb dX4_begin_62 rfl (lv_at hl 0 rfl) ?_
        refine lv_iconst (v := nI 0) hx hb dX4_begin_63 (by decide) ?_
        refine va_put (D := D) (ci := 3) (v := .int (nI 0)) (ty := .int) (C := RX4) (T := TX4) (N := 9) hx hb hts hin4 tyX4 tyX4_ok nmX4 hown hK hP hD hS 17 rfl rfl 3 (by decide) fl22 (fun _ h9 => h9) rfl (by decide +kernel) rfl rfl (Nat.le_of_ble_eq_true rfl) dX4_begin_64 (fun H locs hP hD hS => ?_)
        have hP : va_P D vwCl (nw cI cA b rt rg (nI pl) tr f2 f3 tk gv ++ tw cI cZ ta g0 (nI pl) (nI 1) (nI 0) (cpN (fun _ => bI false) h4 6) (va_cpy f2 h5 0 0 5) (upd h6 0 (nI 0)) (upd h7 0 (nI 0)) h8) H := hP
        have hD : va_D A (nw cI cA b rt rg (nI pl) tr f2 f3 tk gv ++ tw cI cZ ta g0 (nI pl) (nI 1) (nI 0) (cpN (fun _ => bI false) h4 6) (va_cpy f2 h5 0 0 5) (upd h6 0 (nI 0)) (upd h7 0 (nI 0)) h8) := hD
        exact hret () _ _ _ _ _ _ trivial hP hD dX4_begin_67 hS (Nat.zero_le _) (Nat.zero_le _)
      · skip
        refine lv_aload_n hx hb dX4_begin_16 rfl (lv_at hl 0 rfl) ?_
        refine va_get (D := D) (ci := 3) (v := .ref (ta 4)) (C := RX4) (T := TX4) (N := 9) hx hb hts hin4 hown hK hP 17 rfl rfl 4 (by decide) fl25 (fun _ h9 => h9) rfl dX4_begin_17 ?_
        refine lv_iload_n hx hb dX4_begin_20 rfl (lv_at hl 2 rfl) ?_
        refine lv_iconst (v := nI 0) hx hb dX4_begin_21 (by decide) ?_
        refine wk_zast hx hb hK hP hD hS 18 2 rfl rfl (i := q) (b := false) (by omega) (by omega) dX4_begin_22 (fun H locs hP hD hS => ?_)
        have hP : va_P D vwCl (nw cI cA b rt rg (nI pl) tr f2 f3 tk gv ++ tw cI cZ ta g0 (nI pl) g2 g3 (upd (cpN (fun _ => bI false) h4 q) q (bI false)) h5 h6 h7 h8) H := hP
        have hD : va_D A (nw cI cA b rt rg (nI pl) tr f2 f3 tk gv ++ tw cI cZ ta g0 (nI pl) g2 g3 (upd (cpN (fun _ => bI false) h4 q) q (bI false)) h5 h6 h7 h8) := hD
        refine lv_iinc (v := (nI (q + 1))) (lv' := [(2, .int (nI (q + 1))), (0, .ref (ta 0)), (1, .ref (b 0))]) hx hb dX4_begin_23 hl (k := 2) rfl (by exact nI_1 _) (by decide) rfl (fun ls hl => ?_)
        refine lv_goto (tgt := 10) hx hb dX4_begin_26 (by decide) ?_
        have hP : va_P D vwCl (nw cI cA b rt rg (nI pl) tr f2 f3 tk gv ++ tw cI cZ ta g0 (nI pl) g2 g3 (cpN (fun _ => bI false) h4 (q + 1)) h5 h6 h7 h8) H := by rw [← cpN_s]; exact hP
        have hD : va_D A (nw cI cA b rt rg (nI pl) tr f2 f3 tk gv ++ tw cI cZ ta g0 (nI pl) g2 g3 (cpN (fun _ => bI false) h4 (q + 1)) h5 h6 h7 h8) := by rw [← cpN_s]; exact hD
        exact ih10 (q + 1) (by omega) (by omega) _ _ _ hP hD hS (lv_sub hl [1, 2, 0] rfl)
  have hP : va_P D vwCl (nw cI cA b rt rg (nI pl) tr f2 f3 tk gv ++ tw cI cZ ta g0 (nI pl) g2 g3 (cpN (fun _ => bI false) h4 0) h5 h6 h7 h8) H := by rw [cpN_0]; exact hP
  have hD : va_D A (nw cI cA b rt rg (nI pl) tr f2 f3 tk gv ++ tw cI cZ ta g0 (nI pl) g2 g3 (cpN (fun _ => bI false) h4 0) h5 h6 h7 h8) := by rw [cpN_0]; exact hD
  exact lp10 _ 0 (Nat.lt_succ_self _) (by omega) _ _ _ hP hD hS (lv_sub hl [1, 2, 0] rfl)

set_option maxHeartbeats 4000000 in
set_option maxRecDepth 100000 in
theorem c_X4_growFrom (l : Launch) (D : va_G) (cI cJ cZ cA : ClassId) (b rt rg : Nat → Nat) (f2 f3 : Nat → Int32) (tk gv : Nat → Nat → Int32) (ta : Nat → Nat) (g0 g1 g2 g3 : Int32) (h4 h5 h6 h7 h8 : Nat → Int32) (sz pl tr : Nat) (hpl : pl ≤ 5) (htr : tr ≤ 6) : Met l yX4_growFrom wsX4_growFrom ({ frames := 5, cells := 0, slots := 0, locals := 119 } : Room) (wr_P D (tysC cI cJ cZ cA) [.ref (ta 0), .ref (b 0)] (nw cI cA b rt rg (nI pl) (nI tr) f2 f3 tk gv ++ tw cI cZ ta g0 g1 g2 g3 h4 h5 h6 h7 h8) sz) (wr_Qv D (S := Bool × Int32 × Int32 × (Nat → Int32) × (Nat → Int32) × (Nat → Int32) × (Nat → Int32) × (Nat → Int32)) (nw cI cA b rt rg (nI pl) (nI tr) f2 f3 tk gv ++ tw cI cZ ta g0 g1 g2 g3 h4 h5 h6 h7 h8) sz (fun u => ((growC pl (canP pl tk) (kidP pl (nI 1000000000) tk gv) tr f2 1001).length ≤ 1000 → u.1 = true ∧ u.2.1 = nI (growC pl (canP pl tk) (kidP pl (nI 1000000000) tk gv) tr f2 1001).length ∧ u.2.2.1 = nI (glL pl (mks (growC pl (canP pl tk) (kidP pl (nI 1000000000) tk gv) tr f2 1001)) (mks (growC pl (canP pl tk) (kidP pl (nI 1000000000) tk gv) tr f2 1001)).length).length ∧ rowsV u.2.2.2.2.1 0 (mks (growC pl (canP pl tk) (kidP pl (nI 1000000000) tk gv) tr f2 1001)) ∧ (∀ q, q < 6 → u.2.2.2.1 q = bI (firC pl (canP pl tk) (kidP pl (nI 1000000000) tk gv) tr f2 1001 q)) ∧ idxV u.2.2.2.2.2.2.2 (glL pl (mks (growC pl (canP pl tk) (kidP pl (nI 1000000000) tk gv) tr f2 1001)) (mks (growC pl (canP pl tk) (kidP pl (nI 1000000000) tk gv) tr f2 1001)).length)) ∧ (¬ (growC pl (canP pl tk) (kidP pl (nI 1000000000) tk gv) tr f2 1001).length ≤ 1000 → u.1 = false)) (fun u => (nw cI cA b rt rg (nI pl) (nI tr) f2 f3 tk gv ++ tw cI cZ ta (bI u.1) (nI pl) u.2.1 u.2.2.1 u.2.2.2.1 u.2.2.2.2.1 u.2.2.2.2.2.1 u.2.2.2.2.2.2.1 u.2.2.2.2.2.2.2))) 0 0 (va_A (nw cI cA b rt rg (nI pl) (nI tr) f2 f3 tk gv ++ tw cI cZ ta g0 g1 g2 g3 h4 h5 h6 h7 h8) sz) := by
  refine met_wv (cc := cX4_growFrom) (maxL := 4) (by decide) rfl (Nat.le_of_ble_eq_true rfl) ?_
  intro p e s m args below meth c Q A hx hb hml hown hts hP hK hD hA hret ls hl
  obtain ⟨H, hH9⟩ : ∃ H : Heap, H = s.heap := ⟨_, rfl⟩
  have hP : va_P D vwCl (nw cI cA b rt rg (nI pl) (nI tr) f2 f3 tk gv ++ tw cI cZ ta g0 g1 g2 g3 h4 h5 h6 h7 h8) H := by rw [hH9]; exact hP
  have hS : va_S A s.heap H [] := by rw [hH9]; exact va_S.rf
  rw [← hH9]
  have hown : s.vm.findClass RX4 = some m.cls := hown
  have hin4 : ∀ w ∈ wsX40, w ∈ wsX4_growFrom := by decide +kernel
  have hin0 : ∀ w ∈ wsX00, w ∈ wsX4_growFrom := by decide +kernel
  have fl19 := hts (.fieldLink RX4 19 "CoverRounds$Tree" "nodes" "I") (by decide +kernel)
  have fl9 := hts (.fieldLink RX4 9 "CoverRounds$Tree" "isGrown" "Z") (by decide +kernel)
  have hl : lv_has ls 4 [(0, .ref (ta 0)), (1, .ref (b 0))] := hl
  refine lv_aload_n hx hb dX4_growFrom_0 rfl (lv_at hl 0 rfl) ?_
  refine lv_aload_n hx hb dX4_growFrom_1 rfl (lv_at hl 1 rfl) ?_
  refine wk_VvW (As := [.ref (b 0)]) (rest := []) (wr := []) ⟨hx, hb, hml, hown, hts⟩ (c_X4_begin l D cI cJ cZ cA (nI tr) b rt rg f2 f3 tk gv ta g0 g1 g2 g3 h4 h5 h6 h7 h8 H.size pl) (cwV 1 hts gX4_growFrom_X4_begin rfl rfl rfl (by decide +kernel) ⟨Nat.le_of_ble_eq_true rfl, Nat.le_of_ble_eq_true rfl⟩) hK hP hD hA [0, 1, 2, 3, 4, 5, 6, 7, 8, 9, 10, 11, 12, 13, 14, 15, 16, 17, 18, 19, 20, 21, 22] rfl (by decide) [] rfl (by decide) (by decide) 17 3 rfl rfl hS rfl hl.1 rfl (Nat.le_of_ble_eq_true rfl) dX4_growFrom_2 ⟨Nat.zero_le _, Nat.zero_le _⟩ (fun u9 H locs hu hP hD hS => ?_)
  have hP : va_P D vwCl (nw cI cA b rt rg (nI pl) (nI tr) f2 f3 tk gv ++ tw cI cZ ta g0 (nI pl) (nI 1) (nI 0) (cpN (fun _ => bI false) h4 6) (va_cpy f2 h5 0 0 5) (upd h6 0 (nI 0)) (upd h7 0 (nI 0)) h8) H := hP
  have hD : va_D A (nw cI cA b rt rg (nI pl) (nI tr) f2 f3 tk gv ++ tw cI cZ ta g0 (nI pl) (nI 1) (nI 0) (cpN (fun _ => bI false) h4 6) (va_cpy f2 h5 0 0 5) (upd h6 0 (nI 0)) (upd h7 0 (nI 0)) h8) := hD
  refine lv_iconst (v := nI 1) hx hb dX4_growFrom_5 (by decide) ?_
  refine lv_istore_n (lv' := [(2, .int (nI 1)), (0, .ref (ta 0)), (1, .ref (b 0))]) hx hb dX4_growFrom_6 rfl hl (by decide) rfl (fun ls hl => ?_)
  refine lv_iconst (v := nI 0) hx hb dX4_growFrom_7 (by decide) ?_
  refine lv_istore_n (lv' := [(3, .int (nI 0)), (2, .int (nI 1)), (0, .ref (ta 0)), (1, .ref (b 0))]) hx hb dX4_growFrom_8 rfl hl (by decide) rfl (fun ls hl => ?_)
  have lp9 : ∀ (n9 : Nat) (k : Nat) (f4 : Nat → Int32) (f5 : Nat → Int32) (f6 : Nat → Int32) (f7 : Nat → Int32), 1000 - k < n9 → k ≤ 1000 → treeC f5 f6 f7 (growC pl (canP pl tk) (kidP pl (nI 1000000000) tk gv) tr f2 k) → (growC pl (canP pl tk) (kidP pl (nI 1000000000) tk gv) tr f2 k).length ≤ 1000 → (∀ q, q < 6 → f4 q = bI (firC pl (canP pl tk) (kidP pl (nI 1000000000) tk gv) tr f2 k q)) → ∀ (H : Heap) (locs : List Loc) (ls : Array Slot), va_P D vwCl (nw cI cA b rt rg (nI pl) (nI tr) f2 f3 tk gv ++ tw cI cZ ta g0 (nI pl) (nI ((growC pl (canP pl tk) (kidP pl (nI 1000000000) tk gv) tr f2 k).length)) (nI 0) f4 f5 f6 f7 h8) H → va_D A (nw cI cA b rt rg (nI pl) (nI tr) f2 f3 tk gv ++ tw cI cZ ta g0 (nI pl) (nI ((growC pl (canP pl tk) (kidP pl (nI 1000000000) tk gv) tr f2 k).length)) (nI 0) f4 f5 f6 f7 h8) → va_S A s.heap H locs → lv_has ls 4 [(0, .ref (ta 0)), (1, .ref (b 0)), (2, .int (nI 1)), (3, .int (nI k))] → W p l e ({ frames := 5, cells := 0, slots := 0, locals := 119 } : Room) s m args below meth c H locs 0 0 Q (F0 m 9 ls []) := by
    intro n9
    induction n9 with
    | zero => intro k f4 f5 f6 f7 hm9; exact absurd hm9 (Nat.not_lt_zero _)
    | succ n9 ih9 =>
      intro k f4 f5 f6 f7 hm9 hk1 hG hGl hf4 H locs ls hP hD hS hl
      refine lv_iload_n hx hb dX4_growFrom_9 rfl (lv_at hl 2 rfl) ?_
      refine lv_if_eq (tgt := 57) hx hb dX4_growFrom_10 (by decide) (fun c10 => absurd c10 (by decide)) (fun c10 => ?_)
      refine lv_iload_n hx hb dX4_growFrom_13 rfl (lv_at hl 3 rfl) ?_
      refine lv_aload_n hx hb dX4_growFrom_14 rfl (lv_at hl 0 rfl) ?_
      refine va_get (D := D) (ci := 3) (v := .int (nI ((growC pl (canP pl tk) (kidP pl (nI 1000000000) tk gv) tr f2 k).length))) (C := RX4) (T := TX4) (N := 9) hx hb hts hin4 hown hK hP 17 rfl rfl 2 (by decide) fl19 (fun _ h9 => h9) rfl dX4_growFrom_15 ?_
      refine wk_icmp_ge (tgt := 57) hx hb (by omega) (by omega) dX4_growFrom_18 (by decide) (fun c18 => ?_) (fun c18 => ?_)
      · skip
        have hfin : (growC pl (canP pl tk) (kidP pl (nI 1000000000) tk gv) tr f2 1001) = (growC pl (canP pl tk) (kidP pl (nI 1000000000) tk gv) tr f2 k) := by
          have h9 := growC_stop (pl := pl) (can := canP pl tk) (kid := kidP pl (nI 1000000000) tk gv) (tr := tr) (x := f2) (k := k) (Or.inl (by omega)) (1001 - k)
          rw [show k + (1001 - k) = 1001 by omega] at h9
          exact h9
        have hfir : ∀ q, firC pl (canP pl tk) (kidP pl (nI 1000000000) tk gv) tr f2 1001 q = firC pl (canP pl tk) (kidP pl (nI 1000000000) tk gv) tr f2 k q := fun q => by
          have h9 := firC_stop (pl := pl) (can := canP pl tk) (kid := kidP pl (nI 1000000000) tk gv) (tr := tr) (x := f2) (k := k) (by omega) (1001 - k) q
          rw [show k + (1001 - k) = 1001 by omega] at h9
          exact h9
        refine lv_iload_n hx hb dX4_growFrom_57 rfl (lv_at hl 2 rfl) ?_
        refine lv_if_eq (tgt := 65) hx hb dX4_growFrom_58 (by decide) (fun c58 => absurd c58 (by decide)) (fun c58 => ?_)
        refine lv_aload_n hx hb dX4_growFrom_61 rfl (lv_at hl 0 rfl) ?_
        rw [show (growC pl (canP pl tk) (kidP pl (nI 1000000000) tk gv) tr f2 k).length = (mks (growC pl (canP pl tk) (kidP pl (nI 1000000000) tk gv) tr f2 k)).length from (mks_len _).symm] at hP hD
        refine wk_VvW (As := []) (rest := []) (wr := [((b 0), .inr (0, [.int (nI pl), .int (nI tr), .ref (b 2), .ref (b 3), .ref (b 4), .ref (b 5)])), ((b 2), .inl (cI, 5, .inl f2)), ((b 3), .inl (cI, 5, .inl f3)), ((b 4), .inl (cA, 6, .inr (.inr (.inr (.inr (rfA rt)))))), ((b 5), .inl (cA, 6, .inr (.inr (.inr (.inr (rfA rg)))))), ((rt 0), .inl (cI, 5, .inl (tk 0))), ((rt 1), .inl (cI, 5, .inl (tk 1))), ((rt 2), .inl (cI, 5, .inl (tk 2))), ((rt 3), .inl (cI, 5, .inl (tk 3))), ((rt 4), .inl (cI, 5, .inl (tk 4))), ((rt 5), .inl (cI, 5, .inl (tk 5))), ((rg 0), .inl (cI, 5, .inl (gv 0))), ((rg 1), .inl (cI, 5, .inl (gv 1))), ((rg 2), .inl (cI, 5, .inl (gv 2))), ((rg 3), .inl (cI, 5, .inl (gv 3))), ((rg 4), .inl (cI, 5, .inl (gv 4))), ((rg 5), .inl (cI, 5, .inl (gv 5)))]) ⟨hx, hb, hml, hown, hts⟩ (c_X4_gatherLimits l D cI cJ cZ cA ta g0 f4 f5 f6 f7 h8 H.size pl hpl (mks (growC pl (canP pl tk) (kidP pl (nI 1000000000) tk gv) tr f2 k)) (tc_rows hG) (by rw [mks_len]; omega)) (cwV 0 hts gX4_growFrom_X4_gatherLimits rfl rfl rfl (by decide +kernel) ⟨Nat.le_of_ble_eq_true rfl, Nat.le_of_ble_eq_true rfl⟩) hK hP hD hA [17, 18, 19, 20, 21, 22] rfl (by decide) [0, 1, 2, 3, 4, 5, 6, 7, 8, 9, 10, 11, 12, 13, 14, 15, 16] rfl (by decide) (by decide) 0 3 rfl rfl hS rfl hl.1 rfl (Nat.le_of_ble_eq_true rfl) dX4_growFrom_62 ⟨Nat.zero_le _, Nat.zero_le _⟩ (fun u9 H locs hu hP hD hS => ?_)
        have hP : va_P D vwCl (nw cI cA b rt rg (nI pl) (nI tr) f2 f3 tk gv ++ tw cI cZ ta g0 (nI pl) (nI ((mks (growC pl (canP pl tk) (kidP pl (nI 1000000000) tk gv) tr f2 k)).length)) (nI ((glL pl (mks (growC pl (canP pl tk) (kidP pl (nI 1000000000) tk gv) tr f2 k)) (mks (growC pl (canP pl tk) (kidP pl (nI 1000000000) tk gv) tr f2 k)).length).length)) f4 f5 f6 f7 u9) H := hP
        have hD : va_D A (nw cI cA b rt rg (nI pl) (nI tr) f2 f3 tk gv ++ tw cI cZ ta g0 (nI pl) (nI ((mks (growC pl (canP pl tk) (kidP pl (nI 1000000000) tk gv) tr f2 k)).length)) (nI ((glL pl (mks (growC pl (canP pl tk) (kidP pl (nI 1000000000) tk gv) tr f2 k)) (mks (growC pl (canP pl tk) (kidP pl (nI 1000000000) tk gv) tr f2 k)).length).length)) f4 f5 f6 f7 u9) := hD
        refine lv_aload_n hx hb dX4_growFrom_65 rfl (lv_at hl 0 rfl) ?_
        refine lv_iload_n hx hb dX4_growFrom_66 rfl (lv_at hl 2 rfl) ?_
        refine va_put (D := D) (ci := 3) (v := .int (bI true)) (ty := .boolean) (C := RX4) (T := TX4) (N := 9) hx hb hts hin4 tyX4 tyX4_ok nmX4 hown hK hP hD hS 17 rfl rfl 0 (by decide) fl9 (fun _ h9 => h9) rfl (by decide +kernel) (bI_n _) (wk_fz _) (Nat.le_of_ble_eq_true rfl) dX4_growFrom_67 (fun H locs hP hD hS => ?_)
        have hP : va_P D vwCl (nw cI cA b rt rg (nI pl) (nI tr) f2 f3 tk gv ++ tw cI cZ ta (bI true) (nI pl) (nI ((mks (growC pl (canP pl tk) (kidP pl (nI 1000000000) tk gv) tr f2 k)).length)) (nI ((glL pl (mks (growC pl (canP pl tk) (kidP pl (nI 1000000000) tk gv) tr f2 k)) (mks (growC pl (canP pl tk) (kidP pl (nI 1000000000) tk gv) tr f2 k)).length).length)) f4 f5 f6 f7 u9) H := hP
        have hD : va_D A (nw cI cA b rt rg (nI pl) (nI tr) f2 f3 tk gv ++ tw cI cZ ta (bI true) (nI pl) (nI ((mks (growC pl (canP pl tk) (kidP pl (nI 1000000000) tk gv) tr f2 k)).length)) (nI ((glL pl (mks (growC pl (canP pl tk) (kidP pl (nI 1000000000) tk gv) tr f2 k)) (mks (growC pl (canP pl tk) (kidP pl (nI 1000000000) tk gv) tr f2 k)).length).length)) f4 f5 f6 f7 u9) := hD
        have hl9 := mks_len (growC pl (canP pl tk) (kidP pl (nI 1000000000) tk gv) tr f2 k)
        exact hret (true, (nI ((mks (growC pl (canP pl tk) (kidP pl (nI 1000000000) tk gv) tr f2 k)).length)), (nI ((glL pl (mks (growC pl (canP pl tk) (kidP pl (nI 1000000000) tk gv) tr f2 k)) (mks (growC pl (canP pl tk) (kidP pl (nI 1000000000) tk gv) tr f2 k)).length).length)), f4, f5, f6, f7, u9) _ _ _ _ _ _ ⟨fun h9 => by rw [hfin]; exact ⟨rfl, by rw [hl9], rfl, tc_rows hG, fun q hq => by rw [hfir q]; exact hf4 q hq, hu⟩, fun h9 => by rw [hfin] at h9; omega⟩ hP hD dX4_growFrom_70 hS (Nat.zero_le _) (Nat.zero_le _)
      · skip
        obtain ⟨nd, hkG⟩ : ∃ nd, (growC pl (canP pl tk) (kidP pl (nI 1000000000) tk gv) tr f2 k)[k]? = some nd := ⟨_, List.getElem?_eq_getElem (by omega)⟩
        refine lv_iload_n hx hb dX4_growFrom_21 rfl (lv_at hl 3 rfl) ?_
        refine lv_sipush (v := nI 1000) hx hb dX4_growFrom_22 (by decide) ?_
        refine wk_icmp_ge (tgt := 57) hx hb (by omega) (by omega) dX4_growFrom_25 (by decide) (fun c25 => ?_) (fun c25 => ?_)
        · skip
          have hfin : (growC pl (canP pl tk) (kidP pl (nI 1000000000) tk gv) tr f2 1001) = (growC pl (canP pl tk) (kidP pl (nI 1000000000) tk gv) tr f2 k) := by
            have h9 := growC_stop (pl := pl) (can := canP pl tk) (kid := kidP pl (nI 1000000000) tk gv) (tr := tr) (x := f2) (k := k) (Or.inl (by omega)) (1001 - k)
            rw [show k + (1001 - k) = 1001 by omega] at h9
            exact h9
          have hfir : ∀ q, firC pl (canP pl tk) (kidP pl (nI 1000000000) tk gv) tr f2 1001 q = firC pl (canP pl tk) (kidP pl (nI 1000000000) tk gv) tr f2 k q := fun q => by
            have h9 := firC_stop (pl := pl) (can := canP pl tk) (kid := kidP pl (nI 1000000000) tk gv) (tr := tr) (x := f2) (k := k) (by omega) (1001 - k) q
            rw [show k + (1001 - k) = 1001 by omega] at h9
            exact h9
          refine lv_iload_n hx hb dX4_growFrom_57 rfl (lv_at hl 2 rfl) ?_
          refine lv_if_eq (tgt := 65) hx hb dX4_growFrom_58 (by decide) (fun c58 => absurd c58 (by decide)) (fun c58 => ?_)
          refine lv_aload_n hx hb dX4_growFrom_61 rfl (lv_at hl 0 rfl) ?_
          rw [show (growC pl (canP pl tk) (kidP pl (nI 1000000000) tk gv) tr f2 k).length = (mks (growC pl (canP pl tk) (kidP pl (nI 1000000000) tk gv) tr f2 k)).length from (mks_len _).symm] at hP hD
          refine wk_VvW (As := []) (rest := []) (wr := [((b 0), .inr (0, [.int (nI pl), .int (nI tr), .ref (b 2), .ref (b 3), .ref (b 4), .ref (b 5)])), ((b 2), .inl (cI, 5, .inl f2)), ((b 3), .inl (cI, 5, .inl f3)), ((b 4), .inl (cA, 6, .inr (.inr (.inr (.inr (rfA rt)))))), ((b 5), .inl (cA, 6, .inr (.inr (.inr (.inr (rfA rg)))))), ((rt 0), .inl (cI, 5, .inl (tk 0))), ((rt 1), .inl (cI, 5, .inl (tk 1))), ((rt 2), .inl (cI, 5, .inl (tk 2))), ((rt 3), .inl (cI, 5, .inl (tk 3))), ((rt 4), .inl (cI, 5, .inl (tk 4))), ((rt 5), .inl (cI, 5, .inl (tk 5))), ((rg 0), .inl (cI, 5, .inl (gv 0))), ((rg 1), .inl (cI, 5, .inl (gv 1))), ((rg 2), .inl (cI, 5, .inl (gv 2))), ((rg 3), .inl (cI, 5, .inl (gv 3))), ((rg 4), .inl (cI, 5, .inl (gv 4))), ((rg 5), .inl (cI, 5, .inl (gv 5)))]) ⟨hx, hb, hml, hown, hts⟩ (c_X4_gatherLimits l D cI cJ cZ cA ta g0 f4 f5 f6 f7 h8 H.size pl hpl (mks (growC pl (canP pl tk) (kidP pl (nI 1000000000) tk gv) tr f2 k)) (tc_rows hG) (by rw [mks_len]; omega)) (cwV 0 hts gX4_growFrom_X4_gatherLimits rfl rfl rfl (by decide +kernel) ⟨Nat.le_of_ble_eq_true rfl, Nat.le_of_ble_eq_true rfl⟩) hK hP hD hA [17, 18, 19, 20, 21, 22] rfl (by decide) [0, 1, 2, 3, 4, 5, 6, 7, 8, 9, 10, 11, 12, 13, 14, 15, 16] rfl (by decide) (by decide) 0 3 rfl rfl hS rfl hl.1 rfl (Nat.le_of_ble_eq_true rfl) dX4_growFrom_62 ⟨Nat.zero_le _, Nat.zero_le _⟩ (fun u9 H locs hu hP hD hS => ?_)
          have hP : va_P D vwCl (nw cI cA b rt rg (nI pl) (nI tr) f2 f3 tk gv ++ tw cI cZ ta g0 (nI pl) (nI ((mks (growC pl (canP pl tk) (kidP pl (nI 1000000000) tk gv) tr f2 k)).length)) (nI ((glL pl (mks (growC pl (canP pl tk) (kidP pl (nI 1000000000) tk gv) tr f2 k)) (mks (growC pl (canP pl tk) (kidP pl (nI 1000000000) tk gv) tr f2 k)).length).length)) f4 f5 f6 f7 u9) H := hP
          have hD : va_D A (nw cI cA b rt rg (nI pl) (nI tr) f2 f3 tk gv ++ tw cI cZ ta g0 (nI pl) (nI ((mks (growC pl (canP pl tk) (kidP pl (nI 1000000000) tk gv) tr f2 k)).length)) (nI ((glL pl (mks (growC pl (canP pl tk) (kidP pl (nI 1000000000) tk gv) tr f2 k)) (mks (growC pl (canP pl tk) (kidP pl (nI 1000000000) tk gv) tr f2 k)).length).length)) f4 f5 f6 f7 u9) := hD
          refine lv_aload_n hx hb dX4_growFrom_65 rfl (lv_at hl 0 rfl) ?_
          refine lv_iload_n hx hb dX4_growFrom_66 rfl (lv_at hl 2 rfl) ?_
          refine va_put (D := D) (ci := 3) (v := .int (bI true)) (ty := .boolean) (C := RX4) (T := TX4) (N := 9) hx hb hts hin4 tyX4 tyX4_ok nmX4 hown hK hP hD hS 17 rfl rfl 0 (by decide) fl9 (fun _ h9 => h9) rfl (by decide +kernel) (bI_n _) (wk_fz _) (Nat.le_of_ble_eq_true rfl) dX4_growFrom_67 (fun H locs hP hD hS => ?_)
          have hP : va_P D vwCl (nw cI cA b rt rg (nI pl) (nI tr) f2 f3 tk gv ++ tw cI cZ ta (bI true) (nI pl) (nI ((mks (growC pl (canP pl tk) (kidP pl (nI 1000000000) tk gv) tr f2 k)).length)) (nI ((glL pl (mks (growC pl (canP pl tk) (kidP pl (nI 1000000000) tk gv) tr f2 k)) (mks (growC pl (canP pl tk) (kidP pl (nI 1000000000) tk gv) tr f2 k)).length).length)) f4 f5 f6 f7 u9) H := hP
          have hD : va_D A (nw cI cA b rt rg (nI pl) (nI tr) f2 f3 tk gv ++ tw cI cZ ta (bI true) (nI pl) (nI ((mks (growC pl (canP pl tk) (kidP pl (nI 1000000000) tk gv) tr f2 k)).length)) (nI ((glL pl (mks (growC pl (canP pl tk) (kidP pl (nI 1000000000) tk gv) tr f2 k)) (mks (growC pl (canP pl tk) (kidP pl (nI 1000000000) tk gv) tr f2 k)).length).length)) f4 f5 f6 f7 u9) := hD
          have hl9 := mks_len (growC pl (canP pl tk) (kidP pl (nI 1000000000) tk gv) tr f2 k)
          exact hret (true, (nI ((mks (growC pl (canP pl tk) (kidP pl (nI 1000000000) tk gv) tr f2 k)).length)), (nI ((glL pl (mks (growC pl (canP pl tk) (kidP pl (nI 1000000000) tk gv) tr f2 k)) (mks (growC pl (canP pl tk) (kidP pl (nI 1000000000) tk gv) tr f2 k)).length).length)), f4, f5, f6, f7, u9) _ _ _ _ _ _ ⟨fun h9 => by rw [hfin]; exact ⟨rfl, by rw [hl9], rfl, tc_rows hG, fun q hq => by rw [hfir q]; exact hf4 q hq, hu⟩, fun h9 => by rw [hfin] at h9; omega⟩ hP hD dX4_growFrom_70 hS (Nat.zero_le _) (Nat.zero_le _)
        · skip
          refine lv_aload_n hx hb dX4_growFrom_28 rfl (lv_at hl 0 rfl) ?_
          refine lv_iload_n hx hb dX4_growFrom_29 rfl (lv_at hl 3 rfl) ?_
          refine wk_Vi (As := [.int (nI k)]) (rest := []) ⟨hx, hb, hml, hown, hts⟩ (c_X4_hasTwinAbove l D cI cJ cZ cA ta g0 (nI ((growC pl (canP pl tk) (kidP pl (nI 1000000000) tk gv) tr f2 k).length)) (nI 0) f4 f5 f6 f7 h8 pl k nd hpl (growC pl (canP pl tk) (kidP pl (nI 1000000000) tk gv) tr f2 k) hG (by omega) hkG) (cwV 1 hts gX4_growFrom_X4_hasTwinAbove rfl rfl rfl (by decide +kernel) ⟨Nat.le_of_ble_eq_true rfl, Nat.le_of_ble_eq_true rfl⟩) hK hP [17, 18, 19, 20, 21, 22] rfl 0 3 rfl rfl hS rfl hl.1 rfl (Nat.le_of_ble_eq_true rfl) dX4_growFrom_30 ⟨Nat.zero_le _, Nat.zero_le _⟩ (fun H locs hP hS => ?_)
          refine wk_if_neb (tgt := 45) hx hb dX4_growFrom_33 (by decide) (fun c33 => ?_) (fun c33 => ?_)
          · skip
            have hgs : (growC pl (canP pl tk) (kidP pl (nI 1000000000) tk gv) tr f2 (k + 1)) = (growC pl (canP pl tk) (kidP pl (nI 1000000000) tk gv) tr f2 k) := by rw [growC_s (by omega), stC_old hkG c33]
            refine lv_iconst (v := nI 1) hx hb dX4_growFrom_45 (by decide) ?_
            refine lv_goto (tgt := 50) hx hb dX4_growFrom_46 (by decide) ?_
            refine lv_istore_n (lv' := [(2, .int (nI 1)), (0, .ref (ta 0)), (1, .ref (b 0)), (3, .int (nI k))]) hx hb dX4_growFrom_50 rfl hl (by decide) rfl (fun ls hl => ?_)
            refine lv_iinc (v := (nI (k + 1))) (lv' := [(3, .int (nI (k + 1))), (2, .int (nI 1)), (0, .ref (ta 0)), (1, .ref (b 0))]) hx hb dX4_growFrom_51 hl (k := 3) rfl (by exact nI_1 _) (by decide) rfl (fun ls hl => ?_)
            refine lv_goto (tgt := 9) hx hb dX4_growFrom_54 (by decide) ?_
            have hP : va_P D vwCl (nw cI cA b rt rg (nI pl) (nI tr) f2 f3 tk gv ++ tw cI cZ ta g0 (nI pl) (nI ((growC pl (canP pl tk) (kidP pl (nI 1000000000) tk gv) tr f2 (k + 1)).length)) (nI 0) f4 f5 f6 f7 h8) H := by rw [hgs]; exact hP
            have hD : va_D A (nw cI cA b rt rg (nI pl) (nI tr) f2 f3 tk gv ++ tw cI cZ ta g0 (nI pl) (nI ((growC pl (canP pl tk) (kidP pl (nI 1000000000) tk gv) tr f2 (k + 1)).length)) (nI 0) f4 f5 f6 f7 h8) := by rw [hgs]; exact hD
            exact ih9 (k + 1) f4 f5 f6 f7 (by omega) (by omega) (by rw [hgs]; exact hG) (by rw [hgs]; exact hGl) (fun q hq => by rw [fir_old hkG c33]; exact hf4 q hq) _ _ _ hP hD hS (lv_sub hl [2, 3, 1, 0] rfl)
          · skip
            have hgs : (growC pl (canP pl tk) (kidP pl (nI 1000000000) tk gv) tr f2 (k + 1)) = (kidsG (canP pl tk nd.2.1) (kidP pl (nI 1000000000) tk gv (nd.2.1 :: nd.2.2)) k (nd.2.1 :: nd.2.2) tr (growC pl (canP pl tk) (kidP pl (nI 1000000000) tk gv) tr f2 k)) := by rw [growC_s (by omega), stC_new hkG c33]
            refine lv_aload_n hx hb dX4_growFrom_36 rfl (lv_at hl 0 rfl) ?_
            refine lv_aload_n hx hb dX4_growFrom_37 rfl (lv_at hl 1 rfl) ?_
            refine lv_iload_n hx hb dX4_growFrom_38 rfl (lv_at hl 3 rfl) ?_
            refine wk_ViW (As := [.ref (b 0), .int (nI k)]) (rest := []) (wr := []) ⟨hx, hb, hml, hown, hts⟩ (c_X4_addChildren l D cI cJ cZ cA b rt rg f2 f3 tk gv ta g0 (nI 0) f4 f5 f6 f7 h8 H.size pl tr k nd hpl htr (growC pl (canP pl tk) (kidP pl (nI 1000000000) tk gv) tr f2 k) hG (by omega) hkG (firC pl (canP pl tk) (kidP pl (nI 1000000000) tk gv) tr f2 k) hf4) (cwV 2 hts gX4_growFrom_X4_addChildren rfl rfl rfl (by decide +kernel) ⟨Nat.le_of_ble_eq_true rfl, Nat.le_of_ble_eq_true rfl⟩) hK hP hD hA [0, 1, 2, 3, 4, 5, 6, 7, 8, 9, 10, 11, 12, 13, 14, 15, 16, 17, 18, 19, 20, 21, 22] rfl (by decide) [] rfl (by decide) (by decide) 17 3 rfl rfl hS rfl hl.1 rfl (Nat.le_of_ble_eq_true rfl) dX4_growFrom_39 ⟨Nat.zero_le _, Nat.zero_le _⟩ (fun r9 u9 H locs hu hP hD hS => ?_)
            obtain ⟨hu1, hu2⟩ := hu
            subst hu1
            have hP : va_P D vwCl (nw cI cA b rt rg (nI pl) (nI tr) f2 f3 tk gv ++ tw cI cZ ta g0 (nI pl) (nI u9.1) (nI 0) u9.2.1 u9.2.2.1 u9.2.2.2.1 u9.2.2.2.2 h8) H := hP
            have hD : va_D A (nw cI cA b rt rg (nI pl) (nI tr) f2 f3 tk gv ++ tw cI cZ ta g0 (nI pl) (nI u9.1) (nI 0) u9.2.1 u9.2.2.1 u9.2.2.2.1 u9.2.2.2.2 h8) := hD
            refine wk_if_eqb (tgt := 49) hx hb dX4_growFrom_42 (by decide) (fun c42 => ?_) (fun c42 => ?_)
            · skip
              have hbig : 1000 < (growC pl (canP pl tk) (kidP pl (nI 1000000000) tk gv) tr f2 1001).length := by
                have h7 := of_decide_eq_false c42
                have h8 : 1000 < (growC pl (canP pl tk) (kidP pl (nI 1000000000) tk gv) tr f2 (k + 1)).length := by rw [hgs]; omega
                have h9 := growC_stop (pl := pl) (can := canP pl tk) (kid := kidP pl (nI 1000000000) tk gv) (tr := tr) (x := f2) (k := k + 1) (Or.inr h8) (1000 - k)
                rw [show k + 1 + (1000 - k) = 1001 by omega] at h9
                rw [h9]; exact h8
              refine lv_iconst (v := nI 0) hx hb dX4_growFrom_49 (by decide) ?_
              refine lv_istore_n (lv' := [(2, .int (nI 0)), (0, .ref (ta 0)), (1, .ref (b 0)), (3, .int (nI k))]) hx hb dX4_growFrom_50 rfl hl (by decide) rfl (fun ls hl => ?_)
              refine lv_iinc (v := (nI (k + 1))) (lv' := [(3, .int (nI (k + 1))), (2, .int (nI 0)), (0, .ref (ta 0)), (1, .ref (b 0))]) hx hb dX4_growFrom_51 hl (k := 3) rfl (by exact nI_1 _) (by decide) rfl (fun ls hl => ?_)
              refine lv_goto (tgt := 9) hx hb dX4_growFrom_54 (by decide) ?_
              refine lv_iload_n hx hb dX4_growFrom_9 rfl (lv_at hl 1 rfl) ?_
              refine lv_if_eq (tgt := 57) hx hb dX4_growFrom_10 (by decide) (fun c10 => ?_) (fun c10 => absurd c10 (by decide))
              refine lv_iload_n hx hb dX4_growFrom_57 rfl (lv_at hl 1 rfl) ?_
              refine lv_if_eq (tgt := 65) hx hb dX4_growFrom_58 (by decide) (fun c58 => ?_) (fun c58 => absurd c58 (by decide))
              refine lv_aload_n hx hb dX4_growFrom_65 rfl (lv_at hl 2 rfl) ?_
              refine lv_iload_n hx hb dX4_growFrom_66 rfl (lv_at hl 1 rfl) ?_
              refine va_put (D := D) (ci := 3) (v := .int (bI false)) (ty := .boolean) (C := RX4) (T := TX4) (N := 9) hx hb hts hin4 tyX4 tyX4_ok nmX4 hown hK hP hD hS 17 rfl rfl 0 (by decide) fl9 (fun _ h9 => h9) rfl (by decide +kernel) (bI_n _) (wk_fz _) (Nat.le_of_ble_eq_true rfl) dX4_growFrom_67 (fun H locs hP hD hS => ?_)
              have hP : va_P D vwCl (nw cI cA b rt rg (nI pl) (nI tr) f2 f3 tk gv ++ tw cI cZ ta (bI false) (nI pl) (nI u9.1) (nI 0) u9.2.1 u9.2.2.1 u9.2.2.2.1 u9.2.2.2.2 h8) H := hP
              have hD : va_D A (nw cI cA b rt rg (nI pl) (nI tr) f2 f3 tk gv ++ tw cI cZ ta (bI false) (nI pl) (nI u9.1) (nI 0) u9.2.1 u9.2.2.1 u9.2.2.2.1 u9.2.2.2.2 h8) := hD
              exact hret (false, (nI u9.1), (nI 0), u9.2.1, u9.2.2.1, u9.2.2.2.1, u9.2.2.2.2, h8) _ _ _ _ _ _ ⟨fun h9 => by omega, fun _ => rfl⟩ hP hD dX4_growFrom_70 hS (Nat.zero_le _) (Nat.zero_le _)
            · skip
              have hle9 := of_decide_eq_true c42
              obtain ⟨hv1, hv2, hv3⟩ := hu2 hle9
              refine lv_iconst (v := nI 1) hx hb dX4_growFrom_45 (by decide) ?_
              refine lv_goto (tgt := 50) hx hb dX4_growFrom_46 (by decide) ?_
              refine lv_istore_n (lv' := [(2, .int (nI 1)), (0, .ref (ta 0)), (1, .ref (b 0)), (3, .int (nI k))]) hx hb dX4_growFrom_50 rfl hl (by decide) rfl (fun ls hl => ?_)
              refine lv_iinc (v := (nI (k + 1))) (lv' := [(3, .int (nI (k + 1))), (2, .int (nI 1)), (0, .ref (ta 0)), (1, .ref (b 0))]) hx hb dX4_growFrom_51 hl (k := 3) rfl (by exact nI_1 _) (by decide) rfl (fun ls hl => ?_)
              refine lv_goto (tgt := 9) hx hb dX4_growFrom_54 (by decide) ?_
              have hP : va_P D vwCl (nw cI cA b rt rg (nI pl) (nI tr) f2 f3 tk gv ++ tw cI cZ ta g0 (nI pl) (nI ((growC pl (canP pl tk) (kidP pl (nI 1000000000) tk gv) tr f2 (k + 1)).length)) (nI 0) u9.2.1 u9.2.2.1 u9.2.2.2.1 u9.2.2.2.2 h8) H := by rw [hgs, ← hv1]; exact hP
              have hD : va_D A (nw cI cA b rt rg (nI pl) (nI tr) f2 f3 tk gv ++ tw cI cZ ta g0 (nI pl) (nI ((growC pl (canP pl tk) (kidP pl (nI 1000000000) tk gv) tr f2 (k + 1)).length)) (nI 0) u9.2.1 u9.2.2.1 u9.2.2.2.1 u9.2.2.2.2 h8) := by rw [hgs, ← hv1]; exact hD
              exact ih9 (k + 1) u9.2.1 u9.2.2.1 u9.2.2.2.1 u9.2.2.2.2 (by omega) (by omega) (by rw [hgs]; exact hv2) (by rw [hgs]; exact hle9) (fun q hq => by rw [fir_new hkG c33]; exact hv3 q hq) _ _ _ hP hD hS (lv_sub hl [2, 3, 1, 0] rfl)
  have hP : va_P D vwCl (nw cI cA b rt rg (nI pl) (nI tr) f2 f3 tk gv ++ tw cI cZ ta g0 (nI pl) (nI ((growC pl (canP pl tk) (kidP pl (nI 1000000000) tk gv) tr f2 0).length)) (nI 0) (cpN (fun _ => bI false) h4 6) (va_cpy f2 h5 0 0 5) (upd h6 0 (nI 0)) (upd h7 0 (nI 0)) h8) H := by skip; exact hP
  have hD : va_D A (nw cI cA b rt rg (nI pl) (nI tr) f2 f3 tk gv ++ tw cI cZ ta g0 (nI pl) (nI ((growC pl (canP pl tk) (kidP pl (nI 1000000000) tk gv) tr f2 0).length)) (nI 0) (cpN (fun _ => bI false) h4 6) (va_cpy f2 h5 0 0 5) (upd h6 0 (nI 0)) (upd h7 0 (nI 0)) h8) := by skip; exact hD
  exact lp9 _ 0 (cpN (fun _ => bI false) h4 6) (va_cpy f2 h5 0 0 5) (upd h6 0 (nI 0)) (upd h7 0 (nI 0)) (Nat.lt_succ_self _) (by omega) (tc_root (fun q hq => by rw [pk_cpy_in (Nat.zero_le _) (by omega)]; show f2 (0 + (q - 0)) = f2 q; rw [Nat.zero_add, Nat.sub_zero]) pk_us) (by show 1 ≤ 1000; omega) (fun q hq => cpN_lt hq) _ _ _ hP hD hS (lv_sub hl [2, 3, 1, 0] rfl)
