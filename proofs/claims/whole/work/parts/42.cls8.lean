set_option maxHeartbeats 4000000 in
set_option maxRecDepth 100000 in
theorem c_X4_hasTwinAbove (l : Launch) (D : va_G) (cI cJ cZ cA : ClassId) (ta : Nat → Nat) (g0 g2 g3 : Int32) (h4 h5 h6 h7 h8 : Nat → Int32) (pl k : Nat) (nd : Nd) (hpl : pl ≤ 5) (T : List Nd) (hT : treeC h5 h6 h7 T) (hTl : T.length ≤ 1000) (hk : T[k]? = some nd) : Met l yX4_hasTwinAbove wsX4_hasTwinAbove ({ frames := 1, cells := 0, slots := 0, locals := 25 } : Room) (ro_P D (tysC cI cJ cZ cA) [.ref (ta 0), .int (nI k)] (tw cI cZ ta g0 (nI pl) g2 g3 h4 h5 h6 h7 h8)) (ro_Q (bI (oldP pl nd.2.1 nd.2.2))) 0 0 (fun _ => False) := by
  refine met_ro (cc := cX4_hasTwinAbove) (maxL := 4) (ty := .boolean) (by decide) rfl (Nat.le_of_ble_eq_true rfl) (bI_n _) ?_
  intro p e s m args below meth c Q hx hb hml hown hts hP hK hret ls hl
  obtain ⟨H, hH9⟩ : ∃ H : Heap, H = s.heap := ⟨_, rfl⟩
  have hP : va_P D vwCl (tw cI cZ ta g0 (nI pl) g2 g3 h4 h5 h6 h7 h8) H := by rw [hH9]; exact hP
  have hS : va_S (fun _ => False) s.heap H [] := by rw [hH9]; exact va_S.rf
  rw [← hH9]
  have hown : s.vm.findClass RX4 = some m.cls := hown
  have hin4 : ∀ w ∈ wsX40, w ∈ wsX4_hasTwinAbove := by decide +kernel
  have fl36 := hts (.fieldLink RX4 36 "CoverRounds$Tree" "depth" "[I") (by decide +kernel)
  have fl33 := hts (.fieldLink RX4 33 "CoverRounds$Tree" "above" "[I") (by decide +kernel)
  have hl : lv_has ls 4 [(0, .ref (ta 0)), (1, .int (nI k))] := hl
  have hkr := (hT k nd hk).1
  have hkl := lt_of_some hk
  have hkd := tc_len hT k nd hk
  refine lv_iload_n hx hb dX4_hasTwinAbove_0 rfl (lv_at hl 1 rfl) ?_
  refine lv_istore_n (lv' := [(2, .int (nI k)), (0, .ref (ta 0)), (1, .int (nI k))]) hx hb dX4_hasTwinAbove_1 rfl hl (by decide) rfl (fun ls hl => ?_)
  refine lv_aload_n hx hb dX4_hasTwinAbove_2 rfl (lv_at hl 1 rfl) ?_
  refine va_get (D := D) (ci := 3) (v := .ref (ta 7)) (C := RX4) (T := TX4) (N := 9) hx hb hts hin4 hown hK hP 0 rfl rfl 7 (by decide) fl36 (fun _ h9 => h9) rfl dX4_hasTwinAbove_3 ?_
  refine lv_iload_n hx hb dX4_hasTwinAbove_6 rfl (lv_at hl 2 rfl) ?_
  refine wk_iald hx hb hK hP 4 0 rfl rfl (i := k) (by omega) (by omega) dX4_hasTwinAbove_7 ?_
  rw [show (h7 k) = (nI nd.2.2.length) from (hT k nd hk).2.1]
  refine lv_istore_n (lv' := [(3, .int (nI nd.2.2.length)), (2, .int (nI k)), (0, .ref (ta 0)), (1, .int (nI k))]) hx hb dX4_hasTwinAbove_8 rfl hl (by decide) rfl (fun ls hl => ?_)
  have lp9 : ∀ (n9 : Nat) (v : Nat) (nv : Nd) (lev : Nat), lev < n9 → T[v]? = some nv → lev = nv.2.2.length → nv.2.2.any (fun x => tpP pl nd.2.1 x && tpP pl x nd.2.1) = nd.2.2.any (fun x => tpP pl nd.2.1 x && tpP pl x nd.2.1) → ∀ (H : Heap) (locs : List Loc) (ls : Array Slot), va_P D vwCl (tw cI cZ ta g0 (nI pl) g2 g3 h4 h5 h6 h7 h8) H → va_S (fun _ => False) s.heap H locs → lv_has ls 4 [(0, .ref (ta 0)), (1, .int (nI k)), (2, .int (nI v)), (3, .int (nI lev))] → W p l e ({ frames := 1, cells := 0, slots := 0, locals := 25 } : Room) s m args below meth c H locs 0 0 Q (F0 m 9 ls []) := by
    intro n9
    induction n9 with
    | zero => intro v nv lev hm9; exact absurd hm9 (Nat.not_lt_zero _)
    | succ n9 ih9 =>
      intro v nv lev hm9 hv hlev hinv H locs ls hP hS hl
      have hvl := tc_len hT v nv hv
      have hvT := lt_of_some hv
      refine lv_iload_n hx hb dX4_hasTwinAbove_9 rfl (lv_at hl 3 rfl) ?_
      refine wk_if_le (tgt := 46) hx hb (by omega) dX4_hasTwinAbove_10 (by decide) (fun c10 => ?_) (fun c10 => ?_)
      · skip
        refine lv_iconst (v := nI 0) hx hb dX4_hasTwinAbove_46 (by decide) ?_
        have h0 : nv.2.2 = [] := List.length_eq_zero_iff.mp (by omega)
        exact hret _ _ _ _ _ (bI_F (by unfold oldP; rw [← hinv, h0]; rfl)) dX4_hasTwinAbove_47 hS
      · skip
        obtain ⟨hp1, hp2, pn, hpn, hup⟩ := (hT v nv hv).2.2 (by omega)
        have hpr := (hT nv.1 pn hpn).1
        have hpl9 := lt_of_some hpn
        refine lv_aload_n hx hb dX4_hasTwinAbove_13 rfl (lv_at hl 0 rfl) ?_
        refine va_get (D := D) (ci := 3) (v := .ref (ta 6)) (C := RX4) (T := TX4) (N := 9) hx hb hts hin4 hown hK hP 0 rfl rfl 6 (by decide) fl33 (fun _ h9 => h9) rfl dX4_hasTwinAbove_14 ?_
        refine lv_iload_n hx hb dX4_hasTwinAbove_17 rfl (lv_at hl 2 rfl) ?_
        refine wk_iald hx hb hK hP 3 0 rfl rfl (i := v) (by omega) (by omega) dX4_hasTwinAbove_18 ?_
        rw [show (h6 v) = (nI nv.1) from hp2]
        refine lv_istore_n (lv' := [(2, .int (nI nv.1)), (0, .ref (ta 0)), (1, .int (nI k)), (3, .int (nI lev))]) hx hb dX4_hasTwinAbove_19 rfl hl (by decide) rfl (fun ls hl => ?_)
        refine lv_aload_n hx hb dX4_hasTwinAbove_20 rfl (lv_at hl 1 rfl) ?_
        refine lv_iload_n hx hb dX4_hasTwinAbove_21 rfl (lv_at hl 2 rfl) ?_
        refine lv_iload_n hx hb dX4_hasTwinAbove_22 rfl (lv_at hl 0 rfl) ?_
        refine wk_Vi (As := [.int (nI k), .int (nI nv.1)]) (rest := []) ⟨hx, hb, hml, hown, hts⟩ (c_X4_isAtLeast l D cI cJ cZ cA ta g0 g2 g3 h4 h5 h6 h7 h8 pl k nv.1 hpl nd.2.1 pn.2.1 (by omega) (by omega) hkr hpr) (cwV 2 hts gX4_hasTwinAbove_X4_isAtLeast rfl rfl rfl (by decide +kernel) ⟨Nat.le_of_ble_eq_true rfl, Nat.le_of_ble_eq_true rfl⟩) hK hP [0, 1, 2, 3, 4, 5] rfl 0 3 rfl rfl hS rfl hl.1 rfl (Nat.le_of_ble_eq_true rfl) dX4_hasTwinAbove_23 ⟨Nat.zero_le _, Nat.zero_le _⟩ (fun H locs hP hS => ?_)
        refine wk_if_eqb (tgt := 40) hx hb dX4_hasTwinAbove_26 (by decide) (fun c26 => ?_) (fun c26 => ?_)
        · skip
          refine lv_iinc (v := (nI (lev - 1))) (lv' := [(3, .int (nI (lev - 1))), (2, .int (nI nv.1)), (0, .ref (ta 0)), (1, .int (nI k))]) hx hb dX4_hasTwinAbove_40 hl (k := 3) rfl (by exact wk_dec (by omega)) (by decide) rfl (fun ls hl => ?_)
          refine lv_goto (tgt := 9) hx hb dX4_hasTwinAbove_43 (by decide) ?_
          exact ih9 nv.1 pn (lev - 1) (by omega) hpn (by rw [hlev, hup, List.length_cons]; rfl) (op_any hinv hup (by rw [c26]; rfl)) _ _ _ hP hS (lv_sub hl [2, 3, 1, 0] rfl)
        · skip
          refine lv_aload_n hx hb dX4_hasTwinAbove_29 rfl (lv_at hl 1 rfl) ?_
          refine lv_iload_n hx hb dX4_hasTwinAbove_30 rfl (lv_at hl 0 rfl) ?_
          refine lv_iload_n hx hb dX4_hasTwinAbove_31 rfl (lv_at hl 2 rfl) ?_
          refine wk_Vi (As := [.int (nI nv.1), .int (nI k)]) (rest := []) ⟨hx, hb, hml, hown, hts⟩ (c_X4_isAtLeast l D cI cJ cZ cA ta g0 g2 g3 h4 h5 h6 h7 h8 pl nv.1 k hpl pn.2.1 nd.2.1 (by omega) (by omega) hpr hkr) (cwV 2 hts gX4_hasTwinAbove_X4_isAtLeast rfl rfl rfl (by decide +kernel) ⟨Nat.le_of_ble_eq_true rfl, Nat.le_of_ble_eq_true rfl⟩) hK hP [0, 1, 2, 3, 4, 5] rfl 0 3 rfl rfl hS rfl hl.1 rfl (Nat.le_of_ble_eq_true rfl) dX4_hasTwinAbove_32 ⟨Nat.zero_le _, Nat.zero_le _⟩ (fun H locs hP hS => ?_)
          refine wk_if_eqb (tgt := 40) hx hb dX4_hasTwinAbove_35 (by decide) (fun c35 => ?_) (fun c35 => ?_)
          · skip
            refine lv_iinc (v := (nI (lev - 1))) (lv' := [(3, .int (nI (lev - 1))), (2, .int (nI nv.1)), (0, .ref (ta 0)), (1, .int (nI k))]) hx hb dX4_hasTwinAbove_40 hl (k := 3) rfl (by exact wk_dec (by omega)) (by decide) rfl (fun ls hl => ?_)
            refine lv_goto (tgt := 9) hx hb dX4_hasTwinAbove_43 (by decide) ?_
            exact ih9 nv.1 pn (lev - 1) (by omega) hpn (by rw [hlev, hup, List.length_cons]; rfl) (op_any hinv hup (by rw [c35]; exact Bool.and_false _)) _ _ _ hP hS (lv_sub hl [2, 3, 1, 0] rfl)
          · skip
            refine lv_iconst (v := nI 1) hx hb dX4_hasTwinAbove_38 (by decide) ?_
            exact hret _ _ _ _ _ (bI_T (by unfold oldP; rw [← hinv, hup, List.any_cons, c26, c35]; rfl)) dX4_hasTwinAbove_39 hS
  exact lp9 _ k nd nd.2.2.length (Nat.lt_succ_self _) hk rfl rfl _ _ _ hP hS (lv_sub hl [2, 3, 1, 0] rfl)

set_option maxHeartbeats 4000000 in
set_option maxRecDepth 100000 in
theorem c_X4_raise (l : Launch) (D : va_G) (cI cJ cZ cA : ClassId) (ta : Nat → Nat) (g0 g2 g3 : Int32) (h4 h5 h6 h7 h8 : Nat → Int32) (sz pl c9 u : Nat) (x w : Rw) (hpl : pl ≤ 5) (hc9 : c9 < 1000) (hu : u < c9) (hwr : ∀ q, q < 5 → h5 (5 * c9 + q) = w q) (hxr : ∀ q, q < 5 → h5 (5 * u + q) = x q) : Met l yX4_raise wsX4_raise ({ frames := 1, cells := 0, slots := 0, locals := 22 } : Room) (wr_P D (tysC cI cJ cZ cA) [.ref (ta 0), .int (nI c9), .int (nI u)] (tw cI cZ ta g0 (nI pl) g2 g3 h4 h5 h6 h7 h8) sz) (wr_Qi D (S := Nat → Int32) (tw cI cZ ta g0 (nI pl) g2 g3 h4 h5 h6 h7 h8) sz (fun r9 u9 => r9 = bI (rsP pl (nI 1000000000) x w) ∧ (∀ q, q < 5 → u9 (5 * c9 + q) = raP pl (nI 1000000000) x w q) ∧ (∀ z, z < 5 * c9 → u9 z = h5 z)) (fun u9 => (tw cI cZ ta g0 (nI pl) g2 g3 h4 u9 h6 h7 h8))) 0 0 (va_A (tw cI cZ ta g0 (nI pl) g2 g3 h4 h5 h6 h7 h8) sz) := by
  refine met_wi (cc := cX4_raise) (maxL := 6) (ty := .boolean) (by decide) rfl (Nat.le_of_ble_eq_true rfl) ?_
  intro p e s m args below meth c Q A hx hb hml hown hts hP hK hD hA hret ls hl
  obtain ⟨H, hH9⟩ : ∃ H : Heap, H = s.heap := ⟨_, rfl⟩
  have hP : va_P D vwCl (tw cI cZ ta g0 (nI pl) g2 g3 h4 h5 h6 h7 h8) H := by rw [hH9]; exact hP
  have hS : va_S A s.heap H [] := by rw [hH9]; exact va_S.rf
  rw [← hH9]
  have hown : s.vm.findClass RX4 = some m.cls := hown
  have hin4 : ∀ w ∈ wsX40, w ∈ wsX4_raise := by decide +kernel
  have fl15 := hts (.fieldLink RX4 15 "CoverRounds$Tree" "places" "I") (by decide +kernel)
  have fl29 := hts (.fieldLink RX4 29 "CoverRounds$Tree" "counts" "[I") (by decide +kernel)
  have hl : lv_has ls 6 [(0, .ref (ta 0)), (1, .int (nI c9)), (2, .int (nI u))] := hl
  refine lv_iconst (v := nI 0) hx hb dX4_raise_0 (by decide) ?_
  refine lv_istore_n (lv' := [(3, .int (nI 0)), (0, .ref (ta 0)), (1, .int (nI c9)), (2, .int (nI u))]) hx hb dX4_raise_1 rfl hl (by decide) rfl (fun ls hl => ?_)
  refine lv_iconst (v := nI 0) hx hb dX4_raise_2 (by decide) ?_
  refine lv_istore (lv' := [(4, .int (nI 0)), (3, .int (nI 0)), (0, .ref (ta 0)), (1, .int (nI c9)), (2, .int (nI u))]) hx hb dX4_raise_3 hl (by decide) rfl (fun ls hl => ?_)
  have lp5 : ∀ (n9 : Nat) (q : Nat) (t : Bool), pl - q < n9 → q ≤ pl → (t = true ↔ ∃ j, j < q ∧ (¬ w j = (nI 1000000000) ∧ x j < w j)) → ∀ (H : Heap) (locs : List Loc) (ls : Array Slot), va_P D vwCl (tw cI cZ ta g0 (nI pl) g2 g3 h4 (wrN h5 (raW (nI 1000000000) x w) (5 * c9) q) h6 h7 h8) H → va_D A (tw cI cZ ta g0 (nI pl) g2 g3 h4 (wrN h5 (raW (nI 1000000000) x w) (5 * c9) q) h6 h7 h8) → va_S A s.heap H locs → lv_has ls 6 [(0, .ref (ta 0)), (1, .int (nI c9)), (2, .int (nI u)), (3, .int (bI t)), (4, .int (nI q))] → W p l e ({ frames := 1, cells := 0, slots := 0, locals := 22 } : Room) s m args below meth c H locs 0 0 Q (F0 m 5 ls []) := by
    intro n9
    induction n9 with
    | zero => intro q t hm5; exact absurd hm5 (Nat.not_lt_zero _)
    | succ n9 ih5 =>
      intro q t hm5 hq ht H locs ls hP hD hS hl
      refine lv_iload hx hb dX4_raise_5 (lv_at hl 4 rfl) ?_
      refine lv_aload_n hx hb dX4_raise_7 rfl (lv_at hl 0 rfl) ?_
      refine va_get (D := D) (ci := 3) (v := .int (nI pl)) (C := RX4) (T := TX4) (N := 9) hx hb hts hin4 hown hK hP 0 rfl rfl 1 (by decide) fl15 (fun _ h9 => h9) rfl dX4_raise_8 ?_
      refine wk_icmp_ge (tgt := 63) hx hb (by omega) (by omega) dX4_raise_11 (by decide) (fun c11 => ?_) (fun c11 => ?_)
      · skip
        refine lv_iload_n hx hb dX4_raise_63 rfl (lv_at hl 3 rfl) ?_
        have hqp : q = pl := by omega
        subst hqp
        exact hret _ _ _ _ _ _ _ _ (bI_n _) ⟨congrArg bI (rsP_end ht), raP_row hwr, fun z hz => wrN_far (Or.inl hz)⟩ hP hD dX4_raise_64 hS (Nat.zero_le _) (Nat.zero_le _)
      · skip
        refine lv_aload_n hx hb dX4_raise_14 rfl (lv_at hl 0 rfl) ?_
        refine lv_iload_n hx hb dX4_raise_15 rfl (lv_at hl 1 rfl) ?_
        refine lv_iload hx hb dX4_raise_16 (lv_at hl 4 rfl) ?_
        refine wk_Vi (As := [.int (nI c9), .int (nI q)]) (rest := []) ⟨hx, hb, hml, hown, hts⟩ (c_X4_countAt l D cI cJ cZ cA ta g0 (nI pl) g2 g3 h4 (wrN h5 (raW (nI 1000000000) x w) (5 * c9) q) h6 h7 h8 c9 q (by omega) (by omega)) (cwV 2 hts gX4_raise_X4_countAt rfl rfl rfl (by decide +kernel) ⟨Nat.le_of_ble_eq_true rfl, Nat.le_of_ble_eq_true rfl⟩) hK hP [0, 1, 2, 3, 4, 5] rfl 0 3 rfl rfl hS rfl hl.1 rfl (Nat.le_of_ble_eq_true rfl) dX4_raise_18 ⟨Nat.zero_le _, Nat.zero_le _⟩ (fun H locs hP hS => ?_)
        rw [show ((wrN h5 (raW (nI 1000000000) x w) (5 * c9) q) (5 * c9 + q)) = w q from (wrN_out.trans (hwr q (by omega)))]
        refine lv_istore (lv' := [(5, .int (w q)), (0, .ref (ta 0)), (1, .int (nI c9)), (2, .int (nI u)), (3, .int (bI t)), (4, .int (nI q))]) hx hb dX4_raise_21 hl (by decide) rfl (fun ls hl => ?_)
        refine lv_iload hx hb dX4_raise_23 (lv_at hl 0 rfl) ?_
        refine wk_ldc (v := nI 1000000000) hx hb hown (hts (.constant RX4 99 (nI 1000000000)) (by decide +kernel)) dX4_raise_25 ?_
        refine lv_icmp_eq (tgt := 57) hx hb dX4_raise_27 (by decide) (fun c27 => ?_) (fun c27 => ?_)
        · skip
          refine lv_iinc (v := (nI (q + 1))) (lv' := [(4, .int (nI (q + 1))), (5, .int (w q)), (0, .ref (ta 0)), (1, .int (nI c9)), (2, .int (nI u)), (3, .int (bI t))]) hx hb dX4_raise_57 hl (k := 5) rfl (by exact nI_1 _) (by decide) rfl (fun ls hl => ?_)
          refine lv_goto (tgt := 5) hx hb dX4_raise_60 (by decide) ?_
          have hP : va_P D vwCl (tw cI cZ ta g0 (nI pl) g2 g3 h4 (wrN h5 (raW (nI 1000000000) x w) (5 * c9) (q + 1)) h6 h7 h8) H := by rw [wrN_id ((raW_n1 c27).trans (hwr q (by omega)).symm)]; exact hP
          have hD : va_D A (tw cI cZ ta g0 (nI pl) g2 g3 h4 (wrN h5 (raW (nI 1000000000) x w) (5 * c9) (q + 1)) h6 h7 h8) := by rw [wrN_id ((raW_n1 c27).trans (hwr q (by omega)).symm)]; exact hD
          exact ih5 (q + 1) t (by omega) (by omega) ⟨fun h9 => by obtain ⟨j, h1, h2⟩ := ht.mp h9; exact ⟨j, by omega, h2⟩, fun ⟨j, h1, h2⟩ => by rcases Nat.lt_or_eq_of_le (Nat.le_of_lt_succ h1) with h3 | rfl; exact ht.mpr ⟨j, h3, h2⟩; exact absurd c27 h2.1⟩ _ _ _ hP hD hS (lv_sub hl [2, 3, 4, 5, 0] rfl)
        · skip
          refine lv_iload hx hb dX4_raise_30 (lv_at hl 0 rfl) ?_
          refine lv_aload_n hx hb dX4_raise_32 rfl (lv_at hl 1 rfl) ?_
          refine lv_iload_n hx hb dX4_raise_33 rfl (lv_at hl 3 rfl) ?_
          refine lv_iload hx hb dX4_raise_34 (lv_at hl 5 rfl) ?_
          refine wk_Vi (As := [.int (nI u), .int (nI q)]) (rest := [.int (w q)]) ⟨hx, hb, hml, hown, hts⟩ (c_X4_countAt l D cI cJ cZ cA ta g0 (nI pl) g2 g3 h4 (wrN h5 (raW (nI 1000000000) x w) (5 * c9) q) h6 h7 h8 u q (by omega) (by omega)) (cwV 2 hts gX4_raise_X4_countAt rfl rfl rfl (by decide +kernel) ⟨Nat.le_of_ble_eq_true rfl, Nat.le_of_ble_eq_true rfl⟩) hK hP [0, 1, 2, 3, 4, 5] rfl 0 3 rfl rfl hS rfl hl.1 rfl (Nat.le_of_ble_eq_true rfl) dX4_raise_36 ⟨Nat.zero_le _, Nat.zero_le _⟩ (fun H locs hP hS => ?_)
          rw [show ((wrN h5 (raW (nI 1000000000) x w) (5 * c9) q) (5 * u + q)) = x q from ((wrN_far (by omega)).trans (hxr q (by omega)))]
          refine lv_icmp_le (tgt := 57) hx hb dX4_raise_39 (by decide) (fun c39 => ?_) (fun c39 => ?_)
          · skip
            refine lv_iinc (v := (nI (q + 1))) (lv' := [(4, .int (nI (q + 1))), (5, .int (w q)), (0, .ref (ta 0)), (1, .int (nI c9)), (2, .int (nI u)), (3, .int (bI t))]) hx hb dX4_raise_57 hl (k := 5) rfl (by exact nI_1 _) (by decide) rfl (fun ls hl => ?_)
            refine lv_goto (tgt := 5) hx hb dX4_raise_60 (by decide) ?_
            have hP : va_P D vwCl (tw cI cZ ta g0 (nI pl) g2 g3 h4 (wrN h5 (raW (nI 1000000000) x w) (5 * c9) (q + 1)) h6 h7 h8) H := by rw [wrN_id ((raW_n2 c39).trans (hwr q (by omega)).symm)]; exact hP
            have hD : va_D A (tw cI cZ ta g0 (nI pl) g2 g3 h4 (wrN h5 (raW (nI 1000000000) x w) (5 * c9) (q + 1)) h6 h7 h8) := by rw [wrN_id ((raW_n2 c39).trans (hwr q (by omega)).symm)]; exact hD
            exact ih5 (q + 1) t (by omega) (by omega) ⟨fun h9 => by obtain ⟨j, h1, h2⟩ := ht.mp h9; exact ⟨j, by omega, h2⟩, fun ⟨j, h1, h2⟩ => by rcases Nat.lt_or_eq_of_le (Nat.le_of_lt_succ h1) with h3 | rfl; exact ht.mpr ⟨j, h3, h2⟩; exact absurd c39 (Int32.not_le.mpr h2.2)⟩ _ _ _ hP hD hS (lv_sub hl [2, 3, 4, 5, 0] rfl)
          · skip
            refine lv_aload_n hx hb dX4_raise_42 rfl (lv_at hl 1 rfl) ?_
            refine va_get (D := D) (ci := 3) (v := .ref (ta 5)) (C := RX4) (T := TX4) (N := 9) hx hb hts hin4 hown hK hP 0 rfl rfl 5 (by decide) fl29 (fun _ h9 => h9) rfl dX4_raise_43 ?_
            refine lv_iload_n hx hb dX4_raise_46 rfl (lv_at hl 2 rfl) ?_
            refine lv_iconst (v := nI 5) hx hb dX4_raise_47 (by decide) ?_
            refine wk_imulC hx hb dX4_raise_48 ?_
            refine lv_iload hx hb dX4_raise_49 (lv_at hl 5 rfl) ?_
            refine wk_iadd hx hb dX4_raise_51 ?_
            refine wk_ldc (v := nI 1000000000) hx hb hown (hts (.constant RX4 99 (nI 1000000000)) (by decide +kernel)) dX4_raise_52 ?_
            refine wk_iast hx hb hK hP hD hS 2 0 rfl rfl (i := (5 * c9) + q) (by omega) (by omega) dX4_raise_54 (fun H locs hP hD hS => ?_)
            have hP : va_P D vwCl (tw cI cZ ta g0 (nI pl) g2 g3 h4 (upd (wrN h5 (raW (nI 1000000000) x w) (5 * c9) q) ((5 * c9) + q) (nI 1000000000)) h6 h7 h8) H := hP
            have hD : va_D A (tw cI cZ ta g0 (nI pl) g2 g3 h4 (upd (wrN h5 (raW (nI 1000000000) x w) (5 * c9) q) ((5 * c9) + q) (nI 1000000000)) h6 h7 h8) := hD
            refine lv_iconst (v := nI 1) hx hb dX4_raise_55 (by decide) ?_
            refine lv_istore_n (lv' := [(3, .int (nI 1)), (5, .int (w q)), (0, .ref (ta 0)), (1, .int (nI c9)), (2, .int (nI u)), (4, .int (nI q))]) hx hb dX4_raise_56 rfl hl (by decide) rfl (fun ls hl => ?_)
            refine lv_iinc (v := (nI (q + 1))) (lv' := [(4, .int (nI (q + 1))), (3, .int (nI 1)), (5, .int (w q)), (0, .ref (ta 0)), (1, .int (nI c9)), (2, .int (nI u))]) hx hb dX4_raise_57 hl (k := 5) rfl (by exact nI_1 _) (by decide) rfl (fun ls hl => ?_)
            refine lv_goto (tgt := 5) hx hb dX4_raise_60 (by decide) ?_
            have hP : va_P D vwCl (tw cI cZ ta g0 (nI pl) g2 g3 h4 (wrN h5 (raW (nI 1000000000) x w) (5 * c9) (q + 1)) h6 h7 h8) H := by rw [← wrN_s, raW_y c27 c39]; exact hP
            have hD : va_D A (tw cI cZ ta g0 (nI pl) g2 g3 h4 (wrN h5 (raW (nI 1000000000) x w) (5 * c9) (q + 1)) h6 h7 h8) := by rw [← wrN_s, raW_y c27 c39]; exact hD
            exact ih5 (q + 1) true (by omega) (by omega) ⟨fun _ => ⟨q, Nat.lt_succ_self q, c27, Int32.not_le.mp c39⟩, fun _ => rfl⟩ _ _ _ hP hD hS (lv_sub hl [3, 4, 5, 1, 0] rfl)
  have hP : va_P D vwCl (tw cI cZ ta g0 (nI pl) g2 g3 h4 (wrN h5 (raW (nI 1000000000) x w) (5 * c9) 0) h6 h7 h8) H := by rw [wrN_0]; exact hP
  have hD : va_D A (tw cI cZ ta g0 (nI pl) g2 g3 h4 (wrN h5 (raW (nI 1000000000) x w) (5 * c9) 0) h6 h7 h8) := by rw [wrN_0]; exact hD
  exact lp5 _ 0 false (Nat.lt_succ_self _) (by omega) ex_0 _ _ _ hP hD hS (lv_sub hl [2, 3, 4, 1, 0] rfl)

set_option maxHeartbeats 4000000 in
set_option maxRecDepth 100000 in
theorem c_X4_accelerate (l : Launch) (D : va_G) (cI cJ cZ cA : ClassId) (ta : Nat → Nat) (g0 g2 g3 : Int32) (h4 h5 h6 h7 h8 : Nat → Int32) (sz pl k : Nat) (nd : Nd) (w : Rw) (hpl : pl ≤ 5) (T : List Nd) (hT : treeC h5 h6 h7 T) (hTl : T.length < 1000) (hk : T[k]? = some nd) (hab : h6 T.length = nI k) (hdep : h7 T.length = nI (nd.2.2.length + 1)) (hw : ∀ q, q < 5 → h5 (5 * T.length + q) = w q) : Met l yX4_accelerate wsX4_accelerate ({ frames := 2, cells := 0, slots := 0, locals := 47 } : Room) (wr_P D (tysC cI cJ cZ cA) [.ref (ta 0), .int (nI T.length)] (tw cI cZ ta g0 (nI pl) g2 g3 h4 h5 h6 h7 h8) sz) (wr_Qv D (S := Nat → Int32) (tw cI cZ ta g0 (nI pl) g2 g3 h4 h5 h6 h7 h8) sz (fun u => (∀ q, q < 5 → u (5 * T.length + q) = accP pl (nI 1000000000) (nd.2.1 :: nd.2.2) (pl + 1) w q) ∧ (∀ z, z < 5 * T.length → u z = h5 z)) (fun u => (tw cI cZ ta g0 (nI pl) g2 g3 h4 u h6 h7 h8))) 0 0 (va_A (tw cI cZ ta g0 (nI pl) g2 g3 h4 h5 h6 h7 h8) sz) := by
  refine met_wv (cc := cX4_accelerate) (maxL := 6) (by decide) rfl (Nat.le_of_ble_eq_true rfl) ?_
  intro p e s m args below meth c Q A hx hb hml hown hts hP hK hD hA hret ls hl
  obtain ⟨H, hH9⟩ : ∃ H : Heap, H = s.heap := ⟨_, rfl⟩
  have hP : va_P D vwCl (tw cI cZ ta g0 (nI pl) g2 g3 h4 h5 h6 h7 h8) H := by rw [hH9]; exact hP
  have hS : va_S A s.heap H [] := by rw [hH9]; exact va_S.rf
  rw [← hH9]
  have hown : s.vm.findClass RX4 = some m.cls := hown
  have hin4 : ∀ w ∈ wsX40, w ∈ wsX4_accelerate := by decide +kernel
  have fl15 := hts (.fieldLink RX4 15 "CoverRounds$Tree" "places" "I") (by decide +kernel)
  have fl36 := hts (.fieldLink RX4 36 "CoverRounds$Tree" "depth" "[I") (by decide +kernel)
  have fl33 := hts (.fieldLink RX4 33 "CoverRounds$Tree" "above" "[I") (by decide +kernel)
  have hl : lv_has ls 6 [(0, .ref (ta 0)), (1, .int (nI T.length))] := hl
  have hkd := tc_len hT k nd hk
  have hkl := lt_of_some hk
  refine lv_iconst (v := nI 1) hx hb dX4_accelerate_0 (by decide) ?_
  refine lv_istore_n (lv' := [(2, .int (nI 1)), (0, .ref (ta 0)), (1, .int (nI T.length))]) hx hb dX4_accelerate_1 rfl hl (by decide) rfl (fun ls hl => ?_)
  refine lv_iconst (v := nI 0) hx hb dX4_accelerate_2 (by decide) ?_
  refine lv_istore_n (lv' := [(3, .int (nI 0)), (2, .int (nI 1)), (0, .ref (ta 0)), (1, .int (nI T.length))]) hx hb dX4_accelerate_3 rfl hl (by decide) rfl (fun ls hl => ?_)
  refine lv_iload_n hx hb dX4_accelerate_4 rfl (lv_at hl 1 rfl) ?_
  refine lv_if_eq (tgt := 77) hx hb dX4_accelerate_5 (by decide) (fun c5 => absurd c5 (by decide)) (fun c5 => ?_)
  refine lv_iload_n hx hb dX4_accelerate_8 rfl (lv_at hl 0 rfl) ?_
  refine lv_aload_n hx hb dX4_accelerate_9 rfl (lv_at hl 2 rfl) ?_
  refine va_get (D := D) (ci := 3) (v := .int (nI pl)) (C := RX4) (T := TX4) (N := 9) hx hb hts hin4 hown hK hP 0 rfl rfl 1 (by decide) fl15 (fun _ h9 => h9) rfl dX4_accelerate_10 ?_
  refine wk_icmp_gt (tgt := 77) hx hb (by omega) (by omega) dX4_accelerate_13 (by decide) (fun c13 => ?_) (fun c13 => ?_)
  · skip
    exact absurd c13 (Nat.not_lt_zero _)
  · skip
    have lp16 : ∀ (n9 : Nat) (ps : Nat) (w6 : Rw) (g5 : Nat → Int32), pl - ps < n9 → ps ≤ pl → (∀ q, q < 5 → g5 (5 * T.length + q) = w6 q) → (∀ z, z < 5 * T.length → g5 z = h5 z) → accP pl (nI 1000000000) (nd.2.1 :: nd.2.2) (pl + 1 - ps) w6 = accP pl (nI 1000000000) (nd.2.1 :: nd.2.2) (pl + 1) w → ∀ (H : Heap) (locs : List Loc) (ls : Array Slot), va_P D vwCl (tw cI cZ ta g0 (nI pl) g2 g3 h4 g5 h6 h7 h8) H → va_D A (tw cI cZ ta g0 (nI pl) g2 g3 h4 g5 h6 h7 h8) → va_S A s.heap H locs → lv_has ls 6 [(0, .ref (ta 0)), (1, .int (nI T.length)), (3, .int (nI ps))] → W p l e ({ frames := 2, cells := 0, slots := 0, locals := 47 } : Room) s m args below meth c H locs 0 0 Q (F0 m 16 ls []) := by
      intro n9
      induction n9 with
      | zero => intro ps w6 g5 hm16; exact absurd hm16 (Nat.not_lt_zero _)
      | succ n9 ih16 =>
        intro ps w6 g5 hm16 hps hrow hout hacc H locs ls hP hD hS hl
        refine lv_iconst (v := nI 0) hx hb dX4_accelerate_16 (by decide) ?_
        refine lv_istore_n (lv' := [(2, .int (nI 0)), (0, .ref (ta 0)), (1, .int (nI T.length)), (3, .int (nI ps))]) hx hb dX4_accelerate_17 rfl hl (by decide) rfl (fun ls hl => ?_)
        refine lv_iload_n hx hb dX4_accelerate_18 rfl (lv_at hl 2 rfl) ?_
        refine lv_istore (lv' := [(4, .int (nI T.length)), (2, .int (nI 0)), (0, .ref (ta 0)), (1, .int (nI T.length)), (3, .int (nI ps))]) hx hb dX4_accelerate_19 hl (by decide) rfl (fun ls hl => ?_)
        refine lv_aload_n hx hb dX4_accelerate_21 rfl (lv_at hl 2 rfl) ?_
        refine va_get (D := D) (ci := 3) (v := .ref (ta 7)) (C := RX4) (T := TX4) (N := 9) hx hb hts hin4 hown hK hP 0 rfl rfl 7 (by decide) fl36 (fun _ h9 => h9) rfl dX4_accelerate_22 ?_
        refine lv_iload_n hx hb dX4_accelerate_25 rfl (lv_at hl 3 rfl) ?_
        refine wk_iald hx hb hK hP 4 0 rfl rfl (i := T.length) (by omega) (by omega) dX4_accelerate_26 ?_
        rw [show (h7 T.length) = (nI (nd.2.2.length + 1)) from hdep]
        refine lv_istore (lv' := [(5, .int (nI (nd.2.2.length + 1))), (4, .int (nI T.length)), (2, .int (nI 0)), (0, .ref (ta 0)), (1, .int (nI T.length)), (3, .int (nI ps))]) hx hb dX4_accelerate_27 hl (by decide) rfl (fun ls hl => ?_)
        have lp29 : ∀ (n9 : Nat) (v : Nat) (lev : Nat) (rem : List Rw) (w2 : Rw) (t : Bool) (f5 : Nat → Int32), lev < n9 → lev = rem.length → lev ≤ 1000 → v ≤ T.length → remC h6 T v rem → (∀ q, q < 5 → f5 (5 * T.length + q) = w2 q) → (∀ z, z < 5 * T.length → f5 z = h5 z) → passP pl (nI 1000000000) rem (w2, t) = passP pl (nI 1000000000) (nd.2.1 :: nd.2.2) (w6, false) → ∀ (H : Heap) (locs : List Loc) (ls : Array Slot), va_P D vwCl (tw cI cZ ta g0 (nI pl) g2 g3 h4 f5 h6 h7 h8) H → va_D A (tw cI cZ ta g0 (nI pl) g2 g3 h4 f5 h6 h7 h8) → va_S A s.heap H locs → lv_has ls 6 [(0, .ref (ta 0)), (1, .int (nI T.length)), (2, .int (bI t)), (3, .int (nI ps)), (4, .int (nI v)), (5, .int (nI lev))] → W p l e ({ frames := 2, cells := 0, slots := 0, locals := 47 } : Room) s m args below meth c H locs 0 0 Q (F0 m 29 ls []) := by
          intro n9
          induction n9 with
          | zero => intro v lev rem w2 t f5 hm29; exact absurd hm29 (Nat.not_lt_zero _)
          | succ n9 ih29 =>
            intro v lev rem w2 t f5 hm29 hlev hlv hvT hrem hrow2 hout2 hpass H locs ls hP hD hS hl
            refine lv_iload hx hb dX4_accelerate_29 (lv_at hl 5 rfl) ?_
            refine wk_if_le (tgt := 71) hx hb (by omega) dX4_accelerate_31 (by decide) (fun c31 => ?_) (fun c31 => ?_)
            · skip
              have hr0 : rem = [] := List.length_eq_zero_iff.mp (by omega)
              subst hr0
              have hpass : (w2, t) = passP pl (nI 1000000000) (nd.2.1 :: nd.2.2) (w6, false) := hpass
              obtain ⟨k2, hk2⟩ : ∃ k2, pl + 1 - ps = k2 + 1 := ⟨pl - ps, by omega⟩
              rw [hk2] at hacc
              refine lv_iinc (v := (nI (ps + 1))) (lv' := [(3, .int (nI (ps + 1))), (0, .ref (ta 0)), (1, .int (nI T.length)), (2, .int (bI t)), (4, .int (nI v)), (5, .int (nI lev))]) hx hb dX4_accelerate_71 hl (k := 3) rfl (by exact nI_1 _) (by decide) rfl (fun ls hl => ?_)
              refine lv_goto (tgt := 4) hx hb dX4_accelerate_74 (by decide) ?_
              refine lv_iload_n hx hb dX4_accelerate_4 rfl (lv_at hl 3 rfl) ?_
              refine wk_if_eqb (tgt := 77) hx hb dX4_accelerate_5 (by decide) (fun c5 => ?_) (fun c5 => ?_)
              · skip
                rw [c5] at hpass
                have he9 := accP_f hpass hacc
                exact hret f5 _ _ _ _ _ _ ⟨fun q hq => by rw [hrow2 q hq, he9], hout2⟩ hP hD dX4_accelerate_77 hS (Nat.zero_le _) (Nat.zero_le _)
              · skip
                rw [c5] at hpass
                refine lv_iload_n hx hb dX4_accelerate_8 rfl (lv_at hl 0 rfl) ?_
                refine lv_aload_n hx hb dX4_accelerate_9 rfl (lv_at hl 1 rfl) ?_
                refine va_get (D := D) (ci := 3) (v := .int (nI pl)) (C := RX4) (T := TX4) (N := 9) hx hb hts hin4 hown hK hP 0 rfl rfl 1 (by decide) fl15 (fun _ h9 => h9) rfl dX4_accelerate_10 ?_
                refine wk_icmp_gt (tgt := 77) hx hb (by omega) (by omega) dX4_accelerate_13 (by decide) (fun c13 => ?_) (fun c13 => ?_)
                · skip
                  have hk20 : k2 = 0 := by omega
                  subst hk20
                  have he9 : w2 = accP pl (nI 1000000000) (nd.2.1 :: nd.2.2) (pl + 1) w := accP_t hpass hacc
                  exact hret f5 _ _ _ _ _ _ ⟨fun q hq => by rw [hrow2 q hq, he9], hout2⟩ hP hD dX4_accelerate_77 hS (Nat.zero_le _) (Nat.zero_le _)
                · skip
                  exact ih16 (ps + 1) w2 f5 (by omega) (by omega) hrow2 hout2 (by rw [show pl + 1 - (ps + 1) = k2 by omega]; exact accP_t hpass hacc) _ _ _ hP hD hS (lv_sub hl [1, 2, 0] rfl)
            · skip
              obtain ⟨p9, pn, hpn, hp2, hrl⟩ := remC_pos hrem (by omega)
              have hpT := lt_of_some hpn
              have hpr : ∀ q, q < 5 → f5 (5 * p9 + q) = pn.2.1 q := fun q hq => by rw [hout2 _ (by omega)]; exact (hT p9 pn hpn).1 q hq
              refine lv_aload_n hx hb dX4_accelerate_34 rfl (lv_at hl 0 rfl) ?_
              refine va_get (D := D) (ci := 3) (v := .ref (ta 6)) (C := RX4) (T := TX4) (N := 9) hx hb hts hin4 hown hK hP 0 rfl rfl 6 (by decide) fl33 (fun _ h9 => h9) rfl dX4_accelerate_35 ?_
              refine lv_iload hx hb dX4_accelerate_38 (lv_at hl 4 rfl) ?_
              refine wk_iald hx hb hK hP 3 0 rfl rfl (i := v) (by omega) (by omega) dX4_accelerate_40 ?_
              rw [show (h6 v) = (nI p9) from hp2]
              refine lv_istore (lv' := [(4, .int (nI p9)), (0, .ref (ta 0)), (1, .int (nI T.length)), (2, .int (bI t)), (3, .int (nI ps)), (5, .int (nI lev))]) hx hb dX4_accelerate_41 hl (by decide) rfl (fun ls hl => ?_)
              refine lv_aload_n hx hb dX4_accelerate_43 rfl (lv_at hl 1 rfl) ?_
              refine lv_iload_n hx hb dX4_accelerate_44 rfl (lv_at hl 2 rfl) ?_
              refine lv_iload hx hb dX4_accelerate_45 (lv_at hl 0 rfl) ?_
              refine wk_Vi (As := [.int (nI T.length), .int (nI p9)]) (rest := []) ⟨hx, hb, hml, hown, hts⟩ (c_X4_isAtLeast l D cI cJ cZ cA ta g0 g2 g3 h4 f5 h6 h7 h8 pl T.length p9 hpl w2 pn.2.1 (by omega) (by omega) hrow2 hpr) (cwV 2 hts gX4_accelerate_X4_isAtLeast rfl rfl rfl (by decide +kernel) ⟨Nat.le_of_ble_eq_true rfl, Nat.le_of_ble_eq_true rfl⟩) hK hP [0, 1, 2, 3, 4, 5] rfl 0 3 rfl rfl hS rfl hl.1 rfl (Nat.le_of_ble_eq_true rfl) dX4_accelerate_47 ⟨Nat.zero_le _, Nat.zero_le _⟩ (fun H locs hP hS => ?_)
              refine wk_if_eqb (tgt := 65) hx hb dX4_accelerate_50 (by decide) (fun c50 => ?_) (fun c50 => ?_)
              · skip
                refine lv_iinc (v := (nI (lev - 1))) (lv' := [(5, .int (nI (lev - 1))), (4, .int (nI p9)), (0, .ref (ta 0)), (1, .int (nI T.length)), (2, .int (bI t)), (3, .int (nI ps))]) hx hb dX4_accelerate_65 hl (k := 5) rfl (by exact wk_dec (by omega)) (by decide) rfl (fun ls hl => ?_)
                refine lv_goto (tgt := 29) hx hb dX4_accelerate_68 (by decide) ?_
                exact ih29 p9 (lev - 1) pn.2.2 w2 t f5 (by omega) (by rw [hlev, hrl, List.length_cons]; rfl) (by omega) (by omega) (tc_rem hT hpn) hrow2 hout2 (by rw [← hpass, hrl]; show _ = passP _ _ _ (stP _ _ _ _); unfold stP; rw [if_neg (show ¬ tpP pl w2 pn.2.1 = true by rw [c50]; exact Bool.false_ne_true)]) _ _ _ hP hD hS (lv_sub hl [2, 3, 4, 5, 1, 0] rfl)
              · skip
                refine lv_aload_n hx hb dX4_accelerate_53 rfl (lv_at hl 1 rfl) ?_
                refine lv_iload_n hx hb dX4_accelerate_54 rfl (lv_at hl 2 rfl) ?_
                refine lv_iload hx hb dX4_accelerate_55 (lv_at hl 0 rfl) ?_
                refine wk_ViW (As := [.int (nI T.length), .int (nI p9)]) (rest := []) (wr := []) ⟨hx, hb, hml, hown, hts⟩ (c_X4_raise l D cI cJ cZ cA ta g0 g2 g3 h4 f5 h6 h7 h8 H.size pl T.length p9 pn.2.1 w2 hpl (by omega) (by omega) hrow2 hpr) (cwV 2 hts gX4_accelerate_X4_raise rfl rfl rfl (by decide +kernel) ⟨Nat.le_of_ble_eq_true rfl, Nat.le_of_ble_eq_true rfl⟩) hK hP hD hA [0, 1, 2, 3, 4, 5] rfl (by decide) [] rfl (by decide) (by decide) 0 3 rfl rfl hS rfl hl.1 rfl (Nat.le_of_ble_eq_true rfl) dX4_accelerate_57 ⟨Nat.zero_le _, Nat.zero_le _⟩ (fun r9 u9 H locs hu hP hD hS => ?_)
                obtain ⟨hu1, hu2, hu3⟩ := hu
                subst hu1
                have hP : va_P D vwCl (tw cI cZ ta g0 (nI pl) g2 g3 h4 u9 h6 h7 h8) H := hP
                have hD : va_D A (tw cI cZ ta g0 (nI pl) g2 g3 h4 u9 h6 h7 h8) := hD
                refine wk_if_eqb (tgt := 65) hx hb dX4_accelerate_60 (by decide) (fun c60 => ?_) (fun c60 => ?_)
                · skip
                  refine lv_iinc (v := (nI (lev - 1))) (lv' := [(5, .int (nI (lev - 1))), (4, .int (nI p9)), (0, .ref (ta 0)), (1, .int (nI T.length)), (2, .int (bI t)), (3, .int (nI ps))]) hx hb dX4_accelerate_65 hl (k := 5) rfl (by exact wk_dec (by omega)) (by decide) rfl (fun ls hl => ?_)
                  refine lv_goto (tgt := 29) hx hb dX4_accelerate_68 (by decide) ?_
                  exact ih29 p9 (lev - 1) pn.2.2 (raP pl (nI 1000000000) pn.2.1 w2) t u9 (by omega) (by rw [hlev, hrl, List.length_cons]; rfl) (by omega) (by omega) (tc_rem hT hpn) hu2 (fun z hz => (hu3 z hz).trans (hout2 z hz)) (by rw [← hpass, hrl]; show _ = passP _ _ _ (stP _ _ _ _); unfold stP; rw [if_pos (show tpP pl w2 pn.2.1 = true from c50)]; show _ = passP _ _ _ (_, t || rsP pl (nI 1000000000) pn.2.1 w2); rw [c60, Bool.or_false]) _ _ _ hP hD hS (lv_sub hl [2, 3, 4, 5, 1, 0] rfl)
                · skip
                  refine lv_iconst (v := nI 1) hx hb dX4_accelerate_63 (by decide) ?_
                  refine lv_istore_n (lv' := [(2, .int (nI 1)), (4, .int (nI p9)), (0, .ref (ta 0)), (1, .int (nI T.length)), (3, .int (nI ps)), (5, .int (nI lev))]) hx hb dX4_accelerate_64 rfl hl (by decide) rfl (fun ls hl => ?_)
                  refine lv_iinc (v := (nI (lev - 1))) (lv' := [(5, .int (nI (lev - 1))), (2, .int (nI 1)), (4, .int (nI p9)), (0, .ref (ta 0)), (1, .int (nI T.length)), (3, .int (nI ps))]) hx hb dX4_accelerate_65 hl (k := 5) rfl (by exact wk_dec (by omega)) (by decide) rfl (fun ls hl => ?_)
                  refine lv_goto (tgt := 29) hx hb dX4_accelerate_68 (by decide) ?_
                  exact ih29 p9 (lev - 1) pn.2.2 (raP pl (nI 1000000000) pn.2.1 w2) true u9 (by omega) (by rw [hlev, hrl, List.length_cons]; rfl) (by omega) (by omega) (tc_rem hT hpn) hu2 (fun z hz => (hu3 z hz).trans (hout2 z hz)) (by rw [← hpass, hrl]; show _ = passP _ _ _ (stP _ _ _ _); unfold stP; rw [if_pos (show tpP pl w2 pn.2.1 = true from c50)]; show _ = passP _ _ _ (_, t || rsP pl (nI 1000000000) pn.2.1 w2); rw [c60, Bool.or_true]) _ _ _ hP hD hS (lv_sub hl [3, 4, 1, 5, 2, 0] rfl)
        exact lp29 _ T.length (nd.2.2.length + 1) (nd.2.1 :: nd.2.2) w6 false g5 (Nat.lt_succ_self _) rfl (by omega) (Nat.le_refl _) (Or.inr ⟨k, nd, hk, hab, rfl⟩) hrow hout rfl _ _ _ hP hD hS (lv_sub hl [3, 4, 2, 5, 1, 0] rfl)
    exact lp16 _ 0 w h5 (Nat.lt_succ_self _) (Nat.zero_le _) hw (fun z _ => rfl) rfl _ _ _ hP hD hS (lv_sub hl [2, 3, 0] rfl)
