set_option maxHeartbeats 4000000 in
set_option maxRecDepth 100000 in
theorem c_X0_hasPlace (l : Launch) (D : va_G) (cI cJ cZ cA : ClassId) (b rt rg : Nat → Nat) (f2 f3 : Nat → Int32) (tk gv : Nat → Nat → Int32) (pl tr x : Int32) : Met l yX0_hasPlace wsX0_hasPlace ({ frames := 0, cells := 0, slots := 0, locals := 0 } : Room) (ro_P D (tysC cI cJ cZ cA) [.ref (b 0), .int x] (nw cI cA b rt rg pl tr f2 f3 tk gv)) (ro_Q (bI (inB x pl))) 0 0 (fun _ => False) := by
  refine met_ro (cc := cX0_hasPlace) (maxL := 2) (ty := .boolean) (by decide) rfl (Nat.le_of_ble_eq_true rfl) (bI_n _) ?_
  intro p e s m args below meth c Q hx hb hml hown hts hP hK hret ls hl
  obtain ⟨H, hH9⟩ : ∃ H : Heap, H = s.heap := ⟨_, rfl⟩
  have hP : va_P D vwCl (nw cI cA b rt rg pl tr f2 f3 tk gv) H := by rw [hH9]; exact hP
  have hS : va_S (fun _ => False) s.heap H [] := by rw [hH9]; exact va_S.rf
  rw [← hH9]
  have hown : s.vm.findClass RX0 = some m.cls := hown
  have hin0 : ∀ w ∈ wsX00, w ∈ wsX0_hasPlace := by decide +kernel
  have fl9 := hts (.fieldLink RX0 9 "CoverRounds$Net" "places" "I") (by decide +kernel)
  have hl : lv_has ls 2 [(0, .ref (b 0)), (1, .int x)] := hl
  refine lv_iload_n hx hb dX0_hasPlace_0 rfl (lv_at hl 1 rfl) ?_
  refine lv_if_lt (tgt := 16) hx hb dX0_hasPlace_1 (by decide) (fun c1 => ?_) (fun c1 => ?_)
  · skip
    refine lv_iconst (v := nI 0) hx hb dX0_hasPlace_16 (by decide) ?_
    exact hret _ _ _ _ _ (bI_F (by simp [inB, c1])) dX0_hasPlace_17 hS
  · skip
    refine lv_iload_n hx hb dX0_hasPlace_4 rfl (lv_at hl 1 rfl) ?_
    refine lv_aload_n hx hb dX0_hasPlace_5 rfl (lv_at hl 0 rfl) ?_
    refine va_get (D := D) (ci := 0) (v := .int pl) (C := RX0) (T := TX0) (N := 6) hx hb hts hin0 hown hK hP 0 rfl rfl 0 (by decide) fl9 (fun _ h9 => h9) rfl dX0_hasPlace_6 ?_
    refine lv_icmp_ge (tgt := 16) hx hb dX0_hasPlace_9 (by decide) (fun c9 => ?_) (fun c9 => ?_)
    · skip
      refine lv_iconst (v := nI 0) hx hb dX0_hasPlace_16 (by decide) ?_
      exact hret _ _ _ _ _ (bI_F (by simp [inB, c1, c9])) dX0_hasPlace_17 hS
    · skip
      refine lv_iconst (v := nI 1) hx hb dX0_hasPlace_12 (by decide) ?_
      refine lv_goto (tgt := 17) hx hb dX0_hasPlace_13 (by decide) ?_
      exact hret _ _ _ _ _ (bI_T (by simp [inB, c1, c9])) dX0_hasPlace_17 hS

set_option maxHeartbeats 4000000 in
set_option maxRecDepth 100000 in
theorem c_X0_hasTransition (l : Launch) (D : va_G) (cI cJ cZ cA : ClassId) (b rt rg : Nat → Nat) (f2 f3 : Nat → Int32) (tk gv : Nat → Nat → Int32) (pl tr x : Int32) : Met l yX0_hasTransition wsX0_hasTransition ({ frames := 0, cells := 0, slots := 0, locals := 0 } : Room) (ro_P D (tysC cI cJ cZ cA) [.ref (b 0), .int x] (nw cI cA b rt rg pl tr f2 f3 tk gv)) (ro_Q (bI (inB x tr))) 0 0 (fun _ => False) := by
  refine met_ro (cc := cX0_hasTransition) (maxL := 2) (ty := .boolean) (by decide) rfl (Nat.le_of_ble_eq_true rfl) (bI_n _) ?_
  intro p e s m args below meth c Q hx hb hml hown hts hP hK hret ls hl
  obtain ⟨H, hH9⟩ : ∃ H : Heap, H = s.heap := ⟨_, rfl⟩
  have hP : va_P D vwCl (nw cI cA b rt rg pl tr f2 f3 tk gv) H := by rw [hH9]; exact hP
  have hS : va_S (fun _ => False) s.heap H [] := by rw [hH9]; exact va_S.rf
  rw [← hH9]
  have hown : s.vm.findClass RX0 = some m.cls := hown
  have hin0 : ∀ w ∈ wsX00, w ∈ wsX0_hasTransition := by decide +kernel
  have fl15 := hts (.fieldLink RX0 15 "CoverRounds$Net" "transitions" "I") (by decide +kernel)
  have hl : lv_has ls 2 [(0, .ref (b 0)), (1, .int x)] := hl
  refine lv_iload_n hx hb dX0_hasTransition_0 rfl (lv_at hl 1 rfl) ?_
  refine lv_if_lt (tgt := 16) hx hb dX0_hasTransition_1 (by decide) (fun c1 => ?_) (fun c1 => ?_)
  · skip
    refine lv_iconst (v := nI 0) hx hb dX0_hasTransition_16 (by decide) ?_
    exact hret _ _ _ _ _ (bI_F (by simp [inB, c1])) dX0_hasTransition_17 hS
  · skip
    refine lv_iload_n hx hb dX0_hasTransition_4 rfl (lv_at hl 1 rfl) ?_
    refine lv_aload_n hx hb dX0_hasTransition_5 rfl (lv_at hl 0 rfl) ?_
    refine va_get (D := D) (ci := 0) (v := .int tr) (C := RX0) (T := TX0) (N := 6) hx hb hts hin0 hown hK hP 0 rfl rfl 1 (by decide) fl15 (fun _ h9 => h9) rfl dX0_hasTransition_6 ?_
    refine lv_icmp_ge (tgt := 16) hx hb dX0_hasTransition_9 (by decide) (fun c9 => ?_) (fun c9 => ?_)
    · skip
      refine lv_iconst (v := nI 0) hx hb dX0_hasTransition_16 (by decide) ?_
      exact hret _ _ _ _ _ (bI_F (by simp [inB, c1, c9])) dX0_hasTransition_17 hS
    · skip
      refine lv_iconst (v := nI 1) hx hb dX0_hasTransition_12 (by decide) ?_
      refine lv_goto (tgt := 17) hx hb dX0_hasTransition_13 (by decide) ?_
      exact hret _ _ _ _ _ (bI_T (by simp [inB, c1, c9])) dX0_hasTransition_17 hS

set_option maxHeartbeats 4000000 in
set_option maxRecDepth 100000 in
theorem c_X0_canFire (l : Launch) (D : va_G) (cI cJ cZ cA : ClassId) (b rt rg : Nat → Nat) (f2 f3 : Nat → Int32) (tk gv : Nat → Nat → Int32) (tr : Int32) (pl j ca cl y : Nat) (cf : Nat → Int32) (hpl : pl ≤ 5) (hj : j < 6) (hcl : cl < 2 ^ 31) (hy : y + 5 ≤ cl) : Met l yX0_canFire wsX0_canFire ({ frames := 0, cells := 0, slots := 0, locals := 0 } : Room) (ro_P D (tysC cI cJ cZ cA) [.ref (b 0), .int (nI j), .ref ca, .int (nI y)] (nw cI cA b rt rg (nI pl) tr f2 f3 tk gv ++ [(ca, .inl (cI, cl, .inl cf))])) (ro_Q (bI (caC cf y (tk j) pl))) 0 0 (fun _ => False) := by
  refine met_ro (cc := cX0_canFire) (maxL := 6) (ty := .boolean) (by decide) rfl (Nat.le_of_ble_eq_true rfl) (bI_n _) ?_
  intro p e s m args below meth c Q hx hb hml hown hts hP hK hret ls hl
  obtain ⟨H, hH9⟩ : ∃ H : Heap, H = s.heap := ⟨_, rfl⟩
  have hP : va_P D vwCl (nw cI cA b rt rg (nI pl) tr f2 f3 tk gv ++ [(ca, .inl (cI, cl, .inl cf))]) H := by rw [hH9]; exact hP
  have hS : va_S (fun _ => False) s.heap H [] := by rw [hH9]; exact va_S.rf
  rw [← hH9]
  have hown : s.vm.findClass RX0 = some m.cls := hown
  have hin0 : ∀ w ∈ wsX00, w ∈ wsX0_canFire := by decide +kernel
  have fl27 := hts (.fieldLink RX0 27 "CoverRounds$Net" "takes" "[[I") (by decide +kernel)
  have fl9 := hts (.fieldLink RX0 9 "CoverRounds$Net" "places" "I") (by decide +kernel)
  have hl : lv_has ls 6 [(0, .ref (b 0)), (1, .int (nI j)), (2, .ref ca), (3, .int (nI y))] := hl
  refine lv_aload_n hx hb dX0_canFire_0 rfl (lv_at hl 0 rfl) ?_
  refine va_get (D := D) (ci := 0) (v := .ref (b 4)) (C := RX0) (T := TX0) (N := 6) hx hb hts hin0 hown hK hP 0 rfl rfl 4 (by decide) fl27 (fun _ h9 => h9) rfl dX0_canFire_1 ?_
  refine lv_iload_n hx hb dX0_canFire_4 rfl (lv_at hl 1 rfl) ?_
  refine wk_aald hx hb hK hP 3 3 rfl rfl (i := j) (y := rt j) (by omega) (by omega) (rfA_in (by omega)) dX0_canFire_5 ?_
  refine lv_astore (lv' := [(4, .ref (rt j)), (0, .ref (b 0)), (1, .int (nI j)), (2, .ref ca), (3, .int (nI y))]) hx hb dX0_canFire_6 hl (by decide) rfl (fun ls hl => ?_)
  refine lv_iconst (v := nI 0) hx hb dX0_canFire_8 (by decide) ?_
  refine lv_istore (lv' := [(5, .int (nI 0)), (4, .ref (rt j)), (0, .ref (b 0)), (1, .int (nI j)), (2, .ref ca), (3, .int (nI y))]) hx hb dX0_canFire_9 hl (by decide) rfl (fun ls hl => ?_)
  have lp11 : ∀ (n9 : Nat) (k : Nat), pl - k < n9 → k ≤ pl → (∀ q, q < k → tk j q ≤ cf (y + q)) → ∀ (H : Heap) (locs : List Loc) (ls : Array Slot), va_P D vwCl (nw cI cA b rt rg (nI pl) tr f2 f3 tk gv ++ [(ca, .inl (cI, cl, .inl cf))]) H → va_S (fun _ => False) s.heap H locs → lv_has ls 6 [(0, .ref (b 0)), (1, .int (nI j)), (2, .ref ca), (3, .int (nI y)), (4, .ref (rt j)), (5, .int (nI k))] → W p l e ({ frames := 0, cells := 0, slots := 0, locals := 0 } : Room) s m args below meth c H locs 0 0 Q (F0 m 11 ls []) := by
    intro n9
    induction n9 with
    | zero => intro k hm11; exact absurd hm11 (Nat.not_lt_zero _)
    | succ n9 ih11 =>
      intro k hm11 hk hn H locs ls hP hS hl
      refine lv_iload hx hb dX0_canFire_11 (lv_at hl 5 rfl) ?_
      refine lv_aload_n hx hb dX0_canFire_13 rfl (lv_at hl 0 rfl) ?_
      refine va_get (D := D) (ci := 0) (v := .int (nI pl)) (C := RX0) (T := TX0) (N := 6) hx hb hts hin0 hown hK hP 0 rfl rfl 0 (by decide) fl9 (fun _ h9 => h9) rfl dX0_canFire_14 ?_
      refine wk_icmp_ge (tgt := 42) hx hb (by omega) (by omega) dX0_canFire_17 (by decide) (fun c17 => ?_) (fun c17 => ?_)
      · skip
        refine lv_iconst (v := nI 1) hx hb dX0_canFire_42 (by decide) ?_
        have hkp : k = pl := by omega
        subst hkp
        exact hret _ _ _ _ _ (bI_T (caC_t hn)) dX0_canFire_43 hS
      · skip
        refine lv_aload_n hx hb dX0_canFire_20 rfl (lv_at hl 2 rfl) ?_
        refine lv_iload_n hx hb dX0_canFire_21 rfl (lv_at hl 3 rfl) ?_
        refine lv_iload hx hb dX0_canFire_22 (lv_at hl 5 rfl) ?_
        refine wk_iadd hx hb dX0_canFire_24 ?_
        refine wk_iald hx hb hK hP 17 0 rfl rfl (i := y + k) (by omega) (by omega) dX0_canFire_25 ?_
        refine lv_aload hx hb dX0_canFire_26 (lv_at hl 4 rfl) ?_
        refine lv_iload hx hb dX0_canFire_28 (lv_at hl 5 rfl) ?_
        refine wk_iald hx hb hK hP (5 + j) 0 (nw_rt (by omega)) rfl (i := k) (by omega) (by omega) dX0_canFire_30 ?_
        refine lv_icmp_ge (tgt := 36) hx hb dX0_canFire_31 (by decide) (fun c31 => ?_) (fun c31 => ?_)
        · skip
          refine lv_iinc (v := (nI (k + 1))) (lv' := [(5, .int (nI (k + 1))), (0, .ref (b 0)), (1, .int (nI j)), (2, .ref ca), (3, .int (nI y)), (4, .ref (rt j))]) hx hb dX0_canFire_36 hl (k := 5) rfl (by exact nI_1 _) (by decide) rfl (fun ls hl => ?_)
          refine lv_goto (tgt := 11) hx hb dX0_canFire_39 (by decide) ?_
          exact ih11 (k + 1) (by omega) (by omega) (fun q hq => by rcases Nat.lt_or_eq_of_le (Nat.le_of_lt_succ hq) with h1 | rfl; exact hn q h1; exact c31) _ _ _ hP hS (lv_sub hl [1, 2, 3, 4, 5, 0] rfl)
        · skip
          refine lv_iconst (v := nI 0) hx hb dX0_canFire_34 (by decide) ?_
          exact hret _ _ _ _ _ (bI_F (caC_f (by omega) c31)) dX0_canFire_35 hS
  exact lp11 _ 0 (Nat.lt_succ_self _) (by omega) (fun q h => absurd h (Nat.not_lt_zero q)) _ _ _ hP hS (lv_sub hl [2, 3, 4, 5, 1, 0] rfl)

set_option maxHeartbeats 4000000 in
set_option maxRecDepth 100000 in
theorem c_X0_move (l : Launch) (D : va_G) (cI cJ cZ cA : ClassId) (b rt rg : Nat → Nat) (f2 f3 : Nat → Int32) (tk gv : Nat → Nat → Int32) (tr : Int32) (sz pl j ca cl y : Nat) (cf : Nat → Int32) (hpl : pl ≤ 5) (hj : j < 6) (hcl : cl < 2 ^ 31) (hy : y + 5 ≤ cl) : Met l yX0_move wsX0_move ({ frames := 0, cells := 0, slots := 0, locals := 0 } : Room) (wr_P D (tysC cI cJ cZ cA) [.ref (b 0), .int (nI j), .ref ca, .int (nI y)] (nw cI cA b rt rg (nI pl) tr f2 f3 tk gv ++ [(ca, .inl (cI, cl, .inl cf))]) sz) (wr_Qv D (S := Unit) (nw cI cA b rt rg (nI pl) tr f2 f3 tk gv ++ [(ca, .inl (cI, cl, .inl cf))]) sz (fun _ => True) (fun _ => (nw cI cA b rt rg (nI pl) tr f2 f3 tk gv ++ [(ca, .inl (cI, cl, .inl (wrN cf (mvW cf y (gv j) (tk j)) y pl)))]))) 0 0 (va_A (nw cI cA b rt rg (nI pl) tr f2 f3 tk gv ++ [(ca, .inl (cI, cl, .inl cf))]) sz) := by
  refine met_wv (cc := cX0_move) (maxL := 5) (by decide) rfl (Nat.le_of_ble_eq_true rfl) ?_
  intro p e s m args below meth c Q A hx hb hml hown hts hP hK hD hA hret ls hl
  obtain ⟨H, hH9⟩ : ∃ H : Heap, H = s.heap := ⟨_, rfl⟩
  have hP : va_P D vwCl (nw cI cA b rt rg (nI pl) tr f2 f3 tk gv ++ [(ca, .inl (cI, cl, .inl cf))]) H := by rw [hH9]; exact hP
  have hS : va_S A s.heap H [] := by rw [hH9]; exact va_S.rf
  rw [← hH9]
  have hown : s.vm.findClass RX0 = some m.cls := hown
  have hin0 : ∀ w ∈ wsX00, w ∈ wsX0_move := by decide +kernel
  have fl9 := hts (.fieldLink RX0 9 "CoverRounds$Net" "places" "I") (by decide +kernel)
  have fl30 := hts (.fieldLink RX0 30 "CoverRounds$Net" "gives" "[[I") (by decide +kernel)
  have fl27 := hts (.fieldLink RX0 27 "CoverRounds$Net" "takes" "[[I") (by decide +kernel)
  have hl : lv_has ls 5 [(0, .ref (b 0)), (1, .int (nI j)), (2, .ref ca), (3, .int (nI y))] := hl
  refine lv_iconst (v := nI 0) hx hb dX0_move_0 (by decide) ?_
  refine lv_istore (lv' := [(4, .int (nI 0)), (0, .ref (b 0)), (1, .int (nI j)), (2, .ref ca), (3, .int (nI y))]) hx hb dX0_move_1 hl (by decide) rfl (fun ls hl => ?_)
  have lp3 : ∀ (n9 : Nat) (k : Nat), pl - k < n9 → k ≤ pl → ∀ (H : Heap) (locs : List Loc) (ls : Array Slot), va_P D vwCl (nw cI cA b rt rg (nI pl) tr f2 f3 tk gv ++ [(ca, .inl (cI, cl, .inl (wrN cf (mvW cf y (gv j) (tk j)) y k)))]) H → va_D A (nw cI cA b rt rg (nI pl) tr f2 f3 tk gv ++ [(ca, .inl (cI, cl, .inl (wrN cf (mvW cf y (gv j) (tk j)) y k)))]) → va_S A s.heap H locs → lv_has ls 5 [(0, .ref (b 0)), (1, .int (nI j)), (2, .ref ca), (3, .int (nI y)), (4, .int (nI k))] → W p l e ({ frames := 0, cells := 0, slots := 0, locals := 0 } : Room) s m args below meth c H locs 0 0 Q (F0 m 3 ls []) := by
    intro n9
    induction n9 with
    | zero => intro k hm3; exact absurd hm3 (Nat.not_lt_zero _)
    | succ n9 ih3 =>
      intro k hm3 hk H locs ls hP hD hS hl
      refine lv_iload hx hb dX0_move_3 (lv_at hl 4 rfl) ?_
      refine lv_aload_n hx hb dX0_move_5 rfl (lv_at hl 0 rfl) ?_
      refine va_get (D := D) (ci := 0) (v := .int (nI pl)) (C := RX0) (T := TX0) (N := 6) hx hb hts hin0 hown hK hP 0 rfl rfl 0 (by decide) fl9 (fun _ h9 => h9) rfl dX0_move_6 ?_
      refine wk_icmp_ge (tgt := 57) hx hb (by omega) (by omega) dX0_move_9 (by decide) (fun c9 => ?_) (fun c9 => ?_)
      · skip
        have hkp : k = pl := by omega
        subst hkp
        exact hret () _ _ _ _ _ _ trivial hP hD dX0_move_57 hS (Nat.zero_le _) (Nat.zero_le _)
      · skip
        refine lv_aload_n hx hb dX0_move_12 rfl (lv_at hl 2 rfl) ?_
        refine lv_iload_n hx hb dX0_move_13 rfl (lv_at hl 3 rfl) ?_
        refine lv_iload hx hb dX0_move_14 (lv_at hl 4 rfl) ?_
        refine wk_iadd hx hb dX0_move_16 ?_
        refine wk_iald hx hb hK hP 17 0 rfl rfl (i := y + k) (by omega) (by omega) dX0_move_17 ?_
        rw [show ((wrN cf (mvW cf y (gv j) (tk j)) y k) (y + k)) = (cf (y + k)) from wrN_out]
        refine wk_ldc (v := nI 1000000000) hx hb hown (hts (.constant RX0 33 (nI 1000000000)) (by decide +kernel)) dX0_move_18 ?_
        refine lv_icmp_eq (tgt := 51) hx hb dX0_move_20 (by decide) (fun c20 => ?_) (fun c20 => ?_)
        · skip
          refine lv_iinc (v := (nI (k + 1))) (lv' := [(4, .int (nI (k + 1))), (0, .ref (b 0)), (1, .int (nI j)), (2, .ref ca), (3, .int (nI y))]) hx hb dX0_move_51 hl (k := 4) rfl (by exact nI_1 _) (by decide) rfl (fun ls hl => ?_)
          refine lv_goto (tgt := 3) hx hb dX0_move_54 (by decide) ?_
          have hP : va_P D vwCl (nw cI cA b rt rg (nI pl) tr f2 f3 tk gv ++ [(ca, .inl (cI, cl, .inl (wrN cf (mvW cf y (gv j) (tk j)) y (k + 1))))]) H := by rw [wrN_id (mvW_y c20)]; exact hP
          have hD : va_D A (nw cI cA b rt rg (nI pl) tr f2 f3 tk gv ++ [(ca, .inl (cI, cl, .inl (wrN cf (mvW cf y (gv j) (tk j)) y (k + 1))))]) := by rw [wrN_id (mvW_y c20)]; exact hD
          exact ih3 (k + 1) (by omega) (by omega) _ _ _ hP hD hS (lv_sub hl [1, 2, 3, 4, 0] rfl)
        · skip
          refine lv_aload_n hx hb dX0_move_23 rfl (lv_at hl 2 rfl) ?_
          refine lv_iload_n hx hb dX0_move_24 rfl (lv_at hl 3 rfl) ?_
          refine lv_iload hx hb dX0_move_25 (lv_at hl 4 rfl) ?_
          refine wk_iadd hx hb dX0_move_27 ?_
          refine lv_dup2_11 hx hb dX0_move_28 rfl rfl ?_
          refine wk_iald hx hb hK hP 17 0 rfl rfl (i := y + k) (by omega) (by omega) dX0_move_29 ?_
          rw [show ((wrN cf (mvW cf y (gv j) (tk j)) y k) (y + k)) = (cf (y + k)) from wrN_out]
          refine lv_aload_n hx hb dX0_move_30 rfl (lv_at hl 0 rfl) ?_
          refine va_get (D := D) (ci := 0) (v := .ref (b 5)) (C := RX0) (T := TX0) (N := 6) hx hb hts hin0 hown hK hP 0 rfl rfl 5 (by decide) fl30 (fun _ h9 => h9) rfl dX0_move_31 ?_
          refine lv_iload_n hx hb dX0_move_34 rfl (lv_at hl 1 rfl) ?_
          refine wk_aald hx hb hK hP 4 3 rfl rfl (i := j) (y := rg j) (by omega) (by omega) (rfA_in (by omega)) dX0_move_35 ?_
          refine lv_iload hx hb dX0_move_36 (lv_at hl 4 rfl) ?_
          refine wk_iald hx hb hK hP (11 + j) 0 (nw_rg (by omega)) rfl (i := k) (by omega) (by omega) dX0_move_38 ?_
          refine lv_aload_n hx hb dX0_move_39 rfl (lv_at hl 0 rfl) ?_
          refine va_get (D := D) (ci := 0) (v := .ref (b 4)) (C := RX0) (T := TX0) (N := 6) hx hb hts hin0 hown hK hP 0 rfl rfl 4 (by decide) fl27 (fun _ h9 => h9) rfl dX0_move_40 ?_
          refine lv_iload_n hx hb dX0_move_43 rfl (lv_at hl 1 rfl) ?_
          refine wk_aald hx hb hK hP 3 3 rfl rfl (i := j) (y := rt j) (by omega) (by omega) (rfA_in (by omega)) dX0_move_44 ?_
          refine lv_iload hx hb dX0_move_45 (lv_at hl 4 rfl) ?_
          refine wk_iald hx hb hK hP (5 + j) 0 (nw_rt (by omega)) rfl (i := k) (by omega) (by omega) dX0_move_47 ?_
          refine lv_isub hx hb dX0_move_48 ?_
          refine lv_iadd hx hb dX0_move_49 ?_
          refine wk_iast hx hb hK hP hD hS 17 0 rfl rfl (i := y + k) (by omega) (by omega) dX0_move_50 (fun H locs hP hD hS => ?_)
          have hP : va_P D vwCl (nw cI cA b rt rg (nI pl) tr f2 f3 tk gv ++ [(ca, .inl (cI, cl, .inl (upd (wrN cf (mvW cf y (gv j) (tk j)) y k) (y + k) ((cf (y + k)) + (((gv j) k) - ((tk j) k))))))]) H := hP
          have hD : va_D A (nw cI cA b rt rg (nI pl) tr f2 f3 tk gv ++ [(ca, .inl (cI, cl, .inl (upd (wrN cf (mvW cf y (gv j) (tk j)) y k) (y + k) ((cf (y + k)) + (((gv j) k) - ((tk j) k))))))]) := hD
          refine lv_iinc (v := (nI (k + 1))) (lv' := [(4, .int (nI (k + 1))), (0, .ref (b 0)), (1, .int (nI j)), (2, .ref ca), (3, .int (nI y))]) hx hb dX0_move_51 hl (k := 4) rfl (by exact nI_1 _) (by decide) rfl (fun ls hl => ?_)
          refine lv_goto (tgt := 3) hx hb dX0_move_54 (by decide) ?_
          have hP : va_P D vwCl (nw cI cA b rt rg (nI pl) tr f2 f3 tk gv ++ [(ca, .inl (cI, cl, .inl (wrN cf (mvW cf y (gv j) (tk j)) y (k + 1))))]) H := by rw [← wrN_s, mvW_n c20]; exact hP
          have hD : va_D A (nw cI cA b rt rg (nI pl) tr f2 f3 tk gv ++ [(ca, .inl (cI, cl, .inl (wrN cf (mvW cf y (gv j) (tk j)) y (k + 1))))]) := by rw [← wrN_s, mvW_n c20]; exact hD
          exact ih3 (k + 1) (by omega) (by omega) _ _ _ hP hD hS (lv_sub hl [1, 2, 3, 4, 0] rfl)
  have hP : va_P D vwCl (nw cI cA b rt rg (nI pl) tr f2 f3 tk gv ++ [(ca, .inl (cI, cl, .inl (wrN cf (mvW cf y (gv j) (tk j)) y 0)))]) H := by rw [wrN_0]; exact hP
  have hD : va_D A (nw cI cA b rt rg (nI pl) tr f2 f3 tk gv ++ [(ca, .inl (cI, cl, .inl (wrN cf (mvW cf y (gv j) (tk j)) y 0)))]) := by rw [wrN_0]; exact hD
  exact lp3 _ 0 (Nat.lt_succ_self _) (by omega) _ _ _ hP hD hS (lv_sub hl [1, 2, 3, 4, 0] rfl)

set_option maxHeartbeats 4000000 in
set_option maxRecDepth 100000 in
theorem c_X5_isWithin (l : Launch) (D : va_G) (cI cJ cZ cA : ClassId) (x y : Int32) : Met l yX5_isWithin wsX5_isWithin ({ frames := 0, cells := 0, slots := 0, locals := 0 } : Room) (ro_P D (tysC cI cJ cZ cA) [.int x, .int y] []) (ro_Q (bI (inC x y))) 0 0 (fun _ => False) := by
  refine met_ro (cc := cX5_isWithin) (maxL := 2) (ty := .boolean) (by decide) rfl (Nat.le_of_ble_eq_true rfl) (bI_n _) ?_
  intro p e s m args below meth c Q hx hb hml hown hts hP hK hret ls hl
  obtain ⟨H, hH9⟩ : ∃ H : Heap, H = s.heap := ⟨_, rfl⟩
  have hP : va_P D vwCl [] H := by rw [hH9]; exact hP
  have hS : va_S (fun _ => False) s.heap H [] := by rw [hH9]; exact va_S.rf
  rw [← hH9]
  have hown : s.vm.findClass RX5 = some m.cls := hown
  have hl : lv_has ls 2 [(0, .int x), (1, .int y)] := hl
  refine lv_iload_n hx hb dX5_isWithin_0 rfl (lv_at hl 0 rfl) ?_
  refine lv_if_lt (tgt := 13) hx hb dX5_isWithin_1 (by decide) (fun c1 => ?_) (fun c1 => ?_)
  · skip
    refine lv_iconst (v := nI 0) hx hb dX5_isWithin_13 (by decide) ?_
    exact hret _ _ _ _ _ (bI_F (by simp [inC, c1])) dX5_isWithin_14 hS
  · skip
    refine lv_iload_n hx hb dX5_isWithin_4 rfl (lv_at hl 0 rfl) ?_
    refine lv_iload_n hx hb dX5_isWithin_5 rfl (lv_at hl 1 rfl) ?_
    refine lv_icmp_gt (tgt := 13) hx hb dX5_isWithin_6 (by decide) (fun c6 => ?_) (fun c6 => ?_)
    · skip
      refine lv_iconst (v := nI 0) hx hb dX5_isWithin_13 (by decide) ?_
      exact hret _ _ _ _ _ (bI_F (by simp [inC, c1, c6])) dX5_isWithin_14 hS
    · skip
      refine lv_iconst (v := nI 1) hx hb dX5_isWithin_9 (by decide) ?_
      refine lv_goto (tgt := 14) hx hb dX5_isWithin_10 (by decide) ?_
      exact hret _ _ _ _ _ (bI_T (by simp [inC, c1, c6])) dX5_isWithin_14 hS

set_option maxHeartbeats 4000000 in
set_option maxRecDepth 100000 in
theorem c_X5_told (l : Launch) (D : va_G) (cI cJ cZ cA : ClassId) (x : Int32) : Met l yX5_told wsX5_told ({ frames := 0, cells := 0, slots := 0, locals := 0 } : Room) (ro_P D (tysC cI cJ cZ cA) [.int x] []) (ro_Q (tolM (nI 1000000000) x)) 0 0 (fun _ => False) := by
  refine met_ro (cc := cX5_told) (maxL := 1) (ty := .int) (by decide) rfl (Nat.le_of_ble_eq_true rfl) rfl ?_
  intro p e s m args below meth c Q hx hb hml hown hts hP hK hret ls hl
  obtain ⟨H, hH9⟩ : ∃ H : Heap, H = s.heap := ⟨_, rfl⟩
  have hP : va_P D vwCl [] H := by rw [hH9]; exact hP
  have hS : va_S (fun _ => False) s.heap H [] := by rw [hH9]; exact va_S.rf
  rw [← hH9]
  have hown : s.vm.findClass RX5 = some m.cls := hown
  have hl : lv_has ls 1 [(0, .int x)] := hl
  refine lv_iload_n hx hb dX5_told_0 rfl (lv_at hl 0 rfl) ?_
  refine wk_ldc (v := nI 1000000000) hx hb hown (hts (.constant RX5 136 (nI 1000000000)) (by decide +kernel)) dX5_told_1 ?_
  refine lv_icmp_ne (tgt := 11) hx hb dX5_told_3 (by decide) (fun c3 => ?_) (fun c3 => ?_)
  · skip
    refine lv_iload_n hx hb dX5_told_11 rfl (lv_at hl 0 rfl) ?_
    exact hret _ _ _ _ _ (by unfold tolM; rw [if_neg c3]) dX5_told_12 hS
  · skip
    refine lv_bipush (v := -2) hx hb dX5_told_6 (by decide) ?_
    refine lv_goto (tgt := 12) hx hb dX5_told_8 (by decide) ?_
    exact hret _ _ _ _ _ (by unfold tolM; rw [if_pos c3]) dX5_told_12 hS

set_option maxHeartbeats 4000000 in
set_option maxRecDepth 100000 in
theorem c_X5_goBackToFirst (l : Launch) (D : va_G) (cI cJ cZ cA : ClassId) (b rt rg : Nat → Nat) (f2 f3 : Nat → Int32) (tk gv : Nat → Nat → Int32) (x0 x1 x2 x3 : Nat) (fn : Nat → Int32) (pl tr : Int32) (sz : Nat) : Met l yX5_goBackToFirst wsX5_goBackToFirst ({ frames := 1, cells := 0, slots := 0, locals := 40 } : Room) (wr_P D (tysC cI cJ cZ cA) [.ref x0] (nw cI cA b rt rg pl tr f2 f3 tk gv ++ [(x0, .inr (4, [.ref (b 0), .ref x1, .ref x2, .ref x3])), (x1, .inl (cI, 5, .inl fn))]) sz) (wr_Qv D (S := Unit) (nw cI cA b rt rg pl tr f2 f3 tk gv ++ [(x0, .inr (4, [.ref (b 0), .ref x1, .ref x2, .ref x3])), (x1, .inl (cI, 5, .inl fn))]) sz (fun _ => True) (fun _ => (nw cI cA b rt rg pl tr f2 f3 tk gv ++ [(x0, .inr (4, [.ref (b 0), .ref x1, .ref x2, .ref x3])), (x1, .inl (cI, 5, .inl (va_cpy f2 fn 0 0 5)))]))) 0 0 (va_A (nw cI cA b rt rg pl tr f2 f3 tk gv ++ [(x0, .inr (4, [.ref (b 0), .ref x1, .ref x2, .ref x3])), (x1, .inl (cI, 5, .inl fn))]) sz) := by
  refine met_wv (cc := cX5_goBackToFirst) (maxL := 1) (by decide) rfl (Nat.le_of_ble_eq_true rfl) ?_
  intro p e s m args below meth c Q A hx hb hml hown hts hP hK hD hA hret ls hl
  obtain ⟨H, hH9⟩ : ∃ H : Heap, H = s.heap := ⟨_, rfl⟩
  have hP : va_P D vwCl (nw cI cA b rt rg pl tr f2 f3 tk gv ++ [(x0, .inr (4, [.ref (b 0), .ref x1, .ref x2, .ref x3])), (x1, .inl (cI, 5, .inl fn))]) H := by rw [hH9]; exact hP
  have hS : va_S A s.heap H [] := by rw [hH9]; exact va_S.rf
  rw [← hH9]
  have hown : s.vm.findClass RX5 = some m.cls := hown
  have hin5 : ∀ w ∈ wsX50, w ∈ wsX5_goBackToFirst := by decide +kernel
  have hin0 : ∀ w ∈ wsX00, w ∈ wsX5_goBackToFirst := by decide +kernel
  have fl12 := hts (.fieldLink RX5 12 "CoverRounds" "net" "LCoverRounds$Net;") (by decide +kernel)
  have fl42 := hts (.fieldLink RX5 42 "CoverRounds$Net" "first" "[I") (by decide +kernel)
  have fl16 := hts (.fieldLink RX5 16 "CoverRounds" "now" "[I") (by decide +kernel)
  have hl : lv_has ls 1 [(0, .ref x0)] := hl
  refine lv_aload_n hx hb dX5_goBackToFirst_0 rfl (lv_at hl 0 rfl) ?_
  refine va_get (D := D) (ci := 4) (v := .ref (b 0)) (C := RX5) (T := TX5) (N := 4) hx hb hts hin5 hown hK hP 17 rfl rfl 0 (by decide) fl12 (fun _ h9 => h9) rfl dX5_goBackToFirst_1 ?_
  refine va_get (D := D) (ci := 0) (v := .ref (b 2)) (C := RX0) (T := TX0) (N := 6) hx hb hts hin0 hown hK hP 0 rfl rfl 2 (by decide) fl42 (fun _ h9 => h9) rfl dX5_goBackToFirst_4 ?_
  refine lv_iconst (v := nI 0) hx hb dX5_goBackToFirst_7 (by decide) ?_
  refine lv_aload_n hx hb dX5_goBackToFirst_8 rfl (lv_at hl 0 rfl) ?_
  refine va_get (D := D) (ci := 4) (v := .ref x1) (C := RX5) (T := TX5) (N := 4) hx hb hts hin5 hown hK hP 17 rfl rfl 1 (by decide) fl16 (fun _ h9 => h9) rfl dX5_goBackToFirst_9 ?_
  refine lv_iconst (v := nI 0) hx hb dX5_goBackToFirst_12 (by decide) ?_
  refine lv_iconst (v := nI 5) hx hb dX5_goBackToFirst_13 (by decide) ?_
  refine wk_copyI hx hb (hml.trans hl.1.symm) hown (hts (.methodLink RX5 130 arraycopyName) (by decide +kernel)) (hts (.native arraycopyName) (by decide +kernel)) (hts (.static arraycopyName) (by decide +kernel)) (hts (.initialized "java/lang/System") (by decide +kernel)) hK hP hD hS 1 18 0 0 rfl rfl rfl rfl (sp := 0) (dp := 0) (n := 5) (by omega) (by omega) (by omega) (by omega) (Nat.le_of_ble_eq_true rfl) (Nat.le_of_ble_eq_true rfl) dX5_goBackToFirst_14 (fun H locs hP hD hS => ?_)
  have hP : va_P D vwCl (nw cI cA b rt rg pl tr f2 f3 tk gv ++ [(x0, .inr (4, [.ref (b 0), .ref x1, .ref x2, .ref x3])), (x1, .inl (cI, 5, .inl (va_cpy f2 fn 0 0 5)))]) H := hP
  have hD : va_D A (nw cI cA b rt rg pl tr f2 f3 tk gv ++ [(x0, .inr (4, [.ref (b 0), .ref x1, .ref x2, .ref x3])), (x1, .inl (cI, 5, .inl (va_cpy f2 fn 0 0 5)))]) := hD
  exact hret () _ _ _ _ _ _ trivial hP hD dX5_goBackToFirst_17 hS (Nat.zero_le _) (Nat.zero_le _)

set_option maxHeartbeats 4000000 in
set_option maxRecDepth 100000 in
theorem c_X5_place (l : Launch) (D : va_G) (cI cJ cZ cA : ClassId) (b rt rg : Nat → Nat) (f2 f3 : Nat → Int32) (tk gv : Nat → Nat → Int32) (x0 x1 x2 x3 : Nat) (fn : Nat → Int32) (tr : Int32) (sz pl : Nat) (x : Int32) (hpl : pl ≤ 5) : Met l yX5_place wsX5_place ({ frames := 2, cells := 0, slots := 0, locals := 60 } : Room) (wr_P D (tysC cI cJ cZ cA) [.ref x0, .int x] (nw cI cA b rt rg (nI pl) tr f2 f3 tk gv ++ [(x0, .inr (4, [.ref (b 0), .ref x1, .ref x2, .ref x3])), (x1, .inl (cI, 5, .inl fn))]) sz) (wr_Qi D (S := Nat × (Nat → Int32) × (Nat → Int32)) (nw cI cA b rt rg (nI pl) tr f2 f3 tk gv ++ [(x0, .inr (4, [.ref (b 0), .ref x1, .ref x2, .ref x3])), (x1, .inl (cI, 5, .inl fn))]) sz (fun r9 u => (r9, u) = placeC pl f2 fn x) (fun u => (nw cI cA b rt rg (nI u.1) tr u.2.1 f3 tk gv ++ [(x0, .inr (4, [.ref (b 0), .ref x1, .ref x2, .ref x3])), (x1, .inl (cI, 5, .inl u.2.2))]))) 0 0 (va_A (nw cI cA b rt rg (nI pl) tr f2 f3 tk gv ++ [(x0, .inr (4, [.ref (b 0), .ref x1, .ref x2, .ref x3])), (x1, .inl (cI, 5, .inl fn))]) sz) := by
  refine met_wi (cc := cX5_place) (maxL := 3) (ty := .int) (by decide) rfl (Nat.le_of_ble_eq_true rfl) ?_
  intro p e s m args below meth c Q A hx hb hml hown hts hP hK hD hA hret ls hl
  obtain ⟨H, hH9⟩ : ∃ H : Heap, H = s.heap := ⟨_, rfl⟩
  have hP : va_P D vwCl (nw cI cA b rt rg (nI pl) tr f2 f3 tk gv ++ [(x0, .inr (4, [.ref (b 0), .ref x1, .ref x2, .ref x3])), (x1, .inl (cI, 5, .inl fn))]) H := by rw [hH9]; exact hP
  have hS : va_S A s.heap H [] := by rw [hH9]; exact va_S.rf
  rw [← hH9]
  have hown : s.vm.findClass RX5 = some m.cls := hown
  have hin5 : ∀ w ∈ wsX50, w ∈ wsX5_place := by decide +kernel
  have hin0 : ∀ w ∈ wsX00, w ∈ wsX5_place := by decide +kernel
  have fl12 := hts (.fieldLink RX5 12 "CoverRounds" "net" "LCoverRounds$Net;") (by decide +kernel)
  have fl34 := hts (.fieldLink RX5 34 "CoverRounds$Net" "places" "I") (by decide +kernel)
  have fl42 := hts (.fieldLink RX5 42 "CoverRounds$Net" "first" "[I") (by decide +kernel)
  have hl : lv_has ls 3 [(0, .ref x0), (1, .int x)] := hl
  refine lv_aload_n hx hb dX5_place_0 rfl (lv_at hl 0 rfl) ?_
  refine va_get (D := D) (ci := 4) (v := .ref (b 0)) (C := RX5) (T := TX5) (N := 4) hx hb hts hin5 hown hK hP 17 rfl rfl 0 (by decide) fl12 (fun _ h9 => h9) rfl dX5_place_1 ?_
  refine va_get (D := D) (ci := 0) (v := .int (nI pl)) (C := RX0) (T := TX0) (N := 6) hx hb hts hin0 hown hK hP 0 rfl rfl 0 (by decide) fl34 (fun _ h9 => h9) rfl dX5_place_4 ?_
  refine lv_iconst (v := nI 5) hx hb dX5_place_7 (by decide) ?_
  refine wk_icmp_ge (tgt := 20) hx hb (by omega) (by omega) dX5_place_8 (by decide) (fun c8 => ?_) (fun c8 => ?_)
  · skip
    refine lv_iconst (v := -1) hx hb dX5_place_20 (by decide) ?_
    exact hret _ (pl, f2, fn) _ _ _ _ _ _ rfl (by simp [placeC, c8]) hP hD dX5_place_21 hS (Nat.zero_le _) (Nat.zero_le _)
  · skip
    refine lv_iload_n hx hb dX5_place_11 rfl (lv_at hl 1 rfl) ?_
    refine lv_bipush (v := nI 20) hx hb dX5_place_12 (by decide) ?_
    refine wk_Si (As := [.int x, .int (nI 20)]) (rest := []) ⟨hx, hb, hml, hown, hts⟩ (c_X5_isWithin l D cI cJ cZ cA x (nI 20)) (va_cwS 2 hts gX5_place_X5_isWithin rfl rfl rfl (by decide +kernel) ⟨Nat.le_of_ble_eq_true rfl, Nat.le_of_ble_eq_true rfl⟩) hK hP [] rfl hS rfl hl.1 rfl (Nat.le_of_ble_eq_true rfl) dX5_place_14 ⟨Nat.zero_le _, Nat.zero_le _⟩ (fun H locs hP hS => ?_)
    refine wk_if_neb (tgt := 22) hx hb dX5_place_17 (by decide) (fun c17 => ?_) (fun c17 => ?_)
    · skip
      refine lv_aload_n hx hb dX5_place_22 rfl (lv_at hl 0 rfl) ?_
      refine va_get (D := D) (ci := 4) (v := .ref (b 0)) (C := RX5) (T := TX5) (N := 4) hx hb hts hin5 hown hK hP 17 rfl rfl 0 (by decide) fl12 (fun _ h9 => h9) rfl dX5_place_23 ?_
      refine va_get (D := D) (ci := 0) (v := .int (nI pl)) (C := RX0) (T := TX0) (N := 6) hx hb hts hin0 hown hK hP 0 rfl rfl 0 (by decide) fl34 (fun _ h9 => h9) rfl dX5_place_26 ?_
      refine lv_istore_n (lv' := [(2, .int (nI pl)), (0, .ref x0), (1, .int x)]) hx hb dX5_place_29 rfl hl (by decide) rfl (fun ls hl => ?_)
      refine lv_aload_n hx hb dX5_place_30 rfl (lv_at hl 1 rfl) ?_
      refine va_get (D := D) (ci := 4) (v := .ref (b 0)) (C := RX5) (T := TX5) (N := 4) hx hb hts hin5 hown hK hP 17 rfl rfl 0 (by decide) fl12 (fun _ h9 => h9) rfl dX5_place_31 ?_
      refine lv_iload_n hx hb dX5_place_34 rfl (lv_at hl 0 rfl) ?_
      refine lv_iconst (v := nI 1) hx hb dX5_place_35 (by decide) ?_
      refine wk_iadd hx hb dX5_place_36 ?_
      refine va_put (D := D) (ci := 0) (v := .int (nI (pl + 1))) (ty := .int) (C := RX0) (T := TX0) (N := 6) hx hb hts hin0 tyX0 tyX0_ok nmX0 hown hK hP hD hS 0 rfl rfl 0 (by decide) fl34 (fun _ h9 => h9) rfl (by decide +kernel) rfl rfl (Nat.le_of_ble_eq_true rfl) dX5_place_37 (fun H locs hP hD hS => ?_)
      have hP : va_P D vwCl (nw cI cA b rt rg (nI (pl + 1)) tr f2 f3 tk gv ++ [(x0, .inr (4, [.ref (b 0), .ref x1, .ref x2, .ref x3])), (x1, .inl (cI, 5, .inl fn))]) H := hP
      have hD : va_D A (nw cI cA b rt rg (nI (pl + 1)) tr f2 f3 tk gv ++ [(x0, .inr (4, [.ref (b 0), .ref x1, .ref x2, .ref x3])), (x1, .inl (cI, 5, .inl fn))]) := hD
      refine lv_aload_n hx hb dX5_place_40 rfl (lv_at hl 1 rfl) ?_
      refine va_get (D := D) (ci := 4) (v := .ref (b 0)) (C := RX5) (T := TX5) (N := 4) hx hb hts hin5 hown hK hP 17 rfl rfl 0 (by decide) fl12 (fun _ h9 => h9) rfl dX5_place_41 ?_
      refine va_get (D := D) (ci := 0) (v := .ref (b 2)) (C := RX0) (T := TX0) (N := 6) hx hb hts hin0 hown hK hP 0 rfl rfl 2 (by decide) fl42 (fun _ h9 => h9) rfl dX5_place_44 ?_
      refine lv_iload_n hx hb dX5_place_47 rfl (lv_at hl 0 rfl) ?_
      refine lv_iload_n hx hb dX5_place_48 rfl (lv_at hl 2 rfl) ?_
      refine wk_iast hx hb hK hP hD hS 1 0 rfl rfl (i := pl) (by omega) (by omega) dX5_place_49 (fun H locs hP hD hS => ?_)
      have hP : va_P D vwCl (nw cI cA b rt rg (nI (pl + 1)) tr (upd f2 pl x) f3 tk gv ++ [(x0, .inr (4, [.ref (b 0), .ref x1, .ref x2, .ref x3])), (x1, .inl (cI, 5, .inl fn))]) H := hP
      have hD : va_D A (nw cI cA b rt rg (nI (pl + 1)) tr (upd f2 pl x) f3 tk gv ++ [(x0, .inr (4, [.ref (b 0), .ref x1, .ref x2, .ref x3])), (x1, .inl (cI, 5, .inl fn))]) := hD
      refine lv_aload_n hx hb dX5_place_50 rfl (lv_at hl 1 rfl) ?_
      refine wk_VvW (As := []) (rest := []) (wr := []) ⟨hx, hb, hml, hown, hts⟩ (c_X5_goBackToFirst l D cI cJ cZ cA b rt rg (upd f2 pl x) f3 tk gv x0 x1 x2 x3 fn (nI (pl + 1)) tr H.size) (cwV 0 hts gX5_place_X5_goBackToFirst rfl rfl rfl (by decide +kernel) ⟨Nat.le_of_ble_eq_true rfl, Nat.le_of_ble_eq_true rfl⟩) hK hP hD hA [0, 1, 2, 3, 4, 5, 6, 7, 8, 9, 10, 11, 12, 13, 14, 15, 16, 17, 18] rfl (by decide) [] rfl (by decide) (by decide) 17 4 rfl rfl hS rfl hl.1 rfl (Nat.le_of_ble_eq_true rfl) dX5_place_51 ⟨Nat.le_of_ble_eq_true rfl, Nat.le_of_ble_eq_true rfl⟩ (fun u9 H locs hu hP hD hS => ?_)
      have hP : va_P D vwCl (nw cI cA b rt rg (nI (pl + 1)) tr (upd f2 pl x) f3 tk gv ++ [(x0, .inr (4, [.ref (b 0), .ref x1, .ref x2, .ref x3])), (x1, .inl (cI, 5, .inl (va_cpy (upd f2 pl x) fn 0 0 5)))]) H := hP
      have hD : va_D A (nw cI cA b rt rg (nI (pl + 1)) tr (upd f2 pl x) f3 tk gv ++ [(x0, .inr (4, [.ref (b 0), .ref x1, .ref x2, .ref x3])), (x1, .inl (cI, 5, .inl (va_cpy (upd f2 pl x) fn 0 0 5)))]) := hD
      refine lv_iload_n hx hb dX5_place_54 rfl (lv_at hl 0 rfl) ?_
      exact hret _ (pl + 1, (upd f2 pl x), (va_cpy (upd f2 pl x) fn 0 0 5)) _ _ _ _ _ _ rfl (by rw [placeC, if_neg (by rw [c17]; simp; omega)]) hP hD dX5_place_55 hS (Nat.zero_le _) (Nat.zero_le _)
    · skip
      refine lv_iconst (v := -1) hx hb dX5_place_20 (by decide) ?_
      exact hret _ (pl, f2, fn) _ _ _ _ _ _ rfl (by simp [placeC, c8, c17]) hP hD dX5_place_21 hS (Nat.zero_le _) (Nat.zero_le _)

set_option maxHeartbeats 4000000 in
set_option maxRecDepth 100000 in
theorem c_X5_transition (l : Launch) (D : va_G) (cI cJ cZ cA : ClassId) (b rt rg : Nat → Nat) (f2 f3 : Nat → Int32) (tk gv : Nat → Nat → Int32) (x0 x1 x2 x3 : Nat) (fn : Nat → Int32) (pl : Int32) (sz tr : Nat) (htr : tr ≤ 6) : Met l yX5_transition wsX5_transition ({ frames := 2, cells := 0, slots := 0, locals := 60 } : Room) (wr_P D (tysC cI cJ cZ cA) [.ref x0] (nw cI cA b rt rg pl (nI tr) f2 f3 tk gv ++ [(x0, .inr (4, [.ref (b 0), .ref x1, .ref x2, .ref x3])), (x1, .inl (cI, 5, .inl fn))]) sz) (wr_Qi D (S := Nat × (Nat → Int32)) (nw cI cA b rt rg pl (nI tr) f2 f3 tk gv ++ [(x0, .inr (4, [.ref (b 0), .ref x1, .ref x2, .ref x3])), (x1, .inl (cI, 5, .inl fn))]) sz (fun r9 u => (r9, u) = transC tr f2 fn) (fun u => (nw cI cA b rt rg pl (nI u.1) f2 f3 tk gv ++ [(x0, .inr (4, [.ref (b 0), .ref x1, .ref x2, .ref x3])), (x1, .inl (cI, 5, .inl u.2))]))) 0 0 (va_A (nw cI cA b rt rg pl (nI tr) f2 f3 tk gv ++ [(x0, .inr (4, [.ref (b 0), .ref x1, .ref x2, .ref x3])), (x1, .inl (cI, 5, .inl fn))]) sz) := by
  refine met_wi (cc := cX5_transition) (maxL := 2) (ty := .int) (by decide) rfl (Nat.le_of_ble_eq_true rfl) ?_
  intro p e s m args below meth c Q A hx hb hml hown hts hP hK hD hA hret ls hl
  obtain ⟨H, hH9⟩ : ∃ H : Heap, H = s.heap := ⟨_, rfl⟩
  have hP : va_P D vwCl (nw cI cA b rt rg pl (nI tr) f2 f3 tk gv ++ [(x0, .inr (4, [.ref (b 0), .ref x1, .ref x2, .ref x3])), (x1, .inl (cI, 5, .inl fn))]) H := by rw [hH9]; exact hP
  have hS : va_S A s.heap H [] := by rw [hH9]; exact va_S.rf
  rw [← hH9]
  have hown : s.vm.findClass RX5 = some m.cls := hown
  have hin5 : ∀ w ∈ wsX50, w ∈ wsX5_transition := by decide +kernel
  have hin0 : ∀ w ∈ wsX00, w ∈ wsX5_transition := by decide +kernel
  have fl12 := hts (.fieldLink RX5 12 "CoverRounds" "net" "LCoverRounds$Net;") (by decide +kernel)
  have fl48 := hts (.fieldLink RX5 48 "CoverRounds$Net" "transitions" "I") (by decide +kernel)
  have hl : lv_has ls 2 [(0, .ref x0)] := hl
  refine lv_aload_n hx hb dX5_transition_0 rfl (lv_at hl 0 rfl) ?_
  refine va_get (D := D) (ci := 4) (v := .ref (b 0)) (C := RX5) (T := TX5) (N := 4) hx hb hts hin5 hown hK hP 17 rfl rfl 0 (by decide) fl12 (fun _ h9 => h9) rfl dX5_transition_1 ?_
  refine va_get (D := D) (ci := 0) (v := .int (nI tr)) (C := RX0) (T := TX0) (N := 6) hx hb hts hin0 hown hK hP 0 rfl rfl 1 (by decide) fl48 (fun _ h9 => h9) rfl dX5_transition_4 ?_
  refine lv_bipush (v := nI 6) hx hb dX5_transition_7 (by decide) ?_
  refine wk_icmp_lt (tgt := 14) hx hb (by omega) (by omega) dX5_transition_9 (by decide) (fun c9 => ?_) (fun c9 => ?_)
  · skip
    refine lv_aload_n hx hb dX5_transition_14 rfl (lv_at hl 0 rfl) ?_
    refine va_get (D := D) (ci := 4) (v := .ref (b 0)) (C := RX5) (T := TX5) (N := 4) hx hb hts hin5 hown hK hP 17 rfl rfl 0 (by decide) fl12 (fun _ h9 => h9) rfl dX5_transition_15 ?_
    refine va_get (D := D) (ci := 0) (v := .int (nI tr)) (C := RX0) (T := TX0) (N := 6) hx hb hts hin0 hown hK hP 0 rfl rfl 1 (by decide) fl48 (fun _ h9 => h9) rfl dX5_transition_18 ?_
    refine lv_istore_n (lv' := [(1, .int (nI tr)), (0, .ref x0)]) hx hb dX5_transition_21 rfl hl (by decide) rfl (fun ls hl => ?_)
    refine lv_aload_n hx hb dX5_transition_22 rfl (lv_at hl 1 rfl) ?_
    refine va_get (D := D) (ci := 4) (v := .ref (b 0)) (C := RX5) (T := TX5) (N := 4) hx hb hts hin5 hown hK hP 17 rfl rfl 0 (by decide) fl12 (fun _ h9 => h9) rfl dX5_transition_23 ?_
    refine lv_iload_n hx hb dX5_transition_26 rfl (lv_at hl 0 rfl) ?_
    refine lv_iconst (v := nI 1) hx hb dX5_transition_27 (by decide) ?_
    refine wk_iadd hx hb dX5_transition_28 ?_
    refine va_put (D := D) (ci := 0) (v := .int (nI (tr + 1))) (ty := .int) (C := RX0) (T := TX0) (N := 6) hx hb hts hin0 tyX0 tyX0_ok nmX0 hown hK hP hD hS 0 rfl rfl 1 (by decide) fl48 (fun _ h9 => h9) rfl (by decide +kernel) rfl rfl (Nat.le_of_ble_eq_true rfl) dX5_transition_29 (fun H locs hP hD hS => ?_)
    have hP : va_P D vwCl (nw cI cA b rt rg pl (nI (tr + 1)) f2 f3 tk gv ++ [(x0, .inr (4, [.ref (b 0), .ref x1, .ref x2, .ref x3])), (x1, .inl (cI, 5, .inl fn))]) H := hP
    have hD : va_D A (nw cI cA b rt rg pl (nI (tr + 1)) f2 f3 tk gv ++ [(x0, .inr (4, [.ref (b 0), .ref x1, .ref x2, .ref x3])), (x1, .inl (cI, 5, .inl fn))]) := hD
    refine lv_aload_n hx hb dX5_transition_32 rfl (lv_at hl 1 rfl) ?_
    refine wk_VvW (As := []) (rest := []) (wr := []) ⟨hx, hb, hml, hown, hts⟩ (c_X5_goBackToFirst l D cI cJ cZ cA b rt rg f2 f3 tk gv x0 x1 x2 x3 fn pl (nI (tr + 1)) H.size) (cwV 0 hts gX5_transition_X5_goBackToFirst rfl rfl rfl (by decide +kernel) ⟨Nat.le_of_ble_eq_true rfl, Nat.le_of_ble_eq_true rfl⟩) hK hP hD hA [0, 1, 2, 3, 4, 5, 6, 7, 8, 9, 10, 11, 12, 13, 14, 15, 16, 17, 18] rfl (by decide) [] rfl (by decide) (by decide) 17 4 rfl rfl hS rfl hl.1 rfl (Nat.le_of_ble_eq_true rfl) dX5_transition_33 ⟨Nat.le_of_ble_eq_true rfl, Nat.le_of_ble_eq_true rfl⟩ (fun u9 H locs hu hP hD hS => ?_)
    have hP : va_P D vwCl (nw cI cA b rt rg pl (nI (tr + 1)) f2 f3 tk gv ++ [(x0, .inr (4, [.ref (b 0), .ref x1, .ref x2, .ref x3])), (x1, .inl (cI, 5, .inl (va_cpy f2 fn 0 0 5)))]) H := hP
    have hD : va_D A (nw cI cA b rt rg pl (nI (tr + 1)) f2 f3 tk gv ++ [(x0, .inr (4, [.ref (b 0), .ref x1, .ref x2, .ref x3])), (x1, .inl (cI, 5, .inl (va_cpy f2 fn 0 0 5)))]) := hD
    refine lv_iload_n hx hb dX5_transition_36 rfl (lv_at hl 0 rfl) ?_
    exact hret _ (tr + 1, (va_cpy f2 fn 0 0 5)) _ _ _ _ _ _ rfl (by rw [transC, if_neg (by omega)]) hP hD dX5_transition_37 hS (Nat.zero_le _) (Nat.zero_le _)
  · skip
    refine lv_iconst (v := -1) hx hb dX5_transition_12 (by decide) ?_
    exact hret _ (tr, fn) _ _ _ _ _ _ rfl (by rw [transC, if_pos (by omega)]) hP hD dX5_transition_13 hS (Nat.zero_le _) (Nat.zero_le _)

set_option maxHeartbeats 4000000 in
set_option maxRecDepth 100000 in
theorem c_X5_arc (l : Launch) (D : va_G) (cI cJ cZ cA : ClassId) (b rt rg : Nat → Nat) (f2 f3 : Nat → Int32) (tk gv : Nat → Nat → Int32) (x0 x1 x2 x3 : Nat) (fn : Nat → Int32) (sz pl tr : Nat) (y1 y2 y3 y4 : Int32) (hpl : pl ≤ 5) (htr : tr ≤ 6) : Met l yX5_arc wsX5_arc ({ frames := 2, cells := 0, slots := 0, locals := 60 } : Room) (wr_P D (tysC cI cJ cZ cA) [.ref x0, .int y1, .int y2, .int y3, .int y4] (nw cI cA b rt rg (nI pl) (nI tr) f2 f3 tk gv ++ [(x0, .inr (4, [.ref (b 0), .ref x1, .ref x2, .ref x3])), (x1, .inl (cI, 5, .inl fn))]) sz) (wr_Qi D (S := (Nat → Nat → Int32) × (Nat → Nat → Int32) × (Nat → Int32)) (nw cI cA b rt rg (nI pl) (nI tr) f2 f3 tk gv ++ [(x0, .inr (4, [.ref (b 0), .ref x1, .ref x2, .ref x3])), (x1, .inl (cI, 5, .inl fn))]) sz (fun r9 u => r9 = bI (arcC pl tr f2 fn tk gv y1 y2 y3 y4).1 ∧ u = (arcC pl tr f2 fn tk gv y1 y2 y3 y4).2) (fun u => (nw cI cA b rt rg (nI pl) (nI tr) f2 f3 u.1 u.2.1 ++ [(x0, .inr (4, [.ref (b 0), .ref x1, .ref x2, .ref x3])), (x1, .inl (cI, 5, .inl u.2.2))]))) 0 0 (va_A (nw cI cA b rt rg (nI pl) (nI tr) f2 f3 tk gv ++ [(x0, .inr (4, [.ref (b 0), .ref x1, .ref x2, .ref x3])), (x1, .inl (cI, 5, .inl fn))]) sz) := by
  refine met_wi (cc := cX5_arc) (maxL := 5) (ty := .boolean) (by decide) rfl (Nat.le_of_ble_eq_true rfl) ?_
  intro p e s m args below meth c Q A hx hb hml hown hts hP hK hD hA hret ls hl
  obtain ⟨H, hH9⟩ : ∃ H : Heap, H = s.heap := ⟨_, rfl⟩
  have hP : va_P D vwCl (nw cI cA b rt rg (nI pl) (nI tr) f2 f3 tk gv ++ [(x0, .inr (4, [.ref (b 0), .ref x1, .ref x2, .ref x3])), (x1, .inl (cI, 5, .inl fn))]) H := by rw [hH9]; exact hP
  have hS : va_S A s.heap H [] := by rw [hH9]; exact va_S.rf
  rw [← hH9]
  have hown : s.vm.findClass RX5 = some m.cls := hown
  have hin5 : ∀ w ∈ wsX50, w ∈ wsX5_arc := by decide +kernel
  have hin0 : ∀ w ∈ wsX00, w ∈ wsX5_arc := by decide +kernel
  have fl12 := hts (.fieldLink RX5 12 "CoverRounds" "net" "LCoverRounds$Net;") (by decide +kernel)
  have fl58 := hts (.fieldLink RX5 58 "CoverRounds$Net" "takes" "[[I") (by decide +kernel)
  have fl62 := hts (.fieldLink RX5 62 "CoverRounds$Net" "gives" "[[I") (by decide +kernel)
  have hl : lv_has ls 5 [(0, .ref x0), (1, .int y1), (2, .int y2), (3, .int y3), (4, .int y4)] := hl
  refine lv_aload_n hx hb dX5_arc_0 rfl (lv_at hl 0 rfl) ?_
  refine va_get (D := D) (ci := 4) (v := .ref (b 0)) (C := RX5) (T := TX5) (N := 4) hx hb hts hin5 hown hK hP 17 rfl rfl 0 (by decide) fl12 (fun _ h9 => h9) rfl dX5_arc_1 ?_
  refine lv_iload_n hx hb dX5_arc_4 rfl (lv_at hl 1 rfl) ?_
  refine wk_Vi (As := [.int y1]) (rest := []) ⟨hx, hb, hml, hown, hts⟩ (c_X0_hasTransition l D cI cJ cZ cA b rt rg f2 f3 tk gv (nI pl) (nI tr) y1) (cwV 1 hts gX5_arc_X0_hasTransition rfl rfl rfl (by decide +kernel) ⟨Nat.le_of_ble_eq_true rfl, Nat.le_of_ble_eq_true rfl⟩) hK hP [0, 1, 2, 3, 4, 5, 6, 7, 8, 9, 10, 11, 12, 13, 14, 15, 16] rfl 0 0 rfl rfl hS rfl hl.1 rfl (Nat.le_of_ble_eq_true rfl) dX5_arc_5 ⟨Nat.zero_le _, Nat.zero_le _⟩ (fun H locs hP hS => ?_)
  refine wk_if_eqb (tgt := 22) hx hb dX5_arc_8 (by decide) (fun c8 => ?_) (fun c8 => ?_)
  · skip
    refine lv_iconst (v := nI 0) hx hb dX5_arc_22 (by decide) ?_
    exact hret _ (tk, gv, fn) _ _ _ _ _ _ rfl ⟨bI_F (by simp [arcC, c8]), by simp [arcC, c8]⟩ hP hD dX5_arc_23 hS (Nat.zero_le _) (Nat.zero_le _)
  · skip
    refine lv_aload_n hx hb dX5_arc_11 rfl (lv_at hl 0 rfl) ?_
    refine va_get (D := D) (ci := 4) (v := .ref (b 0)) (C := RX5) (T := TX5) (N := 4) hx hb hts hin5 hown hK hP 17 rfl rfl 0 (by decide) fl12 (fun _ h9 => h9) rfl dX5_arc_12 ?_
    refine lv_iload_n hx hb dX5_arc_15 rfl (lv_at hl 2 rfl) ?_
    refine wk_Vi (As := [.int y2]) (rest := []) ⟨hx, hb, hml, hown, hts⟩ (c_X0_hasPlace l D cI cJ cZ cA b rt rg f2 f3 tk gv (nI pl) (nI tr) y2) (cwV 1 hts gX5_arc_X0_hasPlace rfl rfl rfl (by decide +kernel) ⟨Nat.le_of_ble_eq_true rfl, Nat.le_of_ble_eq_true rfl⟩) hK hP [0, 1, 2, 3, 4, 5, 6, 7, 8, 9, 10, 11, 12, 13, 14, 15, 16] rfl 0 0 rfl rfl hS rfl hl.1 rfl (Nat.le_of_ble_eq_true rfl) dX5_arc_16 ⟨Nat.zero_le _, Nat.zero_le _⟩ (fun H locs hP hS => ?_)
    refine wk_if_neb (tgt := 24) hx hb dX5_arc_19 (by decide) (fun c19 => ?_) (fun c19 => ?_)
    · skip
      refine lv_iload_n hx hb dX5_arc_24 rfl (lv_at hl 3 rfl) ?_
      refine lv_iconst (v := nI 5) hx hb dX5_arc_25 (by decide) ?_
      refine wk_Si (As := [.int y3, .int (nI 5)]) (rest := []) ⟨hx, hb, hml, hown, hts⟩ (c_X5_isWithin l D cI cJ cZ cA y3 (nI 5)) (va_cwS 2 hts gX5_arc_X5_isWithin rfl rfl rfl (by decide +kernel) ⟨Nat.le_of_ble_eq_true rfl, Nat.le_of_ble_eq_true rfl⟩) hK hP [] rfl hS rfl hl.1 rfl (Nat.le_of_ble_eq_true rfl) dX5_arc_26 ⟨Nat.zero_le _, Nat.zero_le _⟩ (fun H locs hP hS => ?_)
      refine wk_if_eqb (tgt := 41) hx hb dX5_arc_29 (by decide) (fun c29 => ?_) (fun c29 => ?_)
      · skip
        refine lv_iconst (v := nI 0) hx hb dX5_arc_41 (by decide) ?_
        exact hret _ (tk, gv, fn) _ _ _ _ _ _ rfl ⟨bI_F (by simp [arcC, c8, c19, c29]), by simp [arcC, c8, c19, c29]⟩ hP hD dX5_arc_42 hS (Nat.zero_le _) (Nat.zero_le _)
      · skip
        refine lv_iload hx hb dX5_arc_32 (lv_at hl 4 rfl) ?_
        refine lv_iconst (v := nI 5) hx hb dX5_arc_34 (by decide) ?_
        refine wk_Si (As := [.int y4, .int (nI 5)]) (rest := []) ⟨hx, hb, hml, hown, hts⟩ (c_X5_isWithin l D cI cJ cZ cA y4 (nI 5)) (va_cwS 2 hts gX5_arc_X5_isWithin rfl rfl rfl (by decide +kernel) ⟨Nat.le_of_ble_eq_true rfl, Nat.le_of_ble_eq_true rfl⟩) hK hP [] rfl hS rfl hl.1 rfl (Nat.le_of_ble_eq_true rfl) dX5_arc_35 ⟨Nat.zero_le _, Nat.zero_le _⟩ (fun H locs hP hS => ?_)
        refine wk_if_neb (tgt := 43) hx hb dX5_arc_38 (by decide) (fun c38 => ?_) (fun c38 => ?_)
        · skip
          obtain ⟨j1, hj1, rfl⟩ := inB_nI (by omega) c8
          obtain ⟨j2, hj2, rfl⟩ := inB_nI (by omega) c19
          refine lv_aload_n hx hb dX5_arc_43 rfl (lv_at hl 0 rfl) ?_
          refine va_get (D := D) (ci := 4) (v := .ref (b 0)) (C := RX5) (T := TX5) (N := 4) hx hb hts hin5 hown hK hP 17 rfl rfl 0 (by decide) fl12 (fun _ h9 => h9) rfl dX5_arc_44 ?_
          refine va_get (D := D) (ci := 0) (v := .ref (b 4)) (C := RX0) (T := TX0) (N := 6) hx hb hts hin0 hown hK hP 0 rfl rfl 4 (by decide) fl58 (fun _ h9 => h9) rfl dX5_arc_47 ?_
          refine lv_iload_n hx hb dX5_arc_50 rfl (lv_at hl 1 rfl) ?_
          refine wk_aald hx hb hK hP 3 3 rfl rfl (i := j1) (y := rt j1) (by omega) (by omega) (rfA_in (by omega)) dX5_arc_51 ?_
          refine lv_iload_n hx hb dX5_arc_52 rfl (lv_at hl 2 rfl) ?_
          refine lv_iload_n hx hb dX5_arc_53 rfl (lv_at hl 3 rfl) ?_
          refine wk_iast hx hb hK hP hD hS (5 + j1) 0 (nw_rt (by omega)) rfl (i := j2) (by omega) (by omega) dX5_arc_54 (fun H locs hP hD hS => ?_)
          rw [nw_st (by omega)] at hP hD
          have hP : va_P D vwCl (nw cI cA b rt rg (nI pl) (nI tr) f2 f3 (va_up tk j1 (upd (tk j1) j2 y3)) gv ++ [(x0, .inr (4, [.ref (b 0), .ref x1, .ref x2, .ref x3])), (x1, .inl (cI, 5, .inl fn))]) H := hP
          have hD : va_D A (nw cI cA b rt rg (nI pl) (nI tr) f2 f3 (va_up tk j1 (upd (tk j1) j2 y3)) gv ++ [(x0, .inr (4, [.ref (b 0), .ref x1, .ref x2, .ref x3])), (x1, .inl (cI, 5, .inl fn))]) := hD
          refine lv_aload_n hx hb dX5_arc_55 rfl (lv_at hl 0 rfl) ?_
          refine va_get (D := D) (ci := 4) (v := .ref (b 0)) (C := RX5) (T := TX5) (N := 4) hx hb hts hin5 hown hK hP 17 rfl rfl 0 (by decide) fl12 (fun _ h9 => h9) rfl dX5_arc_56 ?_
          refine va_get (D := D) (ci := 0) (v := .ref (b 5)) (C := RX0) (T := TX0) (N := 6) hx hb hts hin0 hown hK hP 0 rfl rfl 5 (by decide) fl62 (fun _ h9 => h9) rfl dX5_arc_59 ?_
          refine lv_iload_n hx hb dX5_arc_62 rfl (lv_at hl 1 rfl) ?_
          refine wk_aald hx hb hK hP 4 3 rfl rfl (i := j1) (y := rg j1) (by omega) (by omega) (rfA_in (by omega)) dX5_arc_63 ?_
          refine lv_iload_n hx hb dX5_arc_64 rfl (lv_at hl 2 rfl) ?_
          refine lv_iload hx hb dX5_arc_65 (lv_at hl 4 rfl) ?_
          refine wk_iast hx hb hK hP hD hS (11 + j1) 0 (nw_rg (by omega)) rfl (i := j2) (by omega) (by omega) dX5_arc_67 (fun H locs hP hD hS => ?_)
          rw [nw_sg (by omega)] at hP hD
          have hP : va_P D vwCl (nw cI cA b rt rg (nI pl) (nI tr) f2 f3 (va_up tk j1 (upd (tk j1) j2 y3)) (va_up gv j1 (upd (gv j1) j2 y4)) ++ [(x0, .inr (4, [.ref (b 0), .ref x1, .ref x2, .ref x3])), (x1, .inl (cI, 5, .inl fn))]) H := hP
          have hD : va_D A (nw cI cA b rt rg (nI pl) (nI tr) f2 f3 (va_up tk j1 (upd (tk j1) j2 y3)) (va_up gv j1 (upd (gv j1) j2 y4)) ++ [(x0, .inr (4, [.ref (b 0), .ref x1, .ref x2, .ref x3])), (x1, .inl (cI, 5, .inl fn))]) := hD
          refine lv_aload_n hx hb dX5_arc_68 rfl (lv_at hl 0 rfl) ?_
          refine wk_VvW (As := []) (rest := []) (wr := []) ⟨hx, hb, hml, hown, hts⟩ (c_X5_goBackToFirst l D cI cJ cZ cA b rt rg f2 f3 (va_up tk j1 (upd (tk j1) j2 y3)) (va_up gv j1 (upd (gv j1) j2 y4)) x0 x1 x2 x3 fn (nI pl) (nI tr) H.size) (cwV 0 hts gX5_arc_X5_goBackToFirst rfl rfl rfl (by decide +kernel) ⟨Nat.le_of_ble_eq_true rfl, Nat.le_of_ble_eq_true rfl⟩) hK hP hD hA [0, 1, 2, 3, 4, 5, 6, 7, 8, 9, 10, 11, 12, 13, 14, 15, 16, 17, 18] rfl (by decide) [] rfl (by decide) (by decide) 17 4 rfl rfl hS rfl hl.1 rfl (Nat.le_of_ble_eq_true rfl) dX5_arc_69 ⟨Nat.le_of_ble_eq_true rfl, Nat.le_of_ble_eq_true rfl⟩ (fun u9 H locs hu hP hD hS => ?_)
          have hP : va_P D vwCl (nw cI cA b rt rg (nI pl) (nI tr) f2 f3 (va_up tk j1 (upd (tk j1) j2 y3)) (va_up gv j1 (upd (gv j1) j2 y4)) ++ [(x0, .inr (4, [.ref (b 0), .ref x1, .ref x2, .ref x3])), (x1, .inl (cI, 5, .inl (va_cpy f2 fn 0 0 5)))]) H := hP
          have hD : va_D A (nw cI cA b rt rg (nI pl) (nI tr) f2 f3 (va_up tk j1 (upd (tk j1) j2 y3)) (va_up gv j1 (upd (gv j1) j2 y4)) ++ [(x0, .inr (4, [.ref (b 0), .ref x1, .ref x2, .ref x3])), (x1, .inl (cI, 5, .inl (va_cpy f2 fn 0 0 5)))]) := hD
          refine lv_iconst (v := nI 1) hx hb dX5_arc_72 (by decide) ?_
          exact hret _ ((va_up tk j1 (upd (tk j1) j2 y3)), (va_up gv j1 (upd (gv j1) j2 y4)), (va_cpy f2 fn 0 0 5)) _ _ _ _ _ _ rfl ⟨bI_T (by simp [arcC, c8, c19, c29, c38]), by simp [arcC, c8, c19, c29, c38, nI_clamp (show j1 < 2 ^ 31 by omega), nI_clamp (show j2 < 2 ^ 31 by omega)]⟩ hP hD dX5_arc_73 hS (Nat.zero_le _) (Nat.zero_le _)
        · skip
          refine lv_iconst (v := nI 0) hx hb dX5_arc_41 (by decide) ?_
          exact hret _ (tk, gv, fn) _ _ _ _ _ _ rfl ⟨bI_F (by simp [arcC, c8, c19, c29, c38]), by simp [arcC, c8, c19, c29, c38]⟩ hP hD dX5_arc_42 hS (Nat.zero_le _) (Nat.zero_le _)
    · skip
      refine lv_iconst (v := nI 0) hx hb dX5_arc_22 (by decide) ?_
      exact hret _ (tk, gv, fn) _ _ _ _ _ _ rfl ⟨bI_F (by simp [arcC, c8, c19]), by simp [arcC, c8, c19]⟩ hP hD dX5_arc_23 hS (Nat.zero_le _) (Nat.zero_le _)

set_option maxHeartbeats 4000000 in
set_option maxRecDepth 100000 in
theorem c_X5_target (l : Launch) (D : va_G) (cI cJ cZ cA : ClassId) (b rt rg : Nat → Nat) (f2 f3 : Nat → Int32) (tk gv : Nat → Nat → Int32) (x0 x1 x2 x3 : Nat) (fn : Nat → Int32) (tr : Int32) (sz pl : Nat) (y1 y2 : Int32) (hpl : pl ≤ 5) : Met l yX5_target wsX5_target ({ frames := 1, cells := 0, slots := 0, locals := 21 } : Room) (wr_P D (tysC cI cJ cZ cA) [.ref x0, .int y1, .int y2] (nw cI cA b rt rg (nI pl) tr f2 f3 tk gv ++ [(x0, .inr (4, [.ref (b 0), .ref x1, .ref x2, .ref x3])), (x1, .inl (cI, 5, .inl fn))]) sz) (wr_Qi D (S := Nat → Int32) (nw cI cA b rt rg (nI pl) tr f2 f3 tk gv ++ [(x0, .inr (4, [.ref (b 0), .ref x1, .ref x2, .ref x3])), (x1, .inl (cI, 5, .inl fn))]) sz (fun r9 u => r9 = bI (targetM pl f3 y1 y2).1 ∧ u = (targetM pl f3 y1 y2).2) (fun u => (nw cI cA b rt rg (nI pl) tr f2 u tk gv ++ [(x0, .inr (4, [.ref (b 0), .ref x1, .ref x2, .ref x3])), (x1, .inl (cI, 5, .inl fn))]))) 0 0 (va_A (nw cI cA b rt rg (nI pl) tr f2 f3 tk gv ++ [(x0, .inr (4, [.ref (b 0), .ref x1, .ref x2, .ref x3])), (x1, .inl (cI, 5, .inl fn))]) sz) := by
  refine met_wi (cc := cX5_target) (maxL := 3) (ty := .boolean) (by decide) rfl (Nat.le_of_ble_eq_true rfl) ?_
  intro p e s m args below meth c Q A hx hb hml hown hts hP hK hD hA hret ls hl
  obtain ⟨H, hH9⟩ : ∃ H : Heap, H = s.heap := ⟨_, rfl⟩
  have hP : va_P D vwCl (nw cI cA b rt rg (nI pl) tr f2 f3 tk gv ++ [(x0, .inr (4, [.ref (b 0), .ref x1, .ref x2, .ref x3])), (x1, .inl (cI, 5, .inl fn))]) H := by rw [hH9]; exact hP
  have hS : va_S A s.heap H [] := by rw [hH9]; exact va_S.rf
  rw [← hH9]
  have hown : s.vm.findClass RX5 = some m.cls := hown
  have hin5 : ∀ w ∈ wsX50, w ∈ wsX5_target := by decide +kernel
  have hin0 : ∀ w ∈ wsX00, w ∈ wsX5_target := by decide +kernel
  have fl12 := hts (.fieldLink RX5 12 "CoverRounds" "net" "LCoverRounds$Net;") (by decide +kernel)
  have fl65 := hts (.fieldLink RX5 65 "CoverRounds$Net" "wanted" "[I") (by decide +kernel)
  have hl : lv_has ls 3 [(0, .ref x0), (1, .int y1), (2, .int y2)] := hl
  refine lv_aload_n hx hb dX5_target_0 rfl (lv_at hl 0 rfl) ?_
  refine va_get (D := D) (ci := 4) (v := .ref (b 0)) (C := RX5) (T := TX5) (N := 4) hx hb hts hin5 hown hK hP 17 rfl rfl 0 (by decide) fl12 (fun _ h9 => h9) rfl dX5_target_1 ?_
  refine lv_iload_n hx hb dX5_target_4 rfl (lv_at hl 1 rfl) ?_
  refine wk_Vi (As := [.int y1]) (rest := []) ⟨hx, hb, hml, hown, hts⟩ (c_X0_hasPlace l D cI cJ cZ cA b rt rg f2 f3 tk gv (nI pl) tr y1) (cwV 1 hts gX5_target_X0_hasPlace rfl rfl rfl (by decide +kernel) ⟨Nat.le_of_ble_eq_true rfl, Nat.le_of_ble_eq_true rfl⟩) hK hP [0, 1, 2, 3, 4, 5, 6, 7, 8, 9, 10, 11, 12, 13, 14, 15, 16] rfl 0 0 rfl rfl hS rfl hl.1 rfl (Nat.le_of_ble_eq_true rfl) dX5_target_5 ⟨Nat.zero_le _, Nat.zero_le _⟩ (fun H locs hP hS => ?_)
  refine wk_if_eqb (tgt := 20) hx hb dX5_target_8 (by decide) (fun c8 => ?_) (fun c8 => ?_)
  · skip
    refine lv_iconst (v := nI 0) hx hb dX5_target_20 (by decide) ?_
    exact hret _ f3 _ _ _ _ _ _ rfl ⟨bI_F (by simp [targetM, c8]), by simp [targetM, c8]⟩ hP hD dX5_target_21 hS (Nat.zero_le _) (Nat.zero_le _)
  · skip
    refine lv_iload_n hx hb dX5_target_11 rfl (lv_at hl 2 rfl) ?_
    refine lv_bipush (v := nI 20) hx hb dX5_target_12 (by decide) ?_
    refine wk_Si (As := [.int y2, .int (nI 20)]) (rest := []) ⟨hx, hb, hml, hown, hts⟩ (c_X5_isWithin l D cI cJ cZ cA y2 (nI 20)) (va_cwS 2 hts gX5_target_X5_isWithin rfl rfl rfl (by decide +kernel) ⟨Nat.le_of_ble_eq_true rfl, Nat.le_of_ble_eq_true rfl⟩) hK hP [] rfl hS rfl hl.1 rfl (Nat.le_of_ble_eq_true rfl) dX5_target_14 ⟨Nat.zero_le _, Nat.zero_le _⟩ (fun H locs hP hS => ?_)
    refine wk_if_neb (tgt := 22) hx hb dX5_target_17 (by decide) (fun c17 => ?_) (fun c17 => ?_)
    · skip
      obtain ⟨j1, hj1, rfl⟩ := inB_nI (by omega) c8
      refine lv_aload_n hx hb dX5_target_22 rfl (lv_at hl 0 rfl) ?_
      refine va_get (D := D) (ci := 4) (v := .ref (b 0)) (C := RX5) (T := TX5) (N := 4) hx hb hts hin5 hown hK hP 17 rfl rfl 0 (by decide) fl12 (fun _ h9 => h9) rfl dX5_target_23 ?_
      refine va_get (D := D) (ci := 0) (v := .ref (b 3)) (C := RX0) (T := TX0) (N := 6) hx hb hts hin0 hown hK hP 0 rfl rfl 3 (by decide) fl65 (fun _ h9 => h9) rfl dX5_target_26 ?_
      refine lv_iload_n hx hb dX5_target_29 rfl (lv_at hl 1 rfl) ?_
      refine lv_iload_n hx hb dX5_target_30 rfl (lv_at hl 2 rfl) ?_
      refine wk_iast hx hb hK hP hD hS 2 0 rfl rfl (i := j1) (by omega) (by omega) dX5_target_31 (fun H locs hP hD hS => ?_)
      have hP : va_P D vwCl (nw cI cA b rt rg (nI pl) tr f2 (upd f3 j1 y2) tk gv ++ [(x0, .inr (4, [.ref (b 0), .ref x1, .ref x2, .ref x3])), (x1, .inl (cI, 5, .inl fn))]) H := hP
      have hD : va_D A (nw cI cA b rt rg (nI pl) tr f2 (upd f3 j1 y2) tk gv ++ [(x0, .inr (4, [.ref (b 0), .ref x1, .ref x2, .ref x3])), (x1, .inl (cI, 5, .inl fn))]) := hD
      refine lv_iconst (v := nI 1) hx hb dX5_target_32 (by decide) ?_
      exact hret _ (upd f3 j1 y2) _ _ _ _ _ _ rfl ⟨bI_T (by simp [targetM, c8, c17]), by simp [targetM, c8, c17, nI_clamp (show j1 < 2 ^ 31 by omega)]⟩ hP hD dX5_target_33 hS (Nat.zero_le _) (Nat.zero_le _)
    · skip
      refine lv_iconst (v := nI 0) hx hb dX5_target_20 (by decide) ?_
      exact hret _ f3 _ _ _ _ _ _ rfl ⟨bI_F (by simp [targetM, c8, c17]), by simp [targetM, c8, c17]⟩ hP hD dX5_target_21 hS (Nat.zero_le _) (Nat.zero_le _)

set_option maxHeartbeats 4000000 in
set_option maxRecDepth 100000 in
theorem c_X5_fire (l : Launch) (D : va_G) (cI cJ cZ cA : ClassId) (b rt rg : Nat → Nat) (f2 f3 : Nat → Int32) (tk gv : Nat → Nat → Int32) (x0 x1 x2 x3 : Nat) (fn : Nat → Int32) (sz pl tr : Nat) (x : Int32) (hpl : pl ≤ 5) (htr : tr ≤ 6) : Met l yX5_fire wsX5_fire ({ frames := 1, cells := 0, slots := 0, locals := 25 } : Room) (wr_P D (tysC cI cJ cZ cA) [.ref x0, .int x] (nw cI cA b rt rg (nI pl) (nI tr) f2 f3 tk gv ++ [(x0, .inr (4, [.ref (b 0), .ref x1, .ref x2, .ref x3])), (x1, .inl (cI, 5, .inl fn))]) sz) (wr_Qi D (S := Nat → Int32) (nw cI cA b rt rg (nI pl) (nI tr) f2 f3 tk gv ++ [(x0, .inr (4, [.ref (b 0), .ref x1, .ref x2, .ref x3])), (x1, .inl (cI, 5, .inl fn))]) sz (fun r9 u => r9 = bI (fireC pl tr fn tk gv x).1 ∧ u = (fireC pl tr fn tk gv x).2) (fun u => (nw cI cA b rt rg (nI pl) (nI tr) f2 f3 tk gv ++ [(x0, .inr (4, [.ref (b 0), .ref x1, .ref x2, .ref x3])), (x1, .inl (cI, 5, .inl u))]))) 0 0 (va_A (nw cI cA b rt rg (nI pl) (nI tr) f2 f3 tk gv ++ [(x0, .inr (4, [.ref (b 0), .ref x1, .ref x2, .ref x3])), (x1, .inl (cI, 5, .inl fn))]) sz) := by
  refine met_wi (cc := cX5_fire) (maxL := 2) (ty := .boolean) (by decide) rfl (Nat.le_of_ble_eq_true rfl) ?_
  intro p e s m args below meth c Q A hx hb hml hown hts hP hK hD hA hret ls hl
  obtain ⟨H, hH9⟩ : ∃ H : Heap, H = s.heap := ⟨_, rfl⟩
  have hP : va_P D vwCl (nw cI cA b rt rg (nI pl) (nI tr) f2 f3 tk gv ++ [(x0, .inr (4, [.ref (b 0), .ref x1, .ref x2, .ref x3])), (x1, .inl (cI, 5, .inl fn))]) H := by rw [hH9]; exact hP
  have hS : va_S A s.heap H [] := by rw [hH9]; exact va_S.rf
  rw [← hH9]
  have hown : s.vm.findClass RX5 = some m.cls := hown
  have hin5 : ∀ w ∈ wsX50, w ∈ wsX5_fire := by decide +kernel
  have hin0 : ∀ w ∈ wsX00, w ∈ wsX5_fire := by decide +kernel
  have fl12 := hts (.fieldLink RX5 12 "CoverRounds" "net" "LCoverRounds$Net;") (by decide +kernel)
  have fl16 := hts (.fieldLink RX5 16 "CoverRounds" "now" "[I") (by decide +kernel)
  have hl : lv_has ls 2 [(0, .ref x0), (1, .int x)] := hl
  refine lv_aload_n hx hb dX5_fire_0 rfl (lv_at hl 0 rfl) ?_
  refine va_get (D := D) (ci := 4) (v := .ref (b 0)) (C := RX5) (T := TX5) (N := 4) hx hb hts hin5 hown hK hP 17 rfl rfl 0 (by decide) fl12 (fun _ h9 => h9) rfl dX5_fire_1 ?_
  refine lv_iload_n hx hb dX5_fire_4 rfl (lv_at hl 1 rfl) ?_
  refine wk_Vi (As := [.int x]) (rest := []) ⟨hx, hb, hml, hown, hts⟩ (c_X0_hasTransition l D cI cJ cZ cA b rt rg f2 f3 tk gv (nI pl) (nI tr) x) (cwV 1 hts gX5_fire_X0_hasTransition rfl rfl rfl (by decide +kernel) ⟨Nat.le_of_ble_eq_true rfl, Nat.le_of_ble_eq_true rfl⟩) hK hP [0, 1, 2, 3, 4, 5, 6, 7, 8, 9, 10, 11, 12, 13, 14, 15, 16] rfl 0 0 rfl rfl hS rfl hl.1 rfl (Nat.le_of_ble_eq_true rfl) dX5_fire_5 ⟨Nat.zero_le _, Nat.zero_le _⟩ (fun H locs hP hS => ?_)
  refine wk_if_eqb (tgt := 27) hx hb dX5_fire_8 (by decide) (fun c8 => ?_) (fun c8 => ?_)
  · skip
    refine lv_iconst (v := nI 0) hx hb dX5_fire_27 (by decide) ?_
    exact hret _ fn _ _ _ _ _ _ rfl ⟨bI_F (by simp [fireC, c8]), by simp [fireC, c8]⟩ hP hD dX5_fire_28 hS (Nat.zero_le _) (Nat.zero_le _)
  · skip
    obtain ⟨j, hj, rfl⟩ := inB_nI (by omega) c8
    have hcl : (nI j).toNatClampNeg = j := nI_clamp (by omega)
    refine lv_aload_n hx hb dX5_fire_11 rfl (lv_at hl 0 rfl) ?_
    refine va_get (D := D) (ci := 4) (v := .ref (b 0)) (C := RX5) (T := TX5) (N := 4) hx hb hts hin5 hown hK hP 17 rfl rfl 0 (by decide) fl12 (fun _ h9 => h9) rfl dX5_fire_12 ?_
    refine lv_iload_n hx hb dX5_fire_15 rfl (lv_at hl 1 rfl) ?_
    refine lv_aload_n hx hb dX5_fire_16 rfl (lv_at hl 0 rfl) ?_
    refine va_get (D := D) (ci := 4) (v := .ref x1) (C := RX5) (T := TX5) (N := 4) hx hb hts hin5 hown hK hP 17 rfl rfl 1 (by decide) fl16 (fun _ h9 => h9) rfl dX5_fire_17 ?_
    refine lv_iconst (v := nI 0) hx hb dX5_fire_20 (by decide) ?_
    refine wk_Vi (As := [.int (nI j), .ref x1, .int (nI 0)]) (rest := []) ⟨hx, hb, hml, hown, hts⟩ (c_X0_canFire l D cI cJ cZ cA b rt rg f2 f3 tk gv (nI tr) pl j x1 5 0 fn (by omega) (by omega) (by omega) (by omega)) (cwV 3 hts gX5_fire_X0_canFire rfl rfl rfl (by decide +kernel) ⟨Nat.le_of_ble_eq_true rfl, Nat.le_of_ble_eq_true rfl⟩) hK hP [0, 1, 2, 3, 4, 5, 6, 7, 8, 9, 10, 11, 12, 13, 14, 15, 16, 18] rfl 0 0 rfl rfl hS rfl hl.1 rfl (Nat.le_of_ble_eq_true rfl) dX5_fire_21 ⟨Nat.zero_le _, Nat.zero_le _⟩ (fun H locs hP hS => ?_)
    refine wk_if_neb (tgt := 29) hx hb dX5_fire_24 (by decide) (fun c24 => ?_) (fun c24 => ?_)
    · skip
      refine lv_aload_n hx hb dX5_fire_29 rfl (lv_at hl 0 rfl) ?_
      refine va_get (D := D) (ci := 4) (v := .ref (b 0)) (C := RX5) (T := TX5) (N := 4) hx hb hts hin5 hown hK hP 17 rfl rfl 0 (by decide) fl12 (fun _ h9 => h9) rfl dX5_fire_30 ?_
      refine lv_iload_n hx hb dX5_fire_33 rfl (lv_at hl 1 rfl) ?_
      refine lv_aload_n hx hb dX5_fire_34 rfl (lv_at hl 0 rfl) ?_
      refine va_get (D := D) (ci := 4) (v := .ref x1) (C := RX5) (T := TX5) (N := 4) hx hb hts hin5 hown hK hP 17 rfl rfl 1 (by decide) fl16 (fun _ h9 => h9) rfl dX5_fire_35 ?_
      refine lv_iconst (v := nI 0) hx hb dX5_fire_38 (by decide) ?_
      refine wk_VvW (As := [.int (nI j), .ref x1, .int (nI 0)]) (rest := []) (wr := [(x0, .inr (4, [.ref (b 0), .ref x1, .ref x2, .ref x3]))]) ⟨hx, hb, hml, hown, hts⟩ (c_X0_move l D cI cJ cZ cA b rt rg f2 f3 tk gv (nI tr) H.size pl j x1 5 0 fn (by omega) (by omega) (by omega) (by omega)) (cwV 3 hts gX5_fire_X0_move rfl rfl rfl (by decide +kernel) ⟨Nat.le_of_ble_eq_true rfl, Nat.le_of_ble_eq_true rfl⟩) hK hP hD hA [0, 1, 2, 3, 4, 5, 6, 7, 8, 9, 10, 11, 12, 13, 14, 15, 16, 18] rfl (by decide) [17] rfl (by decide) (by decide) 0 0 rfl rfl hS rfl hl.1 rfl (Nat.le_of_ble_eq_true rfl) dX5_fire_39 ⟨Nat.zero_le _, Nat.zero_le _⟩ (fun u9 H locs hu hP hD hS => ?_)
      have hP : va_P D vwCl (nw cI cA b rt rg (nI pl) (nI tr) f2 f3 tk gv ++ [(x0, .inr (4, [.ref (b 0), .ref x1, .ref x2, .ref x3])), (x1, .inl (cI, 5, .inl (wrN fn (mvW fn 0 (gv j) (tk j)) 0 pl)))]) H := hP.sub [1, 2, 3, 4, 5, 6, 7, 8, 9, 10, 11, 12, 13, 14, 15, 16, 17, 0, 18] rfl
      have hD : va_D A (nw cI cA b rt rg (nI pl) (nI tr) f2 f3 tk gv ++ [(x0, .inr (4, [.ref (b 0), .ref x1, .ref x2, .ref x3])), (x1, .inl (cI, 5, .inl (wrN fn (mvW fn 0 (gv j) (tk j)) 0 pl)))]) := hD.sub [1, 2, 3, 4, 5, 6, 7, 8, 9, 10, 11, 12, 13, 14, 15, 16, 17, 0, 18] (by decide) rfl
      refine lv_iconst (v := nI 1) hx hb dX5_fire_42 (by decide) ?_
      exact hret _ (wrN fn (mvW fn 0 (gv j) (tk j)) 0 pl) _ _ _ _ _ _ rfl ⟨bI_T (by simp [fireC, c8, c24, hcl]), by simp [fireC, c8, c24, hcl]⟩ hP hD dX5_fire_43 hS (Nat.zero_le _) (Nat.zero_le _)
    · skip
      refine lv_iconst (v := nI 0) hx hb dX5_fire_27 (by decide) ?_
      exact hret _ fn _ _ _ _ _ _ rfl ⟨bI_F (by simp [fireC, c8, c24, hcl]), by simp [fireC, c8, c24, hcl]⟩ hP hD dX5_fire_28 hS (Nat.zero_le _) (Nat.zero_le _)

set_option maxHeartbeats 4000000 in
set_option maxRecDepth 100000 in
theorem c_X5_tokens (l : Launch) (D : va_G) (cI cJ cZ cA : ClassId) (b rt rg : Nat → Nat) (f2 f3 : Nat → Int32) (tk gv : Nat → Nat → Int32) (x0 x1 x2 x3 : Nat) (fn : Nat → Int32) (tr : Int32) (pl : Nat) (x : Int32) (hpl : pl ≤ 5) : Met l yX5_tokens wsX5_tokens ({ frames := 1, cells := 0, slots := 0, locals := 21 } : Room) (ro_P D (tysC cI cJ cZ cA) [.ref x0, .int x] (nw cI cA b rt rg (nI pl) tr f2 f3 tk gv ++ [(x0, .inr (4, [.ref (b 0), .ref x1, .ref x2, .ref x3])), (x1, .inl (cI, 5, .inl fn))])) (ro_Q (if inB x (nI pl) then fn x.toNatClampNeg else -1)) 0 0 (fun _ => False) := by
  refine met_ro (cc := cX5_tokens) (maxL := 2) (ty := .int) (by decide) rfl (Nat.le_of_ble_eq_true rfl) rfl ?_
  intro p e s m args below meth c Q hx hb hml hown hts hP hK hret ls hl
  obtain ⟨H, hH9⟩ : ∃ H : Heap, H = s.heap := ⟨_, rfl⟩
  have hP : va_P D vwCl (nw cI cA b rt rg (nI pl) tr f2 f3 tk gv ++ [(x0, .inr (4, [.ref (b 0), .ref x1, .ref x2, .ref x3])), (x1, .inl (cI, 5, .inl fn))]) H := by rw [hH9]; exact hP
  have hS : va_S (fun _ => False) s.heap H [] := by rw [hH9]; exact va_S.rf
  rw [← hH9]
  have hown : s.vm.findClass RX5 = some m.cls := hown
  have hin5 : ∀ w ∈ wsX50, w ∈ wsX5_tokens := by decide +kernel
  have hin0 : ∀ w ∈ wsX00, w ∈ wsX5_tokens := by decide +kernel
  have fl12 := hts (.fieldLink RX5 12 "CoverRounds" "net" "LCoverRounds$Net;") (by decide +kernel)
  have fl16 := hts (.fieldLink RX5 16 "CoverRounds" "now" "[I") (by decide +kernel)
  have hl : lv_has ls 2 [(0, .ref x0), (1, .int x)] := hl
  refine lv_aload_n hx hb dX5_tokens_0 rfl (lv_at hl 0 rfl) ?_
  refine va_get (D := D) (ci := 4) (v := .ref (b 0)) (C := RX5) (T := TX5) (N := 4) hx hb hts hin5 hown hK hP 17 rfl rfl 0 (by decide) fl12 (fun _ h9 => h9) rfl dX5_tokens_1 ?_
  refine lv_iload_n hx hb dX5_tokens_4 rfl (lv_at hl 1 rfl) ?_
  refine wk_Vi (As := [.int x]) (rest := []) ⟨hx, hb, hml, hown, hts⟩ (c_X0_hasPlace l D cI cJ cZ cA b rt rg f2 f3 tk gv (nI pl) tr x) (cwV 1 hts gX5_tokens_X0_hasPlace rfl rfl rfl (by decide +kernel) ⟨Nat.le_of_ble_eq_true rfl, Nat.le_of_ble_eq_true rfl⟩) hK hP [0, 1, 2, 3, 4, 5, 6, 7, 8, 9, 10, 11, 12, 13, 14, 15, 16] rfl 0 0 rfl rfl hS rfl hl.1 rfl (Nat.le_of_ble_eq_true rfl) dX5_tokens_5 ⟨Nat.zero_le _, Nat.zero_le _⟩ (fun H locs hP hS => ?_)
  refine wk_if_eqb (tgt := 20) hx hb dX5_tokens_8 (by decide) (fun c8 => ?_) (fun c8 => ?_)
  · skip
    refine lv_iconst (v := -1) hx hb dX5_tokens_20 (by decide) ?_
    exact hret _ _ _ _ _ (by simp [c8]) dX5_tokens_21 hS
  · skip
    obtain ⟨j, hj, rfl⟩ := inB_nI (by omega) c8
    have hcl : (nI j).toNatClampNeg = j := nI_clamp (by omega)
    refine lv_aload_n hx hb dX5_tokens_11 rfl (lv_at hl 0 rfl) ?_
    refine va_get (D := D) (ci := 4) (v := .ref x1) (C := RX5) (T := TX5) (N := 4) hx hb hts hin5 hown hK hP 17 rfl rfl 1 (by decide) fl16 (fun _ h9 => h9) rfl dX5_tokens_12 ?_
    refine lv_iload_n hx hb dX5_tokens_15 rfl (lv_at hl 1 rfl) ?_
    refine wk_iald hx hb hK hP 18 0 rfl rfl (i := j) (by omega) (by omega) dX5_tokens_16 ?_
    refine lv_goto (tgt := 21) hx hb dX5_tokens_17 (by decide) ?_
    exact hret _ _ _ _ _ (by simp [c8, hcl]) dX5_tokens_21 hS
