set_option maxHeartbeats 4000000 in
set_option maxRecDepth 100000 in
theorem c_X3_keepBorn (l : Launch) (D : va_G) (cI cJ cZ cA : ClassId) (sa : Nat → Nat) (e0 e1 e5 e12 : Int32) (e4 : Int64) (c2 c3 c11 : Nat → Int32) (t6 t7 p8 p10 : Nat → Int64) (q8 l8 q10 l10 : Nat) (sz old ii : Nat) (X Bn : List Int64) (hX : listV p8 X) (hXl : X.length ≤ l8) (hl8 : l8 ≤ 25000) (hB : listV p10 Bn) (hBl : Bn.length ≤ l10) (hl10 : l10 ≤ 24600) (h0 : 0 < l10) (ho : old ≤ X.length) (hbx : Bn.length + X.length ≤ 12300) (hii : ii ≤ 60) : Met l yX3_keepBorn wsX3_keepBorn ({ frames := 3, cells := dC9 (apL Bn.length l10 (X.length - old)) l10, slots := dS9 (apL Bn.length l10 (X.length - old)) l10, locals := 84 } : Room) (wr_P D (tysC cI cJ cZ cA) [.ref (sa 0), .int (nI ii)] (sw cI cJ sa e0 e1 e4 e5 (nI old) e12 c2 c3 t6 t7 c11 (nI X.length) q8 l8 p8 (nI Bn.length) q10 l10 p10) sz) (wr_Qv D (S := Nat × (Nat → Int64)) (sw cI cJ sa e0 e1 e4 e5 (nI old) e12 c2 c3 t6 t7 c11 (nI X.length) q8 l8 p8 (nI Bn.length) q10 l10 p10) sz (fun u => listV u.2 (Bn ++ X.drop old)) (fun u => (sw cI cJ sa e0 e1 e4 e5 (nI old) (nI Bn.length) c2 c3 t6 t7 (upd c11 ii (nI (Bn ++ X.drop old).length)) (nI X.length) q8 l8 p8 (nI ((Bn ++ X.drop old).length)) u.1 (apL Bn.length l10 (X.length - old)) u.2))) (dC9 (apL Bn.length l10 (X.length - old)) l10) (dS9 (apL Bn.length l10 (X.length - old)) l10) (va_A (sw cI cJ sa e0 e1 e4 e5 (nI old) e12 c2 c3 t6 t7 c11 (nI X.length) q8 l8 p8 (nI Bn.length) q10 l10 p10) sz) := by
  refine met_wv (cc := cX3_keepBorn) (maxL := 3) (by decide) rfl (Nat.le_of_ble_eq_true rfl) ?_
  intro p e s m args below meth c Q A hx hb hml hown hts hP hK hD hA hret ls hl
  obtain ⟨H, hH9⟩ : ∃ H : Heap, H = s.heap := ⟨_, rfl⟩
  have hP : va_P D vwCl (sw cI cJ sa e0 e1 e4 e5 (nI old) e12 c2 c3 t6 t7 c11 (nI X.length) q8 l8 p8 (nI Bn.length) q10 l10 p10) H := by rw [hH9]; exact hP
  have hS : va_S A s.heap H [] := by rw [hH9]; exact va_S.rf
  rw [← hH9]
  have hown : s.vm.findClass RX3 = some m.cls := hown
  have hin3 : ∀ w ∈ wsX30, w ∈ wsX3_keepBorn := by decide +kernel
  have hin2 : ∀ w ∈ wsX20, w ∈ wsX3_keepBorn := by decide +kernel
  have fl49 := hts (.fieldLink RX3 49 "CoverRounds$Search" "born" "LCoverRounds$Pile;") (by decide +kernel)
  have fl65 := hts (.fieldLink RX3 65 "CoverRounds$Pile" "size" "I") (by decide +kernel)
  have fl55 := hts (.fieldLink RX3 55 "CoverRounds$Search" "bornFrom" "I") (by decide +kernel)
  have fl46 := hts (.fieldLink RX3 46 "CoverRounds$Search" "oldCount" "I") (by decide +kernel)
  have fl42 := hts (.fieldLink RX3 42 "CoverRounds$Search" "least" "LCoverRounds$Pile;") (by decide +kernel)
  have fl106 := hts (.fieldLink RX3 106 "CoverRounds$Pile" "rows" "[J") (by decide +kernel)
  have fl52 := hts (.fieldLink RX3 52 "CoverRounds$Search" "bornUpTo" "[I") (by decide +kernel)
  have hl : lv_has ls 3 [(0, .ref (sa 0)), (1, .int (nI ii))] := hl
  refine lv_aload_n hx hb dX3_keepBorn_0 rfl (lv_at hl 0 rfl) ?_
  refine lv_aload_n hx hb dX3_keepBorn_1 rfl (lv_at hl 0 rfl) ?_
  refine va_get (D := D) (ci := 2) (v := .ref (sa 10)) (C := RX3) (T := TX3) (N := 13) hx hb hts hin3 hown hK hP 0 rfl rfl 10 (by decide) fl49 (fun _ h9 => h9) rfl dX3_keepBorn_2 ?_
  refine va_get (D := D) (ci := 1) (v := .int (nI Bn.length)) (C := RX2) (T := TX2) (N := 2) hx hb hts hin2 hown hK hP 8 rfl rfl 1 (by decide) fl65 (fun _ h9 => h9) rfl dX3_keepBorn_5 ?_
  refine va_put (D := D) (ci := 2) (v := .int (nI Bn.length)) (ty := .int) (C := RX3) (T := TX3) (N := 13) hx hb hts hin3 tyX3 tyX3_ok nmX3 hown hK hP hD hS 0 rfl rfl 12 (by decide) fl55 (fun _ h9 => h9) rfl (by decide +kernel) rfl rfl (Nat.le_of_ble_eq_true rfl) dX3_keepBorn_8 (fun H locs hP hD hS => ?_)
  have hP : va_P D vwCl (sw cI cJ sa e0 e1 e4 e5 (nI old) (nI Bn.length) c2 c3 t6 t7 c11 (nI X.length) q8 l8 p8 (nI Bn.length) q10 l10 p10) H := hP
  have hD : va_D A (sw cI cJ sa e0 e1 e4 e5 (nI old) (nI Bn.length) c2 c3 t6 t7 c11 (nI X.length) q8 l8 p8 (nI Bn.length) q10 l10 p10) := hD
  refine lv_aload_n hx hb dX3_keepBorn_11 rfl (lv_at hl 0 rfl) ?_
  refine va_get (D := D) (ci := 2) (v := .int (nI old)) (C := RX3) (T := TX3) (N := 13) hx hb hts hin3 hown hK hP 0 rfl rfl 9 (by decide) fl46 (fun _ h9 => h9) rfl dX3_keepBorn_12 ?_
  refine lv_istore_n (lv' := [(2, .int (nI old)), (0, .ref (sa 0)), (1, .int (nI ii))]) hx hb dX3_keepBorn_15 rfl hl (by decide) rfl (fun ls hl => ?_)
  have lp16 : ∀ (n9 : Nat) (j : Nat) (Y : List Int64) (q : Nat) (lq : Nat) (f : Nat → Int64), X.length - (old + j) < n9 → old + j ≤ X.length → Y = Bn ++ (X.drop old).take j → listV f Y → lq = apL Bn.length l10 j → ∀ (H : Heap) (locs : List Loc) (ls : Array Slot), va_P D vwCl (sw cI cJ sa e0 e1 e4 e5 (nI old) (nI Bn.length) c2 c3 t6 t7 c11 (nI X.length) q8 l8 p8 (nI Y.length) q lq f) H → va_D A (sw cI cJ sa e0 e1 e4 e5 (nI old) (nI Bn.length) c2 c3 t6 t7 c11 (nI X.length) q8 l8 p8 (nI Y.length) q lq f) → va_S A s.heap H locs → lv_has ls 3 [(0, .ref (sa 0)), (1, .int (nI ii)), (2, .int (nI (old + j)))] → W p l e ({ frames := 3, cells := dC9 (apL Bn.length l10 (X.length - old)) l10, slots := dS9 (apL Bn.length l10 (X.length - old)) l10, locals := 84 } : Room) s m args below meth c H locs (dC9 lq l10) (dS9 lq l10) Q (F0 m 16 ls []) := by
    intro n9
    induction n9 with
    | zero => intro j Y q lq f hm16; exact absurd hm16 (Nat.not_lt_zero _)
    | succ n9 ih16 =>
      intro j Y q lq f hm16 hj hY hf hlq H locs ls hP hD hS hl
      have hYl : Y.length = Bn.length + j := by rw [hY, List.length_append, List.length_take, List.length_drop]; omega
      have hd1 : dbl l10 lq := by rw [hlq]; exact apL_dbl h0 j
      have hd0 : 0 < lq := Nat.lt_of_lt_of_le h0 hd1.2.1
      have hge := apL_ge (k := Bn.length) hBl h0 j
      have hle := apL_le (k := Bn.length) (len := l10) (c := 12300) (by omega) j (by omega)
      refine lv_iload_n hx hb dX3_keepBorn_16 rfl (lv_at hl 2 rfl) ?_
      refine lv_aload_n hx hb dX3_keepBorn_17 rfl (lv_at hl 0 rfl) ?_
      refine va_get (D := D) (ci := 2) (v := .ref (sa 8)) (C := RX3) (T := TX3) (N := 13) hx hb hts hin3 hown hK hP 0 rfl rfl 8 (by decide) fl42 (fun _ h9 => h9) rfl dX3_keepBorn_18 ?_
      refine va_get (D := D) (ci := 1) (v := .int (nI X.length)) (C := RX2) (T := TX2) (N := 2) hx hb hts hin2 hown hK hP 6 rfl rfl 1 (by decide) fl65 (fun _ h9 => h9) rfl dX3_keepBorn_21 ?_
      refine wk_icmp_ge (tgt := 49) hx hb (by omega) (by omega) dX3_keepBorn_24 (by decide) (fun c24 => ?_) (fun c24 => ?_)
      · skip
        refine lv_aload_n hx hb dX3_keepBorn_49 rfl (lv_at hl 0 rfl) ?_
        refine va_get (D := D) (ci := 2) (v := .ref (sa 11)) (C := RX3) (T := TX3) (N := 13) hx hb hts hin3 hown hK hP 0 rfl rfl 11 (by decide) fl52 (fun _ h9 => h9) rfl dX3_keepBorn_50 ?_
        refine lv_iload_n hx hb dX3_keepBorn_53 rfl (lv_at hl 1 rfl) ?_
        refine lv_aload_n hx hb dX3_keepBorn_54 rfl (lv_at hl 0 rfl) ?_
        refine va_get (D := D) (ci := 2) (v := .ref (sa 10)) (C := RX3) (T := TX3) (N := 13) hx hb hts hin3 hown hK hP 0 rfl rfl 10 (by decide) fl49 (fun _ h9 => h9) rfl dX3_keepBorn_55 ?_
        refine va_get (D := D) (ci := 1) (v := .int (nI Y.length)) (C := RX2) (T := TX2) (N := 2) hx hb hts hin2 hown hK hP 8 rfl rfl 1 (by decide) fl65 (fun _ h9 => h9) rfl dX3_keepBorn_58 ?_
        refine wk_iast hx hb hK hP hD hS 5 0 rfl rfl (i := ii) (by omega) (by omega) dX3_keepBorn_61 (fun H locs hP hD hS => ?_)
        have hP : va_P D vwCl (sw cI cJ sa e0 e1 e4 e5 (nI old) (nI Bn.length) c2 c3 t6 t7 (upd c11 ii (nI Y.length)) (nI X.length) q8 l8 p8 (nI Y.length) q lq f) H := hP
        have hD : va_D A (sw cI cJ sa e0 e1 e4 e5 (nI old) (nI Bn.length) c2 c3 t6 t7 (upd c11 ii (nI Y.length)) (nI X.length) q8 l8 p8 (nI Y.length) q lq f) := hD
        have hjX : j = X.length - old := by omega
        have hYe : Y = Bn ++ X.drop old := by rw [hY, List.take_of_length_le (by rw [List.length_drop]; omega)]
        have hle9 : lq = apL Bn.length l10 (X.length - old) := by rw [hlq, hjX]
        exact hret (q, f) _ _ _ _ _ _ (by rw [← hYe]; exact hf) (by rw [← hYe, ← hle9]; exact hP) (by rw [← hYe, ← hle9]; exact hD) dX3_keepBorn_62 hS (by rw [hle9]; exact Nat.le_refl _) (by rw [hle9]; exact Nat.le_refl _)
      · skip
        obtain ⟨y, hy9⟩ : ∃ y, X[old + j]? = some y := ⟨_, List.getElem?_eq_getElem (by omega)⟩
        have hd2 : dbl lq (grL Y.length lq) := dbl_gr hd0
        have hd3 : dbl (grL Y.length lq) (apL Bn.length l10 (X.length - old)) := by
          have h9 := apL_mono (k := Bn.length) h0 (j + 1) (X.length - old - (j + 1))
          rw [show j + 1 + (X.length - old - (j + 1)) = X.length - old by omega] at h9
          have h8 : apL Bn.length l10 (j + 1) = grL Y.length lq := by rw [hYl, hlq]; rfl
          rw [h8] at h9; exact h9
        refine lv_aload_n hx hb dX3_keepBorn_27 rfl (lv_at hl 0 rfl) ?_
        refine va_get (D := D) (ci := 2) (v := .ref (sa 10)) (C := RX3) (T := TX3) (N := 13) hx hb hts hin3 hown hK hP 0 rfl rfl 10 (by decide) fl49 (fun _ h9 => h9) rfl dX3_keepBorn_28 ?_
        refine lv_aload_n hx hb dX3_keepBorn_31 rfl (lv_at hl 0 rfl) ?_
        refine va_get (D := D) (ci := 2) (v := .ref (sa 8)) (C := RX3) (T := TX3) (N := 13) hx hb hts hin3 hown hK hP 0 rfl rfl 8 (by decide) fl42 (fun _ h9 => h9) rfl dX3_keepBorn_32 ?_
        refine va_get (D := D) (ci := 1) (v := .ref q8) (C := RX2) (T := TX2) (N := 2) hx hb hts hin2 hown hK hP 6 rfl rfl 0 (by decide) fl106 (fun _ h9 => h9) rfl dX3_keepBorn_35 ?_
        refine lv_iload_n hx hb dX3_keepBorn_38 rfl (lv_at hl 2 rfl) ?_
        refine wk_lald hx hb hK hP 7 1 rfl rfl (i := old + j) (by omega) (by omega) dX3_keepBorn_39 ?_
        rw [show (p8 (old + j)) = y from (hX (old + j) y hy9)]
        refine wk_VvW (As := [.long y]) (rest := []) (wr := [((sa 0), .inr (2, [.int e0, .int e1, .ref (sa 2), .ref (sa 3), .long e4, .int e5, .ref (sa 6), .ref (sa 7), .ref (sa 8), .int (nI old), .ref (sa 10), .ref (sa 11), .int (nI Bn.length)])), ((sa 2), .inl (cI, 61, .inl c2)), ((sa 3), .inl (cI, 60, .inl c3)), ((sa 6), .inl (cJ, 6, .inr (.inl t6))), ((sa 7), .inl (cJ, 6, .inr (.inl t7))), ((sa 11), .inl (cI, 61, .inl c11)), ((sa 8), .inr (1, [.ref q8, .int (nI X.length)])), (q8, .inl (cJ, l8, .inr (.inl p8)))]) ⟨hx, hb, hml, hown, hts⟩ (c_X2_add l D cI cJ cZ cA H.size (sa 10) q lq f Y y hf (by omega) (by omega) hd0) (cwV 1 hts gX3_keepBorn_X2_add rfl rfl rfl (by decide +kernel) ⟨Nat.le_of_ble_eq_true rfl, Nat.le_of_ble_eq_true rfl⟩) hK hP hD hA [8, 9] rfl (by decide) [0, 1, 2, 3, 4, 5, 6, 7] rfl (by decide) (by decide) 0 1 rfl rfl hS rfl hl.1 rfl (Nat.le_of_ble_eq_true rfl) dX3_keepBorn_40 ⟨by show dC9 lq l10 + dC9 _ _ ≤ dC9 _ _; rw [dC_add hd1 hd2]; exact dC_le (dbl_t hd1 hd2) hd3, by show dS9 lq l10 + dS9 _ _ ≤ dS9 _ _; rw [dS_add hd1 hd2]; exact dS_le (dbl_t hd1 hd2) hd3⟩ (fun u9 H locs hu hP hD hS => ?_)
        have hP : va_P D vwCl (sw cI cJ sa e0 e1 e4 e5 (nI old) (nI Bn.length) c2 c3 t6 t7 c11 (nI X.length) q8 l8 p8 (nI (Y.length + 1)) u9.1 (grL Y.length lq) u9.2) H := hP
        have hD : va_D A (sw cI cJ sa e0 e1 e4 e5 (nI old) (nI Bn.length) c2 c3 t6 t7 c11 (nI X.length) q8 l8 p8 (nI (Y.length + 1)) u9.1 (grL Y.length lq) u9.2) := hD
        refine lv_iinc (v := (nI ((old + j) + 1))) (lv' := [(2, .int (nI ((old + j) + 1))), (0, .ref (sa 0)), (1, .int (nI ii))]) hx hb dX3_keepBorn_43 hl (k := 2) rfl (by exact nI_1 _) (by decide) rfl (fun ls hl => ?_)
        refine lv_goto (tgt := 16) hx hb dX3_keepBorn_46 (by decide) ?_
        have hP : va_P D vwCl (sw cI cJ sa e0 e1 e4 e5 (nI old) (nI Bn.length) c2 c3 t6 t7 c11 (nI X.length) q8 l8 p8 (nI (Y ++ [y]).length) u9.1 (grL Y.length lq) u9.2) H := by rw [List.length_append]; exact hP
        have hD : va_D A (sw cI cJ sa e0 e1 e4 e5 (nI old) (nI Bn.length) c2 c3 t6 t7 c11 (nI X.length) q8 l8 p8 (nI (Y ++ [y]).length) u9.1 (grL Y.length lq) u9.2) := by rw [List.length_append]; exact hD
        refine W.widen (k := dC9 (grL Y.length lq) l10) (n := dS9 (grL Y.length lq) l10) (Nat.le_of_eq (dC_add hd1 hd2)) (Nat.le_of_eq (dS_add hd1 hd2)) ?_
        exact ih16 (j + 1) (Y ++ [y]) u9.1 (grL Y.length lq) u9.2 (by omega) (by omega) (by rw [hY, List.append_assoc, take_s (X := X.drop old) (k := j) (x := y) (by rw [List.getElem?_drop]; exact hy9)]) hu (by rw [hlq, hYl]; rfl) _ _ _ hP hD hS (lv_sub hl [1, 2, 0] rfl)
  refine W.widen (k := dC9 l10 l10) (n := dS9 l10 l10) (Nat.zero_le _) (Nat.zero_le _) ?_
  exact lp16 _ 0 Bn q10 l10 p10 (Nat.lt_succ_self _) (by omega) (by simp) hB rfl _ _ _ hP hD hS (lv_sub hl [1, 2, 0] rfl)

set_option maxHeartbeats 4000000 in
set_option maxRecDepth 100000 in
theorem c_X3_stepBack (l : Launch) (D : va_G) (cI cJ cZ cA : ClassId) (sa : Nat → Nat) (e0 e1 e9 : Int32) (e4 : Int64) (c2 c3 c11 : Nat → Int32) (t6 t7 p8 p10 : Nat → Int64) (q8 l8 q10 l10 : Nat) (sz tr bf : Nat) (X Bn : List Int64) (htr : tr ≤ 6) (hX : listV p8 X) (hXl : X.length ≤ l8) (hX2 : X.length ≤ 200) (hl8 : l8 ≤ 2 * 1450) (h0 : 0 < l8) (hB : listV p10 Bn) (hBl : Bn.length ≤ l10) (hl10 : l10 ≤ 24600) (hbf : bf ≤ Bn.length) (hb2 : Bn.length ≤ bf + 200) : Met l yX3_stepBack wsX3_stepBack ({ frames := 4, cells := dC9 (sbL tr t6 t7 (Bn.drop bf) ((X, X.length, l8) : Sg)).2.2 l8, slots := dS9 (sbL tr t6 t7 (Bn.drop bf) ((X, X.length, l8) : Sg)).2.2 l8, locals := 109 } : Room) (wr_P D (tysC cI cJ cZ cA) [.ref (sa 0)] (sw cI cJ sa e0 e1 e4 (nI tr) e9 (nI bf) c2 c3 t6 t7 c11 (nI X.length) q8 l8 p8 (nI Bn.length) q10 l10 p10) sz) (wr_Qv D (S := Nat × (Nat → Int64)) (sw cI cJ sa e0 e1 e4 (nI tr) e9 (nI bf) c2 c3 t6 t7 c11 (nI X.length) q8 l8 p8 (nI Bn.length) q10 l10 p10) sz (fun u => listV u.2 (sbL tr t6 t7 (Bn.drop bf) ((X, X.length, l8) : Sg)).1) (fun u => (sw cI cJ sa e0 e1 e4 (nI tr) (nI ((sbL tr t6 t7 (Bn.drop bf) ((X, X.length, l8) : Sg)).2.1)) (nI bf) c2 c3 t6 t7 c11 (nI ((sbL tr t6 t7 (Bn.drop bf) ((X, X.length, l8) : Sg)).1.length)) u.1 ((sbL tr t6 t7 (Bn.drop bf) ((X, X.length, l8) : Sg)).2.2) u.2 (nI Bn.length) q10 l10 p10))) (dC9 (sbL tr t6 t7 (Bn.drop bf) ((X, X.length, l8) : Sg)).2.2 l8) (dS9 (sbL tr t6 t7 (Bn.drop bf) ((X, X.length, l8) : Sg)).2.2 l8) (va_A (sw cI cJ sa e0 e1 e4 (nI tr) e9 (nI bf) c2 c3 t6 t7 c11 (nI X.length) q8 l8 p8 (nI Bn.length) q10 l10 p10) sz) := by
  refine met_wv (cc := cX3_stepBack) (maxL := 3) (by decide) rfl (Nat.le_of_ble_eq_true rfl) ?_
  intro p e s m args below meth c Q A hx hb hml hown hts hP hK hD hA hret ls hl
  obtain ⟨H, hH9⟩ : ∃ H : Heap, H = s.heap := ⟨_, rfl⟩
  have hP : va_P D vwCl (sw cI cJ sa e0 e1 e4 (nI tr) e9 (nI bf) c2 c3 t6 t7 c11 (nI X.length) q8 l8 p8 (nI Bn.length) q10 l10 p10) H := by rw [hH9]; exact hP
  have hS : va_S A s.heap H [] := by rw [hH9]; exact va_S.rf
  rw [← hH9]
  have hown : s.vm.findClass RX3 = some m.cls := hown
  have hin3 : ∀ w ∈ wsX30, w ∈ wsX3_stepBack := by decide +kernel
  have hin2 : ∀ w ∈ wsX20, w ∈ wsX3_stepBack := by decide +kernel
  have fl42 := hts (.fieldLink RX3 42 "CoverRounds$Search" "least" "LCoverRounds$Pile;") (by decide +kernel)
  have fl65 := hts (.fieldLink RX3 65 "CoverRounds$Pile" "size" "I") (by decide +kernel)
  have fl46 := hts (.fieldLink RX3 46 "CoverRounds$Search" "oldCount" "I") (by decide +kernel)
  have fl55 := hts (.fieldLink RX3 55 "CoverRounds$Search" "bornFrom" "I") (by decide +kernel)
  have fl49 := hts (.fieldLink RX3 49 "CoverRounds$Search" "born" "LCoverRounds$Pile;") (by decide +kernel)
  have fl29 := hts (.fieldLink RX3 29 "CoverRounds$Search" "transitions" "I") (by decide +kernel)
  have fl106 := hts (.fieldLink RX3 106 "CoverRounds$Pile" "rows" "[J") (by decide +kernel)
  have fl36 := hts (.fieldLink RX3 36 "CoverRounds$Search" "gives" "[J") (by decide +kernel)
  have fl32 := hts (.fieldLink RX3 32 "CoverRounds$Search" "takes" "[J") (by decide +kernel)
  have hl : lv_has ls 3 [(0, .ref (sa 0))] := hl
  refine lv_aload_n hx hb dX3_stepBack_0 rfl (lv_at hl 0 rfl) ?_
  refine lv_aload_n hx hb dX3_stepBack_1 rfl (lv_at hl 0 rfl) ?_
  refine va_get (D := D) (ci := 2) (v := .ref (sa 8)) (C := RX3) (T := TX3) (N := 13) hx hb hts hin3 hown hK hP 0 rfl rfl 8 (by decide) fl42 (fun _ h9 => h9) rfl dX3_stepBack_2 ?_
  refine va_get (D := D) (ci := 1) (v := .int (nI X.length)) (C := RX2) (T := TX2) (N := 2) hx hb hts hin2 hown hK hP 6 rfl rfl 1 (by decide) fl65 (fun _ h9 => h9) rfl dX3_stepBack_5 ?_
  refine va_put (D := D) (ci := 2) (v := .int (nI X.length)) (ty := .int) (C := RX3) (T := TX3) (N := 13) hx hb hts hin3 tyX3 tyX3_ok nmX3 hown hK hP hD hS 0 rfl rfl 9 (by decide) fl46 (fun _ h9 => h9) rfl (by decide +kernel) rfl rfl (Nat.le_of_ble_eq_true rfl) dX3_stepBack_8 (fun H locs hP hD hS => ?_)
  have hP : va_P D vwCl (sw cI cJ sa e0 e1 e4 (nI tr) (nI X.length) (nI bf) c2 c3 t6 t7 c11 (nI X.length) q8 l8 p8 (nI Bn.length) q10 l10 p10) H := hP
  have hD : va_D A (sw cI cJ sa e0 e1 e4 (nI tr) (nI X.length) (nI bf) c2 c3 t6 t7 c11 (nI X.length) q8 l8 p8 (nI Bn.length) q10 l10 p10) := hD
  refine lv_aload_n hx hb dX3_stepBack_11 rfl (lv_at hl 0 rfl) ?_
  refine va_get (D := D) (ci := 2) (v := .int (nI bf)) (C := RX3) (T := TX3) (N := 13) hx hb hts hin3 hown hK hP 0 rfl rfl 12 (by decide) fl55 (fun _ h9 => h9) rfl dX3_stepBack_12 ?_
  refine lv_istore_n (lv' := [(1, .int (nI bf)), (0, .ref (sa 0))]) hx hb dX3_stepBack_15 rfl hl (by decide) rfl (fun ls hl => ?_)
  have lp16 : ∀ (n9 : Nat) (j : Nat) (Z : Sg) (q : Nat) (f : Nat → Int64), Bn.length - (bf + j) < n9 → bf + j ≤ Bn.length → Z = sbL tr t6 t7 ((Bn.drop bf).take j) ((X, X.length, l8) : Sg) → listV f Z.1 → ∀ (H : Heap) (locs : List Loc) (ls : Array Slot), va_P D vwCl (sw cI cJ sa e0 e1 e4 (nI tr) (nI Z.2.1) (nI bf) c2 c3 t6 t7 c11 (nI Z.1.length) q Z.2.2 f (nI Bn.length) q10 l10 p10) H → va_D A (sw cI cJ sa e0 e1 e4 (nI tr) (nI Z.2.1) (nI bf) c2 c3 t6 t7 c11 (nI Z.1.length) q Z.2.2 f (nI Bn.length) q10 l10 p10) → va_S A s.heap H locs → lv_has ls 3 [(0, .ref (sa 0)), (1, .int (nI (bf + j)))] → W p l e ({ frames := 4, cells := dC9 (sbL tr t6 t7 (Bn.drop bf) ((X, X.length, l8) : Sg)).2.2 l8, slots := dS9 (sbL tr t6 t7 (Bn.drop bf) ((X, X.length, l8) : Sg)).2.2 l8, locals := 109 } : Room) s m args below meth c H locs (dC9 Z.2.2 l8) (dS9 Z.2.2 l8) Q (F0 m 16 ls []) := by
    intro n9
    induction n9 with
    | zero => intro j Z q f hm16; exact absurd hm16 (Nat.not_lt_zero _)
    | succ n9 ih16 =>
      intro j Z q f hm16 hj hZ hf H locs ls hP hD hS hl
      have hdl : (Bn.drop bf).length = Bn.length - bf := List.length_drop
      have htl : ((Bn.drop bf).take j).length = j := by rw [List.length_take]; omega
      have hok := okS_L (tr := tr) (s := ((X, X.length, l8) : Sg)) (b := 200) t6 t7 htr ⟨hX2, hXl, hl8, Nat.le_refl _, h0⟩ ((Bn.drop bf).take j) (by omega)
      rw [← hZ, htl] at hok
      have hmo := sbL_mono (tr := tr) (s := ((X, X.length, l8) : Sg)) (b := 200) t6 t7 htr ⟨hX2, hXl, hl8, Nat.le_refl _, h0⟩ (Bn.drop bf) (by omega) j
      rw [← hZ] at hmo
      refine lv_iload_n hx hb dX3_stepBack_16 rfl (lv_at hl 1 rfl) ?_
      refine lv_aload_n hx hb dX3_stepBack_17 rfl (lv_at hl 0 rfl) ?_
      refine va_get (D := D) (ci := 2) (v := .ref (sa 10)) (C := RX3) (T := TX3) (N := 13) hx hb hts hin3 hown hK hP 0 rfl rfl 10 (by decide) fl49 (fun _ h9 => h9) rfl dX3_stepBack_18 ?_
      refine va_get (D := D) (ci := 1) (v := .int (nI Bn.length)) (C := RX2) (T := TX2) (N := 2) hx hb hts hin2 hown hK hP 8 rfl rfl 1 (by decide) fl65 (fun _ h9 => h9) rfl dX3_stepBack_21 ?_
      refine wk_icmp_ge (tgt := 78) hx hb (by omega) (by omega) dX3_stepBack_24 (by decide) (fun c24 => ?_) (fun c24 => ?_)
      · skip
        have hjB : (Bn.drop bf).take j = (Bn.drop bf) := List.take_of_length_le (by omega)
        rw [hjB] at hZ
        subst hZ
        exact hret (q, f) _ _ _ _ _ _ hf hP hD dX3_stepBack_78 hS (Nat.le_refl _) (Nat.le_refl _)
      · skip
        obtain ⟨y, hy9⟩ : ∃ y, Bn[bf + j]? = some y := ⟨_, List.getElem?_eq_getElem (by omega)⟩
        have hy8 : (Bn.drop bf)[j]? = some y := by rw [List.getElem?_drop]; exact hy9
        have hmo2 := sbL_mono (tr := tr) (s := ((X, X.length, l8) : Sg)) (b := 200) t6 t7 htr ⟨hX2, hXl, hl8, Nat.le_refl _, h0⟩ (Bn.drop bf) (by omega) (j + 1)
        rw [sbL_s hy8, ← hZ] at hmo2
        refine lv_iconst (v := nI 0) hx hb dX3_stepBack_27 (by decide) ?_
        refine lv_istore_n (lv' := [(2, .int (nI 0)), (0, .ref (sa 0)), (1, .int (nI (bf + j)))]) hx hb dX3_stepBack_28 rfl hl (by decide) rfl (fun ls hl => ?_)
        have lp29 : ∀ (n9 : Nat) (t : Nat) (U : Sg) (q2 : Nat) (f2 : Nat → Int64), tr - t < n9 → t ≤ tr → U = sbI t6 t7 y t Z → listV f2 U.1 → ∀ (H : Heap) (locs : List Loc) (ls : Array Slot), va_P D vwCl (sw cI cJ sa e0 e1 e4 (nI tr) (nI U.2.1) (nI bf) c2 c3 t6 t7 c11 (nI U.1.length) q2 U.2.2 f2 (nI Bn.length) q10 l10 p10) H → va_D A (sw cI cJ sa e0 e1 e4 (nI tr) (nI U.2.1) (nI bf) c2 c3 t6 t7 c11 (nI U.1.length) q2 U.2.2 f2 (nI Bn.length) q10 l10 p10) → va_S A s.heap H locs → lv_has ls 3 [(0, .ref (sa 0)), (1, .int (nI (bf + j))), (2, .int (nI t))] → W p l e ({ frames := 4, cells := dC9 (sbL tr t6 t7 (Bn.drop bf) ((X, X.length, l8) : Sg)).2.2 l8, slots := dS9 (sbL tr t6 t7 (Bn.drop bf) ((X, X.length, l8) : Sg)).2.2 l8, locals := 109 } : Room) s m args below meth c H locs (dC9 U.2.2 l8) (dS9 U.2.2 l8) Q (F0 m 29 ls []) := by
          intro n9
          induction n9 with
          | zero => intro t U q2 f2 hm29; exact absurd hm29 (Nat.not_lt_zero _)
          | succ n9 ih29 =>
            intro t U q2 f2 hm29 ht hU hf2 H locs ls hP hD hS hl
            have hok2 := okS_I t6 t7 y hok.1 t (by omega)
            rw [← hU] at hok2
            have hd1 : dbl l8 U.2.2 := dbl_t hok.2 hok2.2
            obtain ⟨hu1, hu2, hu3, hu4, hu5⟩ := id hok2.1
            refine lv_iload_n hx hb dX3_stepBack_29 rfl (lv_at hl 2 rfl) ?_
            refine lv_aload_n hx hb dX3_stepBack_30 rfl (lv_at hl 0 rfl) ?_
            refine va_get (D := D) (ci := 2) (v := .int (nI tr)) (C := RX3) (T := TX3) (N := 13) hx hb hts hin3 hown hK hP 0 rfl rfl 5 (by decide) fl29 (fun _ h9 => h9) rfl dX3_stepBack_31 ?_
            refine wk_icmp_ge (tgt := 72) hx hb (by omega) (by omega) dX3_stepBack_34 (by decide) (fun c34 => ?_) (fun c34 => ?_)
            · skip
              refine lv_iinc (v := (nI ((bf + j) + 1))) (lv' := [(1, .int (nI ((bf + j) + 1))), (0, .ref (sa 0)), (2, .int (nI t))]) hx hb dX3_stepBack_72 hl (k := 1) rfl (by exact nI_1 _) (by decide) rfl (fun ls hl => ?_)
              refine lv_goto (tgt := 16) hx hb dX3_stepBack_75 (by decide) ?_
              have htt : t = tr := by omega
              rw [htt] at hU
              exact ih16 (j + 1) U q2 f2 (by omega) (by omega) (by rw [sbL_s hy8, ← hZ]; exact hU) hf2 _ _ _ hP hD hS (lv_sub hl [1, 0] rfl)
            · skip
              have hd2 : dbl U.2.2 (adL U.1 U.2.2 (lssR y (t7 t) + t6 t)) := (okS_s hok2.1 (by omega) _).2
              have hd3 := sbI_mono t6 t7 y hok.1 (t + 1) (tr - (t + 1)) (by omega)
              rw [show t + 1 + (tr - (t + 1)) = tr by omega, sbI_s, ← hU] at hd3
              have hd4 : dbl (adL U.1 U.2.2 (lssR y (t7 t) + t6 t)) (sbL tr t6 t7 (Bn.drop bf) ((X, X.length, l8) : Sg)).2.2 := dbl_t hd3 hmo2
              have hd5 : dbl U.2.2 (sbL tr t6 t7 (Bn.drop bf) ((X, X.length, l8) : Sg)).2.2 := dbl_t hd2 hd4
              refine lv_aload_n hx hb dX3_stepBack_37 rfl (lv_at hl 0 rfl) ?_
              refine lv_aload_n hx hb dX3_stepBack_38 rfl (lv_at hl 0 rfl) ?_
              refine va_get (D := D) (ci := 2) (v := .ref (sa 10)) (C := RX3) (T := TX3) (N := 13) hx hb hts hin3 hown hK hP 0 rfl rfl 10 (by decide) fl49 (fun _ h9 => h9) rfl dX3_stepBack_39 ?_
              refine va_get (D := D) (ci := 1) (v := .ref q10) (C := RX2) (T := TX2) (N := 2) hx hb hts hin2 hown hK hP 8 rfl rfl 0 (by decide) fl106 (fun _ h9 => h9) rfl dX3_stepBack_42 ?_
              refine lv_iload_n hx hb dX3_stepBack_45 rfl (lv_at hl 1 rfl) ?_
              refine wk_lald hx hb hK hP 9 1 rfl rfl (i := bf + j) (by omega) (by omega) dX3_stepBack_46 ?_
              rw [show (p10 (bf + j)) = y from (hB (bf + j) y hy9)]
              refine lv_aload_n hx hb dX3_stepBack_47 rfl (lv_at hl 0 rfl) ?_
              refine va_get (D := D) (ci := 2) (v := .ref (sa 7)) (C := RX3) (T := TX3) (N := 13) hx hb hts hin3 hown hK hP 0 rfl rfl 7 (by decide) fl36 (fun _ h9 => h9) rfl dX3_stepBack_48 ?_
              refine lv_iload_n hx hb dX3_stepBack_51 rfl (lv_at hl 2 rfl) ?_
              refine wk_lald hx hb hK hP 4 1 rfl rfl (i := t) (by omega) (by omega) dX3_stepBack_52 ?_
              refine wk_Sl (As := [.long y, .long (t7 t)]) (rest := [.ref (sa 0)]) ⟨hx, hb, hml, hown, hts⟩ (c_X1_lessened l D cI cJ cZ cA y (t7 t)) (va_cwS 2 hts gX3_stepBack_X1_lessened rfl rfl rfl (by decide +kernel) ⟨Nat.le_of_ble_eq_true rfl, Nat.le_of_ble_eq_true rfl⟩) hK hP [] rfl hS rfl hl.1 rfl (Nat.le_of_ble_eq_true rfl) dX3_stepBack_53 ⟨by show dC9 U.2.2 l8 ≤ dC9 _ _; exact dC_le hd1 hd5, by show dS9 U.2.2 l8 ≤ dS9 _ _; exact dS_le hd1 hd5⟩ (fun H locs hP hS => ?_)
              refine lv_aload_n hx hb dX3_stepBack_56 rfl (lv_at hl 0 rfl) ?_
              refine va_get (D := D) (ci := 2) (v := .ref (sa 6)) (C := RX3) (T := TX3) (N := 13) hx hb hts hin3 hown hK hP 0 rfl rfl 6 (by decide) fl32 (fun _ h9 => h9) rfl dX3_stepBack_57 ?_
              refine lv_iload_n hx hb dX3_stepBack_60 rfl (lv_at hl 2 rfl) ?_
              refine wk_lald hx hb hK hP 3 1 rfl rfl (i := t) (by omega) (by omega) dX3_stepBack_61 ?_
              refine lv_ladd hx hb dX3_stepBack_62 ?_
              refine wk_VvW (As := [.long ((lssR y (t7 t)) + (t6 t))]) (rest := []) (wr := []) ⟨hx, hb, hml, hown, hts⟩ (c_X3_addToLeast l D cI cJ cZ cA sa e0 e1 (nI tr) (nI bf) (nI Bn.length) e4 c2 c3 c11 t6 t7 f2 p10 q2 U.2.2 q10 l10 H.size U.2.1 U.1 ((lssR y (t7 t)) + (t6 t)) hf2 hu2 (by omega) hu5 hu4) (cwV 1 hts gX3_stepBack_X3_addToLeast rfl rfl rfl (by decide +kernel) ⟨Nat.le_of_ble_eq_true rfl, Nat.le_of_ble_eq_true rfl⟩) hK hP hD hA [0, 1, 2, 3, 4, 5, 6, 7, 8, 9] rfl (by decide) [] rfl (by decide) (by decide) 0 2 rfl rfl hS rfl hl.1 rfl (Nat.le_of_ble_eq_true rfl) dX3_stepBack_63 ⟨by show dC9 U.2.2 l8 + dC9 _ _ ≤ dC9 _ _; rw [dC_add hd1 hd2]; exact dC_le (dbl_t hd1 hd2) hd4, by show dS9 U.2.2 l8 + dS9 _ _ ≤ dS9 _ _; rw [dS_add hd1 hd2]; exact dS_le (dbl_t hd1 hd2) hd4⟩ (fun u9 H locs hu hP hD hS => ?_)
              have hP : va_P D vwCl (sw cI cJ sa e0 e1 e4 (nI tr) (nI (adO U.1 U.2.1 ((lssR y (t7 t)) + (t6 t)))) (nI bf) c2 c3 t6 t7 c11 (nI ((adX U.1 ((lssR y (t7 t)) + (t6 t))).length)) u9.1 (adL U.1 U.2.2 ((lssR y (t7 t)) + (t6 t))) u9.2 (nI Bn.length) q10 l10 p10) H := hP
              have hD : va_D A (sw cI cJ sa e0 e1 e4 (nI tr) (nI (adO U.1 U.2.1 ((lssR y (t7 t)) + (t6 t)))) (nI bf) c2 c3 t6 t7 c11 (nI ((adX U.1 ((lssR y (t7 t)) + (t6 t))).length)) u9.1 (adL U.1 U.2.2 ((lssR y (t7 t)) + (t6 t))) u9.2 (nI Bn.length) q10 l10 p10) := hD
              refine lv_iinc (v := (nI (t + 1))) (lv' := [(2, .int (nI (t + 1))), (0, .ref (sa 0)), (1, .int (nI (bf + j)))]) hx hb dX3_stepBack_66 hl (k := 2) rfl (by exact nI_1 _) (by decide) rfl (fun ls hl => ?_)
              refine lv_goto (tgt := 29) hx hb dX3_stepBack_69 (by decide) ?_
              refine W.widen (k := dC9 (adS U (lssR y (t7 t) + t6 t)).2.2 l8) (n := dS9 (adS U (lssR y (t7 t) + t6 t)).2.2 l8) (Nat.le_of_eq (dC_add hd1 hd2)) (Nat.le_of_eq (dS_add hd1 hd2)) ?_
              exact ih29 (t + 1) (adS U (lssR y (t7 t) + t6 t)) u9.1 u9.2 (by omega) (by omega) (by rw [sbI_s, ← hU]) hu _ _ _ hP hD hS (lv_sub hl [1, 2, 0] rfl)
        exact lp29 _ 0 Z q f (Nat.lt_succ_self _) (by omega) rfl hf _ _ _ hP hD hS (lv_sub hl [1, 2, 0] rfl)
  refine W.widen (k := dC9 ((X, X.length, l8) : Sg).2.2 l8) (n := dS9 ((X, X.length, l8) : Sg).2.2 l8) (Nat.zero_le _) (Nat.zero_le _) ?_
  exact lp16 _ 0 ((X, X.length, l8) : Sg) q8 p8 (Nat.lt_succ_self _) (by omega) rfl hX _ _ _ hP hD hS (lv_sub hl [1, 0] rfl)

set_option maxHeartbeats 4000000 in
set_option maxRecDepth 100000 in
theorem c_X3_findRow (l : Launch) (D : va_G) (cI cJ cZ cA : ClassId) (sa : Nat → Nat) (e0 e9 e12 n8 : Int32) (e4 : Int64) (c2 c3 c11 : Nat → Int32) (t6 t7 p8 p10 : Nat → Int64) (q8 l8 q10 l10 : Nat) (sz la tr : Nat) (Bn : List Int64) (up gt : Nat → Nat) (hla : la ≤ 60) (htr : tr ≤ 6) (hB : listV p10 Bn) (hBl : Bn.length ≤ l10) (hl10 : l10 ≤ 24600) (hup : ∀ j, j < la → c11 j = nI (up j) ∧ up j ≤ 24600) (hg : ∀ k, k < la → gt k < tr ∧ leadC t6 t7 (cAt e4 t6 t7 gt k) (Bn.take (up (la - 1 - k))) (gt k) = true ∧ ∀ t, t < gt k → leadC t6 t7 (cAt e4 t6 t7 gt k) (Bn.take (up (la - 1 - k))) t = false) : Met l yX3_findRow wsX3_findRow ({ frames := 2, cells := 0, slots := 0, locals := 47 } : Room) (wr_P D (tysC cI cJ cZ cA) [.ref (sa 0)] (sw cI cJ sa e0 (nI la) e4 (nI tr) e9 e12 c2 c3 t6 t7 c11 n8 q8 l8 p8 (nI Bn.length) q10 l10 p10) sz) (wr_Qv D (S := Nat → Int32) (sw cI cJ sa e0 (nI la) e4 (nI tr) e9 e12 c2 c3 t6 t7 c11 n8 q8 l8 p8 (nI Bn.length) q10 l10 p10) sz (fun u => ∀ j, j < la → u j = nI (gt j)) (fun u => (sw cI cJ sa e0 (nI la) e4 (nI tr) e9 e12 c2 u t6 t7 c11 n8 q8 l8 p8 (nI Bn.length) q10 l10 p10))) 0 0 (va_A (sw cI cJ sa e0 (nI la) e4 (nI tr) e9 e12 c2 c3 t6 t7 c11 n8 q8 l8 p8 (nI Bn.length) q10 l10 p10) sz) := by
  refine met_wv (cc := cX3_findRow) (maxL := 8) (by decide) rfl (Nat.le_of_ble_eq_true rfl) ?_
  intro p e s m args below meth c Q A hx hb hml hown hts hP hK hD hA hret ls hl
  obtain ⟨H, hH9⟩ : ∃ H : Heap, H = s.heap := ⟨_, rfl⟩
  have hP : va_P D vwCl (sw cI cJ sa e0 (nI la) e4 (nI tr) e9 e12 c2 c3 t6 t7 c11 n8 q8 l8 p8 (nI Bn.length) q10 l10 p10) H := by rw [hH9]; exact hP
  have hS : va_S A s.heap H [] := by rw [hH9]; exact va_S.rf
  rw [← hH9]
  have hown : s.vm.findClass RX3 = some m.cls := hown
  have hin3 : ∀ w ∈ wsX30, w ∈ wsX3_findRow := by decide +kernel
  have hin2 : ∀ w ∈ wsX20, w ∈ wsX3_findRow := by decide +kernel
  have fl25 := hts (.fieldLink RX3 25 "CoverRounds$Search" "first" "J") (by decide +kernel)
  have fl15 := hts (.fieldLink RX3 15 "CoverRounds$Search" "last" "I") (by decide +kernel)
  have fl52 := hts (.fieldLink RX3 52 "CoverRounds$Search" "bornUpTo" "[I") (by decide +kernel)
  have fl29 := hts (.fieldLink RX3 29 "CoverRounds$Search" "transitions" "I") (by decide +kernel)
  have fl32 := hts (.fieldLink RX3 32 "CoverRounds$Search" "takes" "[J") (by decide +kernel)
  have fl36 := hts (.fieldLink RX3 36 "CoverRounds$Search" "gives" "[J") (by decide +kernel)
  have fl49 := hts (.fieldLink RX3 49 "CoverRounds$Search" "born" "LCoverRounds$Pile;") (by decide +kernel)
  have fl22 := hts (.fieldLink RX3 22 "CoverRounds$Search" "row" "[I") (by decide +kernel)
  have hl : lv_has ls 8 [(0, .ref (sa 0))] := hl
  refine lv_aload_n hx hb dX3_findRow_0 rfl (lv_at hl 0 rfl) ?_
  refine va_get (D := D) (ci := 2) (v := .long e4) (C := RX3) (T := TX3) (N := 13) hx hb hts hin3 hown hK hP 0 rfl rfl 4 (by decide) fl25 (fun _ h9 => h9) rfl dX3_findRow_1 ?_
  refine lv_lstore_n (lv' := [(1, .long e4), (0, .ref (sa 0))]) hx hb dX3_findRow_4 rfl hl (by decide) rfl (fun ls hl => ?_)
  refine lv_iconst (v := nI 0) hx hb dX3_findRow_5 (by decide) ?_
  refine lv_istore_n (lv' := [(3, .int (nI 0)), (1, .long e4), (0, .ref (sa 0))]) hx hb dX3_findRow_6 rfl hl (by decide) rfl (fun ls hl => ?_)
  have lp7 : ∀ (n9 : Nat) (k : Nat) (at9 : Int64) (f3 : Nat → Int32), la - k < n9 → k ≤ la → at9 = cAt e4 t6 t7 gt k → (∀ j, j < k → f3 j = nI (gt j)) → ∀ (H : Heap) (locs : List Loc) (ls : Array Slot), va_P D vwCl (sw cI cJ sa e0 (nI la) e4 (nI tr) e9 e12 c2 f3 t6 t7 c11 n8 q8 l8 p8 (nI Bn.length) q10 l10 p10) H → va_D A (sw cI cJ sa e0 (nI la) e4 (nI tr) e9 e12 c2 f3 t6 t7 c11 n8 q8 l8 p8 (nI Bn.length) q10 l10 p10) → va_S A s.heap H locs → lv_has ls 8 [(0, .ref (sa 0)), (1, .long at9), (3, .int (nI k))] → W p l e ({ frames := 2, cells := 0, slots := 0, locals := 47 } : Room) s m args below meth c H locs 0 0 Q (F0 m 7 ls []) := by
    intro n9
    induction n9 with
    | zero => intro k at9 f3 hm7; exact absurd hm7 (Nat.not_lt_zero _)
    | succ n9 ih7 =>
      intro k at9 f3 hm7 hk hat h3 H locs ls hP hD hS hl
      refine lv_iload_n hx hb dX3_findRow_7 rfl (lv_at hl 2 rfl) ?_
      refine lv_aload_n hx hb dX3_findRow_8 rfl (lv_at hl 0 rfl) ?_
      refine va_get (D := D) (ci := 2) (v := .int (nI la)) (C := RX3) (T := TX3) (N := 13) hx hb hts hin3 hown hK hP 0 rfl rfl 1 (by decide) fl15 (fun _ h9 => h9) rfl dX3_findRow_9 ?_
      refine wk_icmp_ge (tgt := 115) hx hb (by omega) (by omega) dX3_findRow_12 (by decide) (fun c12 => ?_) (fun c12 => ?_)
      · skip
        have hkl : k = la := by omega
        subst hkl
        exact hret f3 _ _ _ _ _ _ h3 hP hD dX3_findRow_115 hS (Nat.zero_le _) (Nat.zero_le _)
      · skip
        obtain ⟨hg1, hg2, hg3⟩ := hg k (by omega)
        have hupk := hup (la - 1 - k) (by omega)
        refine lv_aload_n hx hb dX3_findRow_15 rfl (lv_at hl 0 rfl) ?_
        refine va_get (D := D) (ci := 2) (v := .ref (sa 11)) (C := RX3) (T := TX3) (N := 13) hx hb hts hin3 hown hK hP 0 rfl rfl 11 (by decide) fl52 (fun _ h9 => h9) rfl dX3_findRow_16 ?_
        refine lv_aload_n hx hb dX3_findRow_19 rfl (lv_at hl 0 rfl) ?_
        refine va_get (D := D) (ci := 2) (v := .int (nI la)) (C := RX3) (T := TX3) (N := 13) hx hb hts hin3 hown hK hP 0 rfl rfl 1 (by decide) fl15 (fun _ h9 => h9) rfl dX3_findRow_20 ?_
        refine lv_iconst (v := nI 1) hx hb dX3_findRow_23 (by decide) ?_
        refine wk_isub hx hb (by omega) dX3_findRow_24 ?_
        refine lv_iload_n hx hb dX3_findRow_25 rfl (lv_at hl 2 rfl) ?_
        refine wk_isub hx hb (by omega) dX3_findRow_26 ?_
        refine wk_iald hx hb hK hP 5 0 rfl rfl (i := (la - 1) - k) (by omega) (by omega) dX3_findRow_27 ?_
        rw [show (c11 ((la - 1) - k)) = (nI (up (la - 1 - k))) from (hup _ (by omega)).1]
        refine lv_istore (lv' := [(4, .int (nI (up (la - 1 - k)))), (0, .ref (sa 0)), (1, .long at9), (3, .int (nI k))]) hx hb dX3_findRow_28 hl (by decide) rfl (fun ls hl => ?_)
        refine lv_iconst (v := nI 0) hx hb dX3_findRow_30 (by decide) ?_
        refine lv_istore (lv' := [(5, .int (nI 0)), (4, .int (nI (up (la - 1 - k)))), (0, .ref (sa 0)), (1, .long at9), (3, .int (nI k))]) hx hb dX3_findRow_31 hl (by decide) rfl (fun ls hl => ?_)
        have lp33 : ∀ (n9 : Nat) (t : Nat), gt k - t < n9 → t ≤ gt k → ∀ (H : Heap) (locs : List Loc) (ls : Array Slot), va_P D vwCl (sw cI cJ sa e0 (nI la) e4 (nI tr) e9 e12 c2 f3 t6 t7 c11 n8 q8 l8 p8 (nI Bn.length) q10 l10 p10) H → va_D A (sw cI cJ sa e0 (nI la) e4 (nI tr) e9 e12 c2 f3 t6 t7 c11 n8 q8 l8 p8 (nI Bn.length) q10 l10 p10) → va_S A s.heap H locs → lv_has ls 8 [(0, .ref (sa 0)), (1, .long at9), (3, .int (nI k)), (4, .int (nI (up (la - 1 - k)))), (5, .int (nI t))] → W p l e ({ frames := 2, cells := 0, slots := 0, locals := 47 } : Room) s m args below meth c H locs 0 0 Q (F0 m 33 ls []) := by
          intro n9
          induction n9 with
          | zero => intro t hm33; exact absurd hm33 (Nat.not_lt_zero _)
          | succ n9 ih33 =>
            intro t hm33 ht H locs ls hP hD hS hl
            refine lv_iload hx hb dX3_findRow_33 (lv_at hl 4 rfl) ?_
            refine lv_aload_n hx hb dX3_findRow_35 rfl (lv_at hl 0 rfl) ?_
            refine va_get (D := D) (ci := 2) (v := .int (nI tr)) (C := RX3) (T := TX3) (N := 13) hx hb hts hin3 hown hK hP 0 rfl rfl 5 (by decide) fl29 (fun _ h9 => h9) rfl dX3_findRow_36 ?_
            refine wk_icmp_ge (tgt := 109) hx hb (by omega) (by omega) dX3_findRow_39 (by decide) (fun c39 => ?_) (fun c39 => ?_)
            · skip
              exact absurd c39 (by omega)
            · skip
              refine lv_lload_n hx hb dX3_findRow_42 rfl (lv_at hl 1 rfl) ?_
              refine lv_aload_n hx hb dX3_findRow_43 rfl (lv_at hl 0 rfl) ?_
              refine va_get (D := D) (ci := 2) (v := .ref (sa 6)) (C := RX3) (T := TX3) (N := 13) hx hb hts hin3 hown hK hP 0 rfl rfl 6 (by decide) fl32 (fun _ h9 => h9) rfl dX3_findRow_44 ?_
              refine lv_iload hx hb dX3_findRow_47 (lv_at hl 4 rfl) ?_
              refine wk_lald hx hb hK hP 3 1 rfl rfl (i := t) (by omega) (by omega) dX3_findRow_49 ?_
              refine lv_lsub hx hb dX3_findRow_50 ?_
              refine lv_aload_n hx hb dX3_findRow_51 rfl (lv_at hl 0 rfl) ?_
              refine va_get (D := D) (ci := 2) (v := .ref (sa 7)) (C := RX3) (T := TX3) (N := 13) hx hb hts hin3 hown hK hP 0 rfl rfl 7 (by decide) fl36 (fun _ h9 => h9) rfl dX3_findRow_52 ?_
              refine lv_iload hx hb dX3_findRow_55 (lv_at hl 4 rfl) ?_
              refine wk_lald hx hb hK hP 4 1 rfl rfl (i := t) (by omega) (by omega) dX3_findRow_57 ?_
              refine lv_ladd hx hb dX3_findRow_58 ?_
              refine lv_lstore (lv' := [(6, .long ((at9 - (t6 t)) + (t7 t))), (0, .ref (sa 0)), (1, .long at9), (3, .int (nI k)), (4, .int (nI (up (la - 1 - k)))), (5, .int (nI t))]) hx hb dX3_findRow_59 hl (by decide) rfl (fun ls hl => ?_)
              refine lv_lload_n hx hb dX3_findRow_61 rfl (lv_at hl 2 rfl) ?_
              refine lv_aload_n hx hb dX3_findRow_62 rfl (lv_at hl 1 rfl) ?_
              refine va_get (D := D) (ci := 2) (v := .ref (sa 6)) (C := RX3) (T := TX3) (N := 13) hx hb hts hin3 hown hK hP 0 rfl rfl 6 (by decide) fl32 (fun _ h9 => h9) rfl dX3_findRow_63 ?_
              refine lv_iload hx hb dX3_findRow_66 (lv_at hl 5 rfl) ?_
              refine wk_lald hx hb hK hP 3 1 rfl rfl (i := t) (by omega) (by omega) dX3_findRow_68 ?_
              refine wk_Si (As := [.long at9, .long (t6 t)]) (rest := []) ⟨hx, hb, hml, hown, hts⟩ (c_X1_isAtLeast l D cI cJ cZ cA at9 (t6 t)) (va_cwS 2 hts gX3_findRow_X1_isAtLeast rfl rfl rfl (by decide +kernel) ⟨Nat.le_of_ble_eq_true rfl, Nat.le_of_ble_eq_true rfl⟩) hK hP [] rfl hS rfl hl.1 rfl (Nat.le_of_ble_eq_true rfl) dX3_findRow_69 ⟨Nat.zero_le _, Nat.zero_le _⟩ (fun H locs hP hS => ?_)
              refine wk_if_eqb (tgt := 103) hx hb dX3_findRow_72 (by decide) (fun c72 => ?_) (fun c72 => ?_)
              · skip
                refine lv_iinc (v := (nI (t + 1))) (lv' := [(5, .int (nI (t + 1))), (6, .long ((at9 - (t6 t)) + (t7 t))), (0, .ref (sa 0)), (1, .long at9), (3, .int (nI k)), (4, .int (nI (up (la - 1 - k))))]) hx hb dX3_findRow_103 hl (k := 5) rfl (by exact nI_1 _) (by decide) rfl (fun ls hl => ?_)
                refine lv_goto (tgt := 33) hx hb dX3_findRow_106 (by decide) ?_
                have hlf : (leadC t6 t7 at9 (Bn.take (up (la - 1 - k))) t) = false := by simp [leadC, c72]
                have htl : t + 1 ≤ gt k := by
                  rcases Nat.lt_or_eq_of_le ht with h | h
                  · exact h
                  · rw [h, hat, hg2] at hlf; cases hlf
                exact ih33 (t + 1) (by omega) htl _ _ _ hP hD hS (lv_sub hl [2, 3, 4, 5, 0] rfl)
              · skip
                refine lv_aload_n hx hb dX3_findRow_75 rfl (lv_at hl 1 rfl) ?_
                refine va_get (D := D) (ci := 2) (v := .ref (sa 10)) (C := RX3) (T := TX3) (N := 13) hx hb hts hin3 hown hK hP 0 rfl rfl 10 (by decide) fl49 (fun _ h9 => h9) rfl dX3_findRow_76 ?_
                refine lv_lload hx hb dX3_findRow_79 (lv_at hl 0 rfl) ?_
                refine lv_iload hx hb dX3_findRow_81 (lv_at hl 4 rfl) ?_
                refine wk_Vi (As := [.long ((at9 - (t6 t)) + (t7 t)), .int (nI (up (la - 1 - k)))]) (rest := []) ⟨hx, hb, hml, hown, hts⟩ (c_X2_hasOneBelow l D cI cJ cZ cA (sa 10) q10 l10 p10 Bn hB hBl (by omega) ((at9 - (t6 t)) + (t7 t)) (up (la - 1 - k)) (by omega)) (cwV 2 hts gX3_findRow_X2_hasOneBelow rfl rfl rfl (by decide +kernel) ⟨Nat.le_of_ble_eq_true rfl, Nat.le_of_ble_eq_true rfl⟩) hK hP [8, 9] rfl 0 1 rfl rfl hS rfl hl.1 rfl (Nat.le_of_ble_eq_true rfl) dX3_findRow_83 ⟨Nat.zero_le _, Nat.zero_le _⟩ (fun H locs hP hS => ?_)
                refine wk_if_eqb (tgt := 103) hx hb dX3_findRow_86 (by decide) (fun c86 => ?_) (fun c86 => ?_)
                · skip
                  refine lv_iinc (v := (nI (t + 1))) (lv' := [(5, .int (nI (t + 1))), (6, .long ((at9 - (t6 t)) + (t7 t))), (0, .ref (sa 0)), (1, .long at9), (3, .int (nI k)), (4, .int (nI (up (la - 1 - k))))]) hx hb dX3_findRow_103 hl (k := 5) rfl (by exact nI_1 _) (by decide) rfl (fun ls hl => ?_)
                  refine lv_goto (tgt := 33) hx hb dX3_findRow_106 (by decide) ?_
                  have hlf : (leadC t6 t7 at9 (Bn.take (up (la - 1 - k))) t) = false := by simp only [leadC, c72, c86, Bool.and_false]
                  have htl : t + 1 ≤ gt k := by
                    rcases Nat.lt_or_eq_of_le ht with h | h
                    · exact h
                    · rw [h, hat, hg2] at hlf; cases hlf
                  exact ih33 (t + 1) (by omega) htl _ _ _ hP hD hS (lv_sub hl [2, 3, 4, 5, 0] rfl)
                · skip
                  have hlt : (leadC t6 t7 at9 (Bn.take (up (la - 1 - k))) t) = true := by simp only [leadC, c72, c86, Bool.and_true]
                  have htg : t = gt k := by
                    rcases Nat.lt_or_eq_of_le ht with h | h
                    · rw [hat, hg3 t h] at hlt; cases hlt
                    · exact h
                  refine lv_aload_n hx hb dX3_findRow_89 rfl (lv_at hl 1 rfl) ?_
                  refine va_get (D := D) (ci := 2) (v := .ref (sa 3)) (C := RX3) (T := TX3) (N := 13) hx hb hts hin3 hown hK hP 0 rfl rfl 3 (by decide) fl22 (fun _ h9 => h9) rfl dX3_findRow_90 ?_
                  refine lv_iload_n hx hb dX3_findRow_93 rfl (lv_at hl 3 rfl) ?_
                  refine lv_iload hx hb dX3_findRow_94 (lv_at hl 5 rfl) ?_
                  refine wk_iast hx hb hK hP hD hS 2 0 rfl rfl (i := k) (by omega) (by omega) dX3_findRow_96 (fun H locs hP hD hS => ?_)
                  have hP : va_P D vwCl (sw cI cJ sa e0 (nI la) e4 (nI tr) e9 e12 c2 (upd f3 k (nI t)) t6 t7 c11 n8 q8 l8 p8 (nI Bn.length) q10 l10 p10) H := hP
                  have hD : va_D A (sw cI cJ sa e0 (nI la) e4 (nI tr) e9 e12 c2 (upd f3 k (nI t)) t6 t7 c11 n8 q8 l8 p8 (nI Bn.length) q10 l10 p10) := hD
                  refine lv_lload hx hb dX3_findRow_97 (lv_at hl 0 rfl) ?_
                  refine lv_lstore_n (lv' := [(1, .long ((at9 - (t6 t)) + (t7 t))), (6, .long ((at9 - (t6 t)) + (t7 t))), (0, .ref (sa 0)), (3, .int (nI k)), (4, .int (nI (up (la - 1 - k)))), (5, .int (nI t))]) hx hb dX3_findRow_99 rfl hl (by decide) rfl (fun ls hl => ?_)
                  refine lv_goto (tgt := 109) hx hb dX3_findRow_100 (by decide) ?_
                  refine lv_iinc (v := (nI (k + 1))) (lv' := [(3, .int (nI (k + 1))), (1, .long ((at9 - (t6 t)) + (t7 t))), (6, .long ((at9 - (t6 t)) + (t7 t))), (0, .ref (sa 0)), (4, .int (nI (up (la - 1 - k)))), (5, .int (nI t))]) hx hb dX3_findRow_109 hl (k := 3) rfl (by exact nI_1 _) (by decide) rfl (fun ls hl => ?_)
                  refine lv_goto (tgt := 7) hx hb dX3_findRow_112 (by decide) ?_
                  exact ih7 (k + 1) ((at9 - (t6 t)) + (t7 t)) (upd f3 k (nI t)) (by omega) (by omega) (by rw [hat, htg]; rfl) (fun j hj => by rcases Nat.lt_or_eq_of_le (Nat.le_of_lt_succ hj) with h1 | rfl; rw [pk_un (by omega)]; exact h3 j h1; rw [pk_us, htg]) _ _ _ hP hD hS (lv_sub hl [3, 1, 0] rfl)
        exact lp33 _ 0 (Nat.lt_succ_self _) (Nat.zero_le _) _ _ _ hP hD hS (lv_sub hl [2, 3, 4, 1, 0] rfl)
  exact lp7 _ 0 e4 c3 (Nat.lt_succ_self _) (by omega) rfl (fun j h => absurd h (Nat.not_lt_zero j)) _ _ _ hP hD hS (lv_sub hl [2, 1, 0] rfl)
