set_option maxHeartbeats 4000000 in
set_option maxRecDepth 100000 in
theorem c_X5_rounds (l : Launch) (D : va_G) (cI cJ cZ cA : ClassId) (x0 x1 xt : Nat) (pl : Int32) (b rt rg : Nat → Nat) (f2 f3 : Nat → Int32) (tk gv : Nat → Nat → Int32) (sa : Nat → Nat) (e0 e1 e5 e9 e12 n8 n10 : Int32) (e4 : Int64) (c2 c3 c11 : Nat → Int32) (t6 t7 p8 p10 : Nat → Int64) (q8 l8 q10 l10 : Nat) (sz tr la : Nat) (gt : Nat → Nat) (htr : tr ≤ 6) (h08 : 0 < l8) (hl8 : l8 ≤ 2 * 1450) (h010 : 0 < l10) (hl10 : l10 ≤ 24600) (hla : la ≤ 60) (hend : (endR tr (cpJ (tkP tk) t6 tr) (cpJ (tkP gv) t7 tr) (s0C f3 l8 l10) (pkO f2 5) la) ≠ nI 2) (hgo : ∀ j, j < la → endR tr (cpJ (tkP tk) t6 tr) (cpJ (tkP gv) t7 tr) (s0C f3 l8 l10) (pkO f2 5) j = nI 2) (hg : (endR tr (cpJ (tkP tk) t6 tr) (cpJ (tkP gv) t7 tr) (s0C f3 l8 l10) (pkO f2 5) la) = nI 1 → ∀ k, k < la → gt k < tr ∧ leadC (cpJ (tkP tk) t6 tr) (cpJ (tkP gv) t7 tr) (cAt (pkO f2 5) (cpJ (tkP tk) t6 tr) (cpJ (tkP gv) t7 tr) gt k) ((rgS tr (cpJ (tkP tk) t6 tr) (cpJ (tkP gv) t7 tr) (s0C f3 l8 l10) la).2.1.take (rgS tr (cpJ (tkP tk) t6 tr) (cpJ (tkP gv) t7 tr) (s0C f3 l8 l10) (la - 1 - k + 1)).2.1.length) (gt k) = true ∧ ∀ t, t < gt k → leadC (cpJ (tkP tk) t6 tr) (cpJ (tkP gv) t7 tr) (cAt (pkO f2 5) (cpJ (tkP tk) t6 tr) (cpJ (tkP gv) t7 tr) gt k) ((rgS tr (cpJ (tkP tk) t6 tr) (cpJ (tkP gv) t7 tr) (s0C f3 l8 l10) la).2.1.take (rgS tr (cpJ (tkP tk) t6 tr) (cpJ (tkP gv) t7 tr) (s0C f3 l8 l10) (la - 1 - k + 1)).2.1.length) t = false) : Met l yX5_rounds wsX5_rounds ({ frames := 6, cells := dC9 (rgS tr (cpJ (tkP tk) t6 tr) (cpJ (tkP gv) t7 tr) (s0C f3 l8 l10) la).1.2.2 l8 + dC9 (rgS tr (cpJ (tkP tk) t6 tr) (cpJ (tkP gv) t7 tr) (s0C f3 l8 l10) la).2.2 l10, slots := dS9 (rgS tr (cpJ (tkP tk) t6 tr) (cpJ (tkP gv) t7 tr) (s0C f3 l8 l10) la).1.2.2 l8 + dS9 (rgS tr (cpJ (tkP tk) t6 tr) (cpJ (tkP gv) t7 tr) (s0C f3 l8 l10) la).2.2 l10, locals := 153 } : Room) (wr_P D (tysC cI cJ cZ cA) [.ref x0] (nw cI cA b rt rg pl (nI tr) f2 f3 tk gv ++ (sw cI cJ sa e0 e1 e4 e5 e9 e12 c2 c3 t6 t7 c11 n8 q8 l8 p8 n10 q10 l10 p10 ++ [(x0, .inr (4, [.ref (b 0), .ref x1, .ref (sa 0), .ref xt]))])) sz) (wr_Qi D (S := Int32 × (Nat → Int32) × (Nat → Int32) × (Nat → Int32) × Nat × (Nat → Int64) × Nat × (Nat → Int64)) (nw cI cA b rt rg pl (nI tr) f2 f3 tk gv ++ (sw cI cJ sa e0 e1 e4 e5 e9 e12 c2 c3 t6 t7 c11 n8 q8 l8 p8 n10 q10 l10 p10 ++ [(x0, .inr (4, [.ref (b 0), .ref x1, .ref (sa 0), .ref xt]))])) sz (fun r9 u => r9 = (endR tr (cpJ (tkP tk) t6 tr) (cpJ (tkP gv) t7 tr) (s0C f3 l8 l10) (pkO f2 5) la) ∧ (fun u => listV u.2.2.2.2.2.1 (rgS tr (cpJ (tkP tk) t6 tr) (cpJ (tkP gv) t7 tr) (s0C f3 l8 l10) la).1.1 ∧ listV u.2.2.2.2.2.2.2 (rgS tr (cpJ (tkP tk) t6 tr) (cpJ (tkP gv) t7 tr) (s0C f3 l8 l10) la).2.1 ∧ (∀ j, j ≤ la → u.2.1 j = nI (rgS tr (cpJ (tkP tk) t6 tr) (cpJ (tkP gv) t7 tr) (s0C f3 l8 l10) j).1.1.length) ∧ ((endR tr (cpJ (tkP tk) t6 tr) (cpJ (tkP gv) t7 tr) (s0C f3 l8 l10) (pkO f2 5) la) = nI 1 → ∀ j, j < la → u.2.2.1 j = nI (gt j))) u) (fun u => (nw cI cA b rt rg pl (nI tr) f2 f3 tk gv ++ (sw cI cJ sa (endR tr (cpJ (tkP tk) t6 tr) (cpJ (tkP gv) t7 tr) (s0C f3 l8 l10) (pkO f2 5) la) (nI la) (pkO f2 5) (nI tr) (nI ((rgS tr (cpJ (tkP tk) t6 tr) (cpJ (tkP gv) t7 tr) (s0C f3 l8 l10) la).1.2.1)) u.1 u.2.1 u.2.2.1 (cpJ (tkP tk) t6 tr) (cpJ (tkP gv) t7 tr) u.2.2.2.1 (nI ((rgS tr (cpJ (tkP tk) t6 tr) (cpJ (tkP gv) t7 tr) (s0C f3 l8 l10) la).1.1.length)) u.2.2.2.2.1 ((rgS tr (cpJ (tkP tk) t6 tr) (cpJ (tkP gv) t7 tr) (s0C f3 l8 l10) la).1.2.2) u.2.2.2.2.2.1 (nI ((rgS tr (cpJ (tkP tk) t6 tr) (cpJ (tkP gv) t7 tr) (s0C f3 l8 l10) la).2.1.length)) u.2.2.2.2.2.2.1 ((rgS tr (cpJ (tkP tk) t6 tr) (cpJ (tkP gv) t7 tr) (s0C f3 l8 l10) la).2.2) u.2.2.2.2.2.2.2 ++ [(x0, .inr (4, [.ref (b 0), .ref x1, .ref (sa 0), .ref xt]))])))) (dC9 (rgS tr (cpJ (tkP tk) t6 tr) (cpJ (tkP gv) t7 tr) (s0C f3 l8 l10) la).1.2.2 l8 + dC9 (rgS tr (cpJ (tkP tk) t6 tr) (cpJ (tkP gv) t7 tr) (s0C f3 l8 l10) la).2.2 l10) (dS9 (rgS tr (cpJ (tkP tk) t6 tr) (cpJ (tkP gv) t7 tr) (s0C f3 l8 l10) la).1.2.2 l8 + dS9 (rgS tr (cpJ (tkP tk) t6 tr) (cpJ (tkP gv) t7 tr) (s0C f3 l8 l10) la).2.2 l10) (va_A (nw cI cA b rt rg pl (nI tr) f2 f3 tk gv ++ (sw cI cJ sa e0 e1 e4 e5 e9 e12 c2 c3 t6 t7 c11 n8 q8 l8 p8 n10 q10 l10 p10 ++ [(x0, .inr (4, [.ref (b 0), .ref x1, .ref (sa 0), .ref xt]))])) sz) := by
  refine met_wi (cc := cX5_rounds) (maxL := 1) (ty := .int) (by decide) rfl (Nat.le_of_ble_eq_true rfl) ?_
  intro p e s m args below meth c Q A hx hb hml hown hts hP hK hD hA hret ls hl
  obtain ⟨H, hH9⟩ : ∃ H : Heap, H = s.heap := ⟨_, rfl⟩
  have hP : va_P D vwCl (nw cI cA b rt rg pl (nI tr) f2 f3 tk gv ++ (sw cI cJ sa e0 e1 e4 e5 e9 e12 c2 c3 t6 t7 c11 n8 q8 l8 p8 n10 q10 l10 p10 ++ [(x0, .inr (4, [.ref (b 0), .ref x1, .ref (sa 0), .ref xt]))])) H := by rw [hH9]; exact hP
  have hS : va_S A s.heap H [] := by rw [hH9]; exact va_S.rf
  rw [← hH9]
  have hown : s.vm.findClass RX5 = some m.cls := hown
  have hin5 : ∀ w ∈ wsX50, w ∈ wsX5_rounds := by decide +kernel
  have hin3 : ∀ w ∈ wsX30, w ∈ wsX5_rounds := by decide +kernel
  have fl23 := hts (.fieldLink RX5 23 "CoverRounds" "search" "LCoverRounds$Search;") (by decide +kernel)
  have fl12 := hts (.fieldLink RX5 12 "CoverRounds" "net" "LCoverRounds$Net;") (by decide +kernel)
  have fl72 := hts (.fieldLink RX5 72 "CoverRounds$Search" "ending" "I") (by decide +kernel)
  have hl : lv_has ls 1 [(0, .ref x0)] := hl
  refine lv_aload_n hx hb dX5_rounds_0 rfl (lv_at hl 0 rfl) ?_
  refine va_get (D := D) (ci := 4) (v := .ref (sa 0)) (C := RX5) (T := TX5) (N := 4) hx hb hts hin5 hown hK hP 27 rfl rfl 2 (by decide) fl23 (fun _ h9 => h9) rfl dX5_rounds_1 ?_
  refine lv_aload_n hx hb dX5_rounds_4 rfl (lv_at hl 0 rfl) ?_
  refine va_get (D := D) (ci := 4) (v := .ref (b 0)) (C := RX5) (T := TX5) (N := 4) hx hb hts hin5 hown hK hP 27 rfl rfl 0 (by decide) fl12 (fun _ h9 => h9) rfl dX5_rounds_5 ?_
  refine wk_VvW (As := [.ref (b 0)]) (rest := []) (wr := [(x0, .inr (4, [.ref (b 0), .ref x1, .ref (sa 0), .ref xt]))]) ⟨hx, hb, hml, hown, hts⟩ (c_X3_goRounds l D cI cJ cZ cA pl b rt rg f2 f3 tk gv sa e0 e1 e5 e9 e12 n8 n10 e4 c2 c3 c11 t6 t7 p8 p10 q8 l8 q10 l10 H.size tr la gt htr h08 hl8 h010 hl10 hla hend hgo hg) (cwV 1 hts gX5_rounds_X3_goRounds rfl rfl rfl (by decide +kernel) ⟨Nat.le_of_ble_eq_true rfl, Nat.le_of_ble_eq_true rfl⟩) hK hP hD hA [0, 1, 2, 3, 4, 5, 6, 7, 8, 9, 10, 11, 12, 13, 14, 15, 16, 17, 18, 19, 20, 21, 22, 23, 24, 25, 26] rfl (by decide) [27] rfl (by decide) (by decide) 17 2 rfl rfl hS rfl hl.1 rfl (Nat.le_of_ble_eq_true rfl) dX5_rounds_8 ⟨by show 0 + (dC9 (rgS tr (cpJ (tkP tk) t6 tr) (cpJ (tkP gv) t7 tr) (s0C f3 l8 l10) la).1.2.2 l8 + dC9 (rgS tr (cpJ (tkP tk) t6 tr) (cpJ (tkP gv) t7 tr) (s0C f3 l8 l10) la).2.2 l10) ≤ dC9 (rgS tr (cpJ (tkP tk) t6 tr) (cpJ (tkP gv) t7 tr) (s0C f3 l8 l10) la).1.2.2 l8 + dC9 (rgS tr (cpJ (tkP tk) t6 tr) (cpJ (tkP gv) t7 tr) (s0C f3 l8 l10) la).2.2 l10; omega, by show 0 + (dS9 (rgS tr (cpJ (tkP tk) t6 tr) (cpJ (tkP gv) t7 tr) (s0C f3 l8 l10) la).1.2.2 l8 + dS9 (rgS tr (cpJ (tkP tk) t6 tr) (cpJ (tkP gv) t7 tr) (s0C f3 l8 l10) la).2.2 l10) ≤ dS9 (rgS tr (cpJ (tkP tk) t6 tr) (cpJ (tkP gv) t7 tr) (s0C f3 l8 l10) la).1.2.2 l8 + dS9 (rgS tr (cpJ (tkP tk) t6 tr) (cpJ (tkP gv) t7 tr) (s0C f3 l8 l10) la).2.2 l10; omega⟩ (fun u9 H locs hu hP hD hS => ?_)
  have hP : va_P D vwCl (nw cI cA b rt rg pl (nI tr) f2 f3 tk gv ++ (sw cI cJ sa (endR tr (cpJ (tkP tk) t6 tr) (cpJ (tkP gv) t7 tr) (s0C f3 l8 l10) (pkO f2 5) la) (nI la) (pkO f2 5) (nI tr) (nI ((rgS tr (cpJ (tkP tk) t6 tr) (cpJ (tkP gv) t7 tr) (s0C f3 l8 l10) la).1.2.1)) u9.1 u9.2.1 u9.2.2.1 (cpJ (tkP tk) t6 tr) (cpJ (tkP gv) t7 tr) u9.2.2.2.1 (nI ((rgS tr (cpJ (tkP tk) t6 tr) (cpJ (tkP gv) t7 tr) (s0C f3 l8 l10) la).1.1.length)) u9.2.2.2.2.1 ((rgS tr (cpJ (tkP tk) t6 tr) (cpJ (tkP gv) t7 tr) (s0C f3 l8 l10) la).1.2.2) u9.2.2.2.2.2.1 (nI ((rgS tr (cpJ (tkP tk) t6 tr) (cpJ (tkP gv) t7 tr) (s0C f3 l8 l10) la).2.1.length)) u9.2.2.2.2.2.2.1 ((rgS tr (cpJ (tkP tk) t6 tr) (cpJ (tkP gv) t7 tr) (s0C f3 l8 l10) la).2.2) u9.2.2.2.2.2.2.2 ++ [(x0, .inr (4, [.ref (b 0), .ref x1, .ref (sa 0), .ref xt]))])) H := hP.sub [1, 2, 3, 4, 5, 6, 7, 8, 9, 10, 11, 12, 13, 14, 15, 16, 17, 18, 19, 20, 21, 22, 23, 24, 25, 26, 27, 0] rfl
  have hD : va_D A (nw cI cA b rt rg pl (nI tr) f2 f3 tk gv ++ (sw cI cJ sa (endR tr (cpJ (tkP tk) t6 tr) (cpJ (tkP gv) t7 tr) (s0C f3 l8 l10) (pkO f2 5) la) (nI la) (pkO f2 5) (nI tr) (nI ((rgS tr (cpJ (tkP tk) t6 tr) (cpJ (tkP gv) t7 tr) (s0C f3 l8 l10) la).1.2.1)) u9.1 u9.2.1 u9.2.2.1 (cpJ (tkP tk) t6 tr) (cpJ (tkP gv) t7 tr) u9.2.2.2.1 (nI ((rgS tr (cpJ (tkP tk) t6 tr) (cpJ (tkP gv) t7 tr) (s0C f3 l8 l10) la).1.1.length)) u9.2.2.2.2.1 ((rgS tr (cpJ (tkP tk) t6 tr) (cpJ (tkP gv) t7 tr) (s0C f3 l8 l10) la).1.2.2) u9.2.2.2.2.2.1 (nI ((rgS tr (cpJ (tkP tk) t6 tr) (cpJ (tkP gv) t7 tr) (s0C f3 l8 l10) la).2.1.length)) u9.2.2.2.2.2.2.1 ((rgS tr (cpJ (tkP tk) t6 tr) (cpJ (tkP gv) t7 tr) (s0C f3 l8 l10) la).2.2) u9.2.2.2.2.2.2.2 ++ [(x0, .inr (4, [.ref (b 0), .ref x1, .ref (sa 0), .ref xt]))])) := hD.sub [1, 2, 3, 4, 5, 6, 7, 8, 9, 10, 11, 12, 13, 14, 15, 16, 17, 18, 19, 20, 21, 22, 23, 24, 25, 26, 27, 0] (by decide) rfl
  refine lv_aload_n hx hb dX5_rounds_11 rfl (lv_at hl 0 rfl) ?_
  refine va_get (D := D) (ci := 4) (v := .ref (sa 0)) (C := RX5) (T := TX5) (N := 4) hx hb hts hin5 hown hK hP 27 rfl rfl 2 (by decide) fl23 (fun _ h9 => h9) rfl dX5_rounds_12 ?_
  refine va_get (D := D) (ci := 2) (v := .int (endR tr (cpJ (tkP tk) t6 tr) (cpJ (tkP gv) t7 tr) (s0C f3 l8 l10) (pkO f2 5) la)) (C := RX3) (T := TX3) (N := 13) hx hb hts hin3 hown hK hP 17 rfl rfl 0 (by decide) fl72 (fun _ h9 => h9) rfl dX5_rounds_15 ?_
  exact hret _ u9 _ _ _ _ _ _ rfl ⟨rfl, hu⟩ hP hD dX5_rounds_18 hS (by omega) (by omega)

set_option maxHeartbeats 4000000 in
set_option maxRecDepth 100000 in
theorem c_X5_steps (l : Launch) (D : va_G) (cI cJ cZ cA : ClassId) (x0 xn x1 xt : Nat) (sa : Nat → Nat) (e0 e1 e5 e9 e12 n8 n10 : Int32) (e4 : Int64) (c2 c3 c11 : Nat → Int32) (t6 t7 p8 p10 : Nat → Int64) (q8 l8 q10 l10 : Nat)  : Met l yX5_steps wsX5_steps ({ frames := 0, cells := 0, slots := 0, locals := 0 } : Room) (ro_P D (tysC cI cJ cZ cA) [.ref x0] (sw cI cJ sa e0 e1 e4 e5 e9 e12 c2 c3 t6 t7 c11 n8 q8 l8 p8 n10 q10 l10 p10 ++ [(x0, .inr (4, [.ref xn, .ref x1, .ref (sa 0), .ref xt]))])) (ro_Q (if e0 = nI 1 then e1 else -1)) 0 0 (fun _ => False) := by
  refine met_ro (cc := cX5_steps) (maxL := 1) (ty := .int) (by decide) rfl (Nat.le_of_ble_eq_true rfl) rfl ?_
  intro p e s m args below meth c Q hx hb hml hown hts hP hK hret ls hl
  obtain ⟨H, hH9⟩ : ∃ H : Heap, H = s.heap := ⟨_, rfl⟩
  have hP : va_P D vwCl (sw cI cJ sa e0 e1 e4 e5 e9 e12 c2 c3 t6 t7 c11 n8 q8 l8 p8 n10 q10 l10 p10 ++ [(x0, .inr (4, [.ref xn, .ref x1, .ref (sa 0), .ref xt]))]) H := by rw [hH9]; exact hP
  have hS : va_S (fun _ => False) s.heap H [] := by rw [hH9]; exact va_S.rf
  rw [← hH9]
  have hown : s.vm.findClass RX5 = some m.cls := hown
  have hin5 : ∀ w ∈ wsX50, w ∈ wsX5_steps := by decide +kernel
  have hin3 : ∀ w ∈ wsX30, w ∈ wsX5_steps := by decide +kernel
  have fl23 := hts (.fieldLink RX5 23 "CoverRounds" "search" "LCoverRounds$Search;") (by decide +kernel)
  have fl72 := hts (.fieldLink RX5 72 "CoverRounds$Search" "ending" "I") (by decide +kernel)
  have fl75 := hts (.fieldLink RX5 75 "CoverRounds$Search" "last" "I") (by decide +kernel)
  have hl : lv_has ls 1 [(0, .ref x0)] := hl
  refine lv_aload_n hx hb dX5_steps_0 rfl (lv_at hl 0 rfl) ?_
  refine va_get (D := D) (ci := 4) (v := .ref (sa 0)) (C := RX5) (T := TX5) (N := 4) hx hb hts hin5 hown hK hP 10 rfl rfl 2 (by decide) fl23 (fun _ h9 => h9) rfl dX5_steps_1 ?_
  refine va_get (D := D) (ci := 2) (v := .int e0) (C := RX3) (T := TX3) (N := 13) hx hb hts hin3 hown hK hP 0 rfl rfl 0 (by decide) fl72 (fun _ h9 => h9) rfl dX5_steps_4 ?_
  refine lv_iconst (v := nI 1) hx hb dX5_steps_7 (by decide) ?_
  refine lv_icmp_ne (tgt := 21) hx hb dX5_steps_8 (by decide) (fun c8 => ?_) (fun c8 => ?_)
  · skip
    refine lv_iconst (v := -1) hx hb dX5_steps_21 (by decide) ?_
    exact hret _ _ _ _ _ (by rw [if_neg c8]) dX5_steps_22 hS
  · skip
    refine lv_aload_n hx hb dX5_steps_11 rfl (lv_at hl 0 rfl) ?_
    refine va_get (D := D) (ci := 4) (v := .ref (sa 0)) (C := RX5) (T := TX5) (N := 4) hx hb hts hin5 hown hK hP 10 rfl rfl 2 (by decide) fl23 (fun _ h9 => h9) rfl dX5_steps_12 ?_
    refine va_get (D := D) (ci := 2) (v := .int e1) (C := RX3) (T := TX3) (N := 13) hx hb hts hin3 hown hK hP 0 rfl rfl 1 (by decide) fl75 (fun _ h9 => h9) rfl dX5_steps_15 ?_
    refine lv_goto (tgt := 22) hx hb dX5_steps_18 (by decide) ?_
    exact hret _ _ _ _ _ (by rw [if_pos c8]) dX5_steps_22 hS

set_option maxHeartbeats 4000000 in
set_option maxRecDepth 100000 in
theorem c_X5_witness (l : Launch) (D : va_G) (cI cJ cZ cA : ClassId) (x0 xn x1 xt : Nat) (sa : Nat → Nat) (e0 e5 e9 e12 n8 n10 : Int32) (e4 : Int64) (c2 c3 c11 : Nat → Int32) (t6 t7 p8 p10 : Nat → Int64) (q8 l8 q10 l10 : Nat) (la : Nat) (x : Int32) (hla : la ≤ 60) : Met l yX5_witness wsX5_witness ({ frames := 1, cells := 0, slots := 0, locals := 20 } : Room) (ro_P D (tysC cI cJ cZ cA) [.ref x0, .int x] (sw cI cJ sa e0 (nI la) e4 e5 e9 e12 c2 c3 t6 t7 c11 n8 q8 l8 p8 n10 q10 l10 p10 ++ [(x0, .inr (4, [.ref xn, .ref x1, .ref (sa 0), .ref xt]))])) (ro_Q (if e0 = nI 1 ∧ inB x (nI la) = true then c3 x.toNatClampNeg else -1)) 0 0 (fun _ => False) := by
  refine met_ro (cc := cX5_witness) (maxL := 2) (ty := .int) (by decide) rfl (Nat.le_of_ble_eq_true rfl) rfl ?_
  intro p e s m args below meth c Q hx hb hml hown hts hP hK hret ls hl
  obtain ⟨H, hH9⟩ : ∃ H : Heap, H = s.heap := ⟨_, rfl⟩
  have hP : va_P D vwCl (sw cI cJ sa e0 (nI la) e4 e5 e9 e12 c2 c3 t6 t7 c11 n8 q8 l8 p8 n10 q10 l10 p10 ++ [(x0, .inr (4, [.ref xn, .ref x1, .ref (sa 0), .ref xt]))]) H := by rw [hH9]; exact hP
  have hS : va_S (fun _ => False) s.heap H [] := by rw [hH9]; exact va_S.rf
  rw [← hH9]
  have hown : s.vm.findClass RX5 = some m.cls := hown
  have hin5 : ∀ w ∈ wsX50, w ∈ wsX5_witness := by decide +kernel
  have hin3 : ∀ w ∈ wsX30, w ∈ wsX5_witness := by decide +kernel
  have fl23 := hts (.fieldLink RX5 23 "CoverRounds" "search" "LCoverRounds$Search;") (by decide +kernel)
  have fl82 := hts (.fieldLink RX5 82 "CoverRounds$Search" "row" "[I") (by decide +kernel)
  have hl : lv_has ls 2 [(0, .ref x0), (1, .int x)] := hl
  refine lv_iload_n hx hb dX5_witness_0 rfl (lv_at hl 1 rfl) ?_
  refine lv_if_lt (tgt := 24) hx hb dX5_witness_1 (by decide) (fun c1 => ?_) (fun c1 => ?_)
  · skip
    refine lv_iconst (v := -1) hx hb dX5_witness_24 (by decide) ?_
    exact hret _ _ _ _ _ (by rw [if_neg (fun h9 => by have h2 := h9.2; simp [inB, c1] at h2)]) dX5_witness_25 hS
  · skip
    refine lv_iload_n hx hb dX5_witness_4 rfl (lv_at hl 1 rfl) ?_
    refine lv_aload_n hx hb dX5_witness_5 rfl (lv_at hl 0 rfl) ?_
    refine wk_Vi (As := []) (rest := [.int x]) ⟨hx, hb, hml, hown, hts⟩ (c_X5_steps l D cI cJ cZ cA x0 xn x1 xt sa e0 (nI la) e5 e9 e12 n8 n10 e4 c2 c3 c11 t6 t7 p8 p10 q8 l8 q10 l10) (cwV 0 hts gX5_witness_X5_steps rfl rfl rfl (by decide +kernel) ⟨Nat.le_of_ble_eq_true rfl, Nat.le_of_ble_eq_true rfl⟩) hK hP [0, 1, 2, 3, 4, 5, 6, 7, 8, 9, 10] rfl 10 4 rfl rfl hS rfl hl.1 rfl (Nat.le_of_ble_eq_true rfl) dX5_witness_6 ⟨Nat.zero_le _, Nat.zero_le _⟩ (fun H locs hP hS => ?_)
    refine lv_icmp_ge (tgt := 24) hx hb dX5_witness_9 (by decide) (fun c9 => ?_) (fun c9 => ?_)
    · skip
      refine lv_iconst (v := -1) hx hb dX5_witness_24 (by decide) ?_
      exact hret _ _ _ _ _ (by rw [if_neg (wt_t c9)]) dX5_witness_25 hS
    · skip
      obtain ⟨he9, hc9⟩ := wt_f c1 c9
      obtain ⟨j, hj, rfl, -⟩ := pk_mu c1 hc9 (show la < 2 ^ 31 by omega)
      refine lv_aload_n hx hb dX5_witness_12 rfl (lv_at hl 0 rfl) ?_
      refine va_get (D := D) (ci := 4) (v := .ref (sa 0)) (C := RX5) (T := TX5) (N := 4) hx hb hts hin5 hown hK hP 10 rfl rfl 2 (by decide) fl23 (fun _ h9 => h9) rfl dX5_witness_13 ?_
      refine va_get (D := D) (ci := 2) (v := .ref (sa 3)) (C := RX3) (T := TX3) (N := 13) hx hb hts hin3 hown hK hP 0 rfl rfl 3 (by decide) fl82 (fun _ h9 => h9) rfl dX5_witness_16 ?_
      refine lv_iload_n hx hb dX5_witness_19 rfl (lv_at hl 1 rfl) ?_
      refine wk_iald hx hb hK hP 2 0 rfl rfl (i := j) (by omega) (by omega) dX5_witness_20 ?_
      refine lv_goto (tgt := 25) hx hb dX5_witness_21 (by decide) ?_
      exact hret _ _ _ _ _ (by rw [if_pos ⟨he9, inB_is hj (by omega)⟩, nI_clamp (by omega)]) dX5_witness_25 hS

set_option maxHeartbeats 4000000 in
set_option maxRecDepth 100000 in
theorem c_X5_witness_n (l : Launch) (D : va_G) (cI cJ cZ cA : ClassId) (x0 xn x1 xt : Nat) (sa : Nat → Nat) (e0 e1 e5 e9 e12 n8 n10 : Int32) (e4 : Int64) (c2 c3 c11 : Nat → Int32) (t6 t7 p8 p10 : Nat → Int64) (q8 l8 q10 l10 : Nat) (x : Int32) (he : ¬ e0 = nI 1) : Met l yX5_witness wsX5_witness ({ frames := 1, cells := 0, slots := 0, locals := 20 } : Room) (ro_P D (tysC cI cJ cZ cA) [.ref x0, .int x] (sw cI cJ sa e0 e1 e4 e5 e9 e12 c2 c3 t6 t7 c11 n8 q8 l8 p8 n10 q10 l10 p10 ++ [(x0, .inr (4, [.ref xn, .ref x1, .ref (sa 0), .ref xt]))])) (ro_Q (-1)) 0 0 (fun _ => False) := by
  refine met_ro (cc := cX5_witness) (maxL := 2) (ty := .int) (by decide) rfl (Nat.le_of_ble_eq_true rfl) rfl ?_
  intro p e s m args below meth c Q hx hb hml hown hts hP hK hret ls hl
  obtain ⟨H, hH9⟩ : ∃ H : Heap, H = s.heap := ⟨_, rfl⟩
  have hP : va_P D vwCl (sw cI cJ sa e0 e1 e4 e5 e9 e12 c2 c3 t6 t7 c11 n8 q8 l8 p8 n10 q10 l10 p10 ++ [(x0, .inr (4, [.ref xn, .ref x1, .ref (sa 0), .ref xt]))]) H := by rw [hH9]; exact hP
  have hS : va_S (fun _ => False) s.heap H [] := by rw [hH9]; exact va_S.rf
  rw [← hH9]
  have hown : s.vm.findClass RX5 = some m.cls := hown
  have hin5 : ∀ w ∈ wsX50, w ∈ wsX5_witness := by decide +kernel
  have hin3 : ∀ w ∈ wsX30, w ∈ wsX5_witness := by decide +kernel
  have fl23 := hts (.fieldLink RX5 23 "CoverRounds" "search" "LCoverRounds$Search;") (by decide +kernel)
  have fl82 := hts (.fieldLink RX5 82 "CoverRounds$Search" "row" "[I") (by decide +kernel)
  have hl : lv_has ls 2 [(0, .ref x0), (1, .int x)] := hl
  refine lv_iload_n hx hb dX5_witness_0 rfl (lv_at hl 1 rfl) ?_
  refine lv_if_lt (tgt := 24) hx hb dX5_witness_1 (by decide) (fun c1 => ?_) (fun c1 => ?_)
  · skip
    refine lv_iconst (v := -1) hx hb dX5_witness_24 (by decide) ?_
    exact hret _ _ _ _ _ rfl dX5_witness_25 hS
  · skip
    refine lv_iload_n hx hb dX5_witness_4 rfl (lv_at hl 1 rfl) ?_
    refine lv_aload_n hx hb dX5_witness_5 rfl (lv_at hl 0 rfl) ?_
    refine wk_Vi (As := []) (rest := [.int x]) ⟨hx, hb, hml, hown, hts⟩ (c_X5_steps l D cI cJ cZ cA x0 xn x1 xt sa e0 e1 e5 e9 e12 n8 n10 e4 c2 c3 c11 t6 t7 p8 p10 q8 l8 q10 l10) (cwV 0 hts gX5_witness_X5_steps rfl rfl rfl (by decide +kernel) ⟨Nat.le_of_ble_eq_true rfl, Nat.le_of_ble_eq_true rfl⟩) hK hP [0, 1, 2, 3, 4, 5, 6, 7, 8, 9, 10] rfl 10 4 rfl rfl hS rfl hl.1 rfl (Nat.le_of_ble_eq_true rfl) dX5_witness_6 ⟨Nat.zero_le _, Nat.zero_le _⟩ (fun H locs hP hS => ?_)
    refine lv_icmp_ge (tgt := 24) hx hb dX5_witness_9 (by decide) (fun c9 => ?_) (fun c9 => ?_)
    · skip
      refine lv_iconst (v := -1) hx hb dX5_witness_24 (by decide) ?_
      exact hret _ _ _ _ _ rfl dX5_witness_25 hS
    · skip
      exfalso
      rw [if_neg he] at c9
      apply c9
      have h1 := Int32.not_lt.mp c1
      rw [Int32.le_iff_toInt_le] at h1 ⊢
      have h2 : (-1 : Int32).toInt = -1 := by decide
      have h3 : (0 : Int32).toInt = 0 := by decide
      omega

set_option maxHeartbeats 4000000 in
set_option maxRecDepth 100000 in
theorem c_X5_least (l : Launch) (D : va_G) (cI cJ cZ cA : ClassId) (x0 xn x1 xt : Nat) (sa : Nat → Nat) (e0 e1 e5 e9 e12 n8 n10 : Int32) (e4 : Int64) (c2 c3 c11 : Nat → Int32) (t6 t7 p8 p10 : Nat → Int64) (q8 l8 q10 l10 : Nat) (x : Int32) (he : e1 = -1 ∨ ∃ la : Nat, la ≤ 60 ∧ e1 = nI la) : Met l yX5_least wsX5_least ({ frames := 0, cells := 0, slots := 0, locals := 0 } : Room) (ro_P D (tysC cI cJ cZ cA) [.ref x0, .int x] (sw cI cJ sa e0 e1 e4 e5 e9 e12 c2 c3 t6 t7 c11 n8 q8 l8 p8 n10 q10 l10 p10 ++ [(x0, .inr (4, [.ref xn, .ref x1, .ref (sa 0), .ref xt]))])) (ro_Q (if inC x e1 = true then c2 x.toNatClampNeg else -1)) 0 0 (fun _ => False) := by
  refine met_ro (cc := cX5_least) (maxL := 2) (ty := .int) (by decide) rfl (Nat.le_of_ble_eq_true rfl) rfl ?_
  intro p e s m args below meth c Q hx hb hml hown hts hP hK hret ls hl
  obtain ⟨H, hH9⟩ : ∃ H : Heap, H = s.heap := ⟨_, rfl⟩
  have hP : va_P D vwCl (sw cI cJ sa e0 e1 e4 e5 e9 e12 c2 c3 t6 t7 c11 n8 q8 l8 p8 n10 q10 l10 p10 ++ [(x0, .inr (4, [.ref xn, .ref x1, .ref (sa 0), .ref xt]))]) H := by rw [hH9]; exact hP
  have hS : va_S (fun _ => False) s.heap H [] := by rw [hH9]; exact va_S.rf
  rw [← hH9]
  have hown : s.vm.findClass RX5 = some m.cls := hown
  have hin5 : ∀ w ∈ wsX50, w ∈ wsX5_least := by decide +kernel
  have hin3 : ∀ w ∈ wsX30, w ∈ wsX5_least := by decide +kernel
  have fl23 := hts (.fieldLink RX5 23 "CoverRounds" "search" "LCoverRounds$Search;") (by decide +kernel)
  have fl75 := hts (.fieldLink RX5 75 "CoverRounds$Search" "last" "I") (by decide +kernel)
  have fl85 := hts (.fieldLink RX5 85 "CoverRounds$Search" "leastCounts" "[I") (by decide +kernel)
  have hl : lv_has ls 2 [(0, .ref x0), (1, .int x)] := hl
  refine lv_iload_n hx hb dX5_least_0 rfl (lv_at hl 1 rfl) ?_
  refine lv_if_lt (tgt := 27) hx hb dX5_least_1 (by decide) (fun c1 => ?_) (fun c1 => ?_)
  · skip
    refine lv_iconst (v := -1) hx hb dX5_least_27 (by decide) ?_
    exact hret _ _ _ _ _ (by rw [if_neg (by simp [inC, c1])]) dX5_least_28 hS
  · skip
    refine lv_iload_n hx hb dX5_least_4 rfl (lv_at hl 1 rfl) ?_
    refine lv_aload_n hx hb dX5_least_5 rfl (lv_at hl 0 rfl) ?_
    refine va_get (D := D) (ci := 4) (v := .ref (sa 0)) (C := RX5) (T := TX5) (N := 4) hx hb hts hin5 hown hK hP 10 rfl rfl 2 (by decide) fl23 (fun _ h9 => h9) rfl dX5_least_6 ?_
    refine va_get (D := D) (ci := 2) (v := .int e1) (C := RX3) (T := TX3) (N := 13) hx hb hts hin3 hown hK hP 0 rfl rfl 1 (by decide) fl75 (fun _ h9 => h9) rfl dX5_least_9 ?_
    refine lv_icmp_gt (tgt := 27) hx hb dX5_least_12 (by decide) (fun c12 => ?_) (fun c12 => ?_)
    · skip
      refine lv_iconst (v := -1) hx hb dX5_least_27 (by decide) ?_
      exact hret _ _ _ _ _ (by rw [if_neg (by simp [inC, c12])]) dX5_least_28 hS
    · skip
      have hin9 : inC x e1 = true := by simp [inC, c1, c12]
      obtain ⟨j, hj, rfl⟩ := ls_in he c1 c12
      refine lv_aload_n hx hb dX5_least_15 rfl (lv_at hl 0 rfl) ?_
      refine va_get (D := D) (ci := 4) (v := .ref (sa 0)) (C := RX5) (T := TX5) (N := 4) hx hb hts hin5 hown hK hP 10 rfl rfl 2 (by decide) fl23 (fun _ h9 => h9) rfl dX5_least_16 ?_
      refine va_get (D := D) (ci := 2) (v := .ref (sa 2)) (C := RX3) (T := TX3) (N := 13) hx hb hts hin3 hown hK hP 0 rfl rfl 2 (by decide) fl85 (fun _ h9 => h9) rfl dX5_least_19 ?_
      refine lv_iload_n hx hb dX5_least_22 rfl (lv_at hl 1 rfl) ?_
      refine wk_iald hx hb hK hP 1 0 rfl rfl (i := j) (by omega) (by omega) dX5_least_23 ?_
      refine lv_goto (tgt := 28) hx hb dX5_least_24 (by decide) ?_
      exact hret _ _ _ _ _ (by rw [if_pos hin9, nI_clamp (by omega)]) dX5_least_28 hS

set_option maxHeartbeats 4000000 in
set_option maxRecDepth 100000 in
theorem c_X5_grow (l : Launch) (D : va_G) (cI cJ cZ cA : ClassId) (x0 x1 xs : Nat) (b rt rg : Nat → Nat) (f2 f3 : Nat → Int32) (tk gv : Nat → Nat → Int32) (ta : Nat → Nat) (g0 g1 g2 g3 : Int32) (h4 h5 h6 h7 h8 : Nat → Int32) (sz pl tr : Nat) (hpl : pl ≤ 5) (htr : tr ≤ 6) : Met l yX5_grow wsX5_grow ({ frames := 6, cells := 0, slots := 0, locals := 142 } : Room) (wr_P D (tysC cI cJ cZ cA) [.ref x0] (nw cI cA b rt rg (nI pl) (nI tr) f2 f3 tk gv ++ (tw cI cZ ta g0 g1 g2 g3 h4 h5 h6 h7 h8 ++ [(x0, .inr (4, [.ref (b 0), .ref x1, .ref xs, .ref (ta 0)]))])) sz) (wr_Qi D (S := Bool × Int32 × Int32 × (Nat → Int32) × (Nat → Int32) × (Nat → Int32) × (Nat → Int32) × (Nat → Int32)) (nw cI cA b rt rg (nI pl) (nI tr) f2 f3 tk gv ++ (tw cI cZ ta g0 g1 g2 g3 h4 h5 h6 h7 h8 ++ [(x0, .inr (4, [.ref (b 0), .ref x1, .ref xs, .ref (ta 0)]))])) sz (fun r9 u => (fun u => ((growC pl (canP pl tk) (kidP pl (nI 1000000000) tk gv) tr f2 1001).length ≤ 1000 → u.1 = true ∧ u.2.1 = nI (growC pl (canP pl tk) (kidP pl (nI 1000000000) tk gv) tr f2 1001).length ∧ u.2.2.1 = nI (glL pl (mks (growC pl (canP pl tk) (kidP pl (nI 1000000000) tk gv) tr f2 1001)) (mks (growC pl (canP pl tk) (kidP pl (nI 1000000000) tk gv) tr f2 1001)).length).length ∧ rowsV u.2.2.2.2.1 0 (mks (growC pl (canP pl tk) (kidP pl (nI 1000000000) tk gv) tr f2 1001)) ∧ (∀ q, q < 6 → u.2.2.2.1 q = bI (firC pl (canP pl tk) (kidP pl (nI 1000000000) tk gv) tr f2 1001 q)) ∧ idxV u.2.2.2.2.2.2.2 (glL pl (mks (growC pl (canP pl tk) (kidP pl (nI 1000000000) tk gv) tr f2 1001)) (mks (growC pl (canP pl tk) (kidP pl (nI 1000000000) tk gv) tr f2 1001)).length)) ∧ (¬ (growC pl (canP pl tk) (kidP pl (nI 1000000000) tk gv) tr f2 1001).length ≤ 1000 → u.1 = false)) u ∧ r9 = if u.1 = true then u.2.1 else -1) (fun u => (nw cI cA b rt rg (nI pl) (nI tr) f2 f3 tk gv ++ (tw cI cZ ta (bI u.1) (nI pl) u.2.1 u.2.2.1 u.2.2.2.1 u.2.2.2.2.1 u.2.2.2.2.2.1 u.2.2.2.2.2.2.1 u.2.2.2.2.2.2.2 ++ [(x0, .inr (4, [.ref (b 0), .ref x1, .ref xs, .ref (ta 0)]))])))) 0 0 (va_A (nw cI cA b rt rg (nI pl) (nI tr) f2 f3 tk gv ++ (tw cI cZ ta g0 g1 g2 g3 h4 h5 h6 h7 h8 ++ [(x0, .inr (4, [.ref (b 0), .ref x1, .ref xs, .ref (ta 0)]))])) sz) := by
  refine met_wi (cc := cX5_grow) (maxL := 1) (ty := .int) (by decide) rfl (Nat.le_of_ble_eq_true rfl) ?_
  intro p e s m args below meth c Q A hx hb hml hown hts hP hK hD hA hret ls hl
  obtain ⟨H, hH9⟩ : ∃ H : Heap, H = s.heap := ⟨_, rfl⟩
  have hP : va_P D vwCl (nw cI cA b rt rg (nI pl) (nI tr) f2 f3 tk gv ++ (tw cI cZ ta g0 g1 g2 g3 h4 h5 h6 h7 h8 ++ [(x0, .inr (4, [.ref (b 0), .ref x1, .ref xs, .ref (ta 0)]))])) H := by rw [hH9]; exact hP
  have hS : va_S A s.heap H [] := by rw [hH9]; exact va_S.rf
  rw [← hH9]
  have hown : s.vm.findClass RX5 = some m.cls := hown
  have hin5 : ∀ w ∈ wsX50, w ∈ wsX5_grow := by decide +kernel
  have hin4 : ∀ w ∈ wsX40, w ∈ wsX5_grow := by decide +kernel
  have fl30 := hts (.fieldLink RX5 30 "CoverRounds" "tree" "LCoverRounds$Tree;") (by decide +kernel)
  have fl12 := hts (.fieldLink RX5 12 "CoverRounds" "net" "LCoverRounds$Net;") (by decide +kernel)
  have fl91 := hts (.fieldLink RX5 91 "CoverRounds$Tree" "isGrown" "Z") (by decide +kernel)
  have fl95 := hts (.fieldLink RX5 95 "CoverRounds$Tree" "nodes" "I") (by decide +kernel)
  have hl : lv_has ls 1 [(0, .ref x0)] := hl
  refine lv_aload_n hx hb dX5_grow_0 rfl (lv_at hl 0 rfl) ?_
  refine va_get (D := D) (ci := 4) (v := .ref (ta 0)) (C := RX5) (T := TX5) (N := 4) hx hb hts hin5 hown hK hP 23 rfl rfl 3 (by decide) fl30 (fun _ h9 => h9) rfl dX5_grow_1 ?_
  refine lv_aload_n hx hb dX5_grow_4 rfl (lv_at hl 0 rfl) ?_
  refine va_get (D := D) (ci := 4) (v := .ref (b 0)) (C := RX5) (T := TX5) (N := 4) hx hb hts hin5 hown hK hP 23 rfl rfl 0 (by decide) fl12 (fun _ h9 => h9) rfl dX5_grow_5 ?_
  refine wk_VvW (As := [.ref (b 0)]) (rest := []) (wr := [(x0, .inr (4, [.ref (b 0), .ref x1, .ref xs, .ref (ta 0)]))]) ⟨hx, hb, hml, hown, hts⟩ (c_X4_growFrom l D cI cJ cZ cA b rt rg f2 f3 tk gv ta g0 g1 g2 g3 h4 h5 h6 h7 h8 H.size pl tr hpl htr) (cwV 1 hts gX5_grow_X4_growFrom rfl rfl rfl (by decide +kernel) ⟨Nat.le_of_ble_eq_true rfl, Nat.le_of_ble_eq_true rfl⟩) hK hP hD hA [0, 1, 2, 3, 4, 5, 6, 7, 8, 9, 10, 11, 12, 13, 14, 15, 16, 17, 18, 19, 20, 21, 22] rfl (by decide) [23] rfl (by decide) (by decide) 17 3 rfl rfl hS rfl hl.1 rfl (Nat.le_of_ble_eq_true rfl) dX5_grow_8 ⟨Nat.zero_le _, Nat.zero_le _⟩ (fun u9 H locs hu hP hD hS => ?_)
  have hP : va_P D vwCl (nw cI cA b rt rg (nI pl) (nI tr) f2 f3 tk gv ++ (tw cI cZ ta (bI u9.1) (nI pl) u9.2.1 u9.2.2.1 u9.2.2.2.1 u9.2.2.2.2.1 u9.2.2.2.2.2.1 u9.2.2.2.2.2.2.1 u9.2.2.2.2.2.2.2 ++ [(x0, .inr (4, [.ref (b 0), .ref x1, .ref xs, .ref (ta 0)]))])) H := hP.sub [1, 2, 3, 4, 5, 6, 7, 8, 9, 10, 11, 12, 13, 14, 15, 16, 17, 18, 19, 20, 21, 22, 23, 0] rfl
  have hD : va_D A (nw cI cA b rt rg (nI pl) (nI tr) f2 f3 tk gv ++ (tw cI cZ ta (bI u9.1) (nI pl) u9.2.1 u9.2.2.1 u9.2.2.2.1 u9.2.2.2.2.1 u9.2.2.2.2.2.1 u9.2.2.2.2.2.2.1 u9.2.2.2.2.2.2.2 ++ [(x0, .inr (4, [.ref (b 0), .ref x1, .ref xs, .ref (ta 0)]))])) := hD.sub [1, 2, 3, 4, 5, 6, 7, 8, 9, 10, 11, 12, 13, 14, 15, 16, 17, 18, 19, 20, 21, 22, 23, 0] (by decide) rfl
  refine lv_aload_n hx hb dX5_grow_11 rfl (lv_at hl 0 rfl) ?_
  refine va_get (D := D) (ci := 4) (v := .ref (ta 0)) (C := RX5) (T := TX5) (N := 4) hx hb hts hin5 hown hK hP 23 rfl rfl 3 (by decide) fl30 (fun _ h9 => h9) rfl dX5_grow_12 ?_
  refine va_get (D := D) (ci := 3) (v := .int (bI u9.1)) (C := RX4) (T := TX4) (N := 9) hx hb hts hin4 hown hK hP 17 rfl rfl 0 (by decide) fl91 (fun _ h9 => h9) rfl dX5_grow_15 ?_
  refine wk_if_eqb (tgt := 31) hx hb dX5_grow_18 (by decide) (fun c18 => ?_) (fun c18 => ?_)
  · skip
    refine lv_iconst (v := -1) hx hb dX5_grow_31 (by decide) ?_
    exact hret _ u9 _ _ _ _ _ _ rfl ⟨hu, by rw [if_neg (by rw [c18]; exact Bool.false_ne_true)]⟩ hP hD dX5_grow_32 hS (Nat.zero_le _) (Nat.zero_le _)
  · skip
    refine lv_aload_n hx hb dX5_grow_21 rfl (lv_at hl 0 rfl) ?_
    refine va_get (D := D) (ci := 4) (v := .ref (ta 0)) (C := RX5) (T := TX5) (N := 4) hx hb hts hin5 hown hK hP 23 rfl rfl 3 (by decide) fl30 (fun _ h9 => h9) rfl dX5_grow_22 ?_
    refine va_get (D := D) (ci := 3) (v := .int u9.2.1) (C := RX4) (T := TX4) (N := 9) hx hb hts hin4 hown hK hP 17 rfl rfl 2 (by decide) fl95 (fun _ h9 => h9) rfl dX5_grow_25 ?_
    refine lv_goto (tgt := 32) hx hb dX5_grow_28 (by decide) ?_
    exact hret _ u9 _ _ _ _ _ _ rfl ⟨hu, by rw [if_pos c18]⟩ hP hD dX5_grow_32 hS (Nat.zero_le _) (Nat.zero_le _)

set_option maxHeartbeats 4000000 in
set_option maxRecDepth 100000 in
theorem c_X5_most_f (l : Launch) (D : va_G) (cI cJ cZ cA : ClassId) (x0 xn x1 xs : Nat) (ta : Nat → Nat) (g1 g2 g3 : Int32) (h4 h5 h6 h7 h8 : Nat → Int32) (x : Int32) : Met l yX5_most wsX5_most ({ frames := 3, cells := 0, slots := 0, locals := 67 } : Room) (ro_P D (tysC cI cJ cZ cA) [.ref x0, .int x] (tw cI cZ ta (bI false) g1 g2 g3 h4 h5 h6 h7 h8 ++ [(x0, .inr (4, [.ref xn, .ref x1, .ref xs, .ref (ta 0)]))])) (ro_Q (-1)) 0 0 (fun _ => False) := by
  refine met_ro (cc := cX5_most) (maxL := 2) (ty := .int) (by decide) rfl (Nat.le_of_ble_eq_true rfl) rfl ?_
  intro p e s m args below meth c Q hx hb hml hown hts hP hK hret ls hl
  obtain ⟨H, hH9⟩ : ∃ H : Heap, H = s.heap := ⟨_, rfl⟩
  have hP : va_P D vwCl (tw cI cZ ta (bI false) g1 g2 g3 h4 h5 h6 h7 h8 ++ [(x0, .inr (4, [.ref xn, .ref x1, .ref xs, .ref (ta 0)]))]) H := by rw [hH9]; exact hP
  have hS : va_S (fun _ => False) s.heap H [] := by rw [hH9]; exact va_S.rf
  rw [← hH9]
  have hown : s.vm.findClass RX5 = some m.cls := hown
  have hin5 : ∀ w ∈ wsX50, w ∈ wsX5_most := by decide +kernel
  have hin4 : ∀ w ∈ wsX40, w ∈ wsX5_most := by decide +kernel
  have fl30 := hts (.fieldLink RX5 30 "CoverRounds" "tree" "LCoverRounds$Tree;") (by decide +kernel)
  have fl91 := hts (.fieldLink RX5 91 "CoverRounds$Tree" "isGrown" "Z") (by decide +kernel)
  have hl : lv_has ls 2 [(0, .ref x0), (1, .int x)] := hl
  refine lv_aload_n hx hb dX5_most_0 rfl (lv_at hl 0 rfl) ?_
  refine va_get (D := D) (ci := 4) (v := .ref (ta 0)) (C := RX5) (T := TX5) (N := 4) hx hb hts hin5 hown hK hP 6 rfl rfl 3 (by decide) fl30 (fun _ h9 => h9) rfl dX5_most_1 ?_
  refine va_get (D := D) (ci := 3) (v := .int (bI false)) (C := RX4) (T := TX4) (N := 9) hx hb hts hin4 hown hK hP 0 rfl rfl 0 (by decide) fl91 (fun _ h9 => h9) rfl dX5_most_4 ?_
  refine wk_if_eqb (tgt := 35) hx hb dX5_most_7 (by decide) (fun c7 => ?_) (fun c7 => absurd c7 (by decide))
  refine lv_iconst (v := -1) hx hb dX5_most_35 (by decide) ?_
  exact hret _ _ _ _ _ rfl dX5_most_36 hS

set_option maxHeartbeats 4000000 in
set_option maxRecDepth 100000 in
theorem c_X5_most (l : Launch) (D : va_G) (cI cJ cZ cA : ClassId) (x0 xn x1 xs : Nat) (ta : Nat → Nat) (g2 : Int32) (h4 h5 h6 h7 h8 : Nat → Int32) (gp : Nat) (hgp : gp ≤ 5) (Ms : List Rw) (C : List Nat) (hX : rowsV h5 0 Ms) (hXl : Ms.length ≤ 1000) (hC : idxV h8 C) (hCl : C.length ≤ 1000) (hCM : ∀ v, v ∈ C → v < Ms.length) (x0_ : Int32) : Met l yX5_most wsX5_most ({ frames := 3, cells := 0, slots := 0, locals := 67 } : Room) (ro_P D (tysC cI cJ cZ cA) [.ref x0, .int x0_] (tw cI cZ ta (bI true) (nI gp) g2 (nI C.length) h4 h5 h6 h7 h8 ++ [(x0, .inr (4, [.ref xn, .ref x1, .ref xs, .ref (ta 0)]))])) (ro_Q (if inB x0_ (nI gp) = true then tolM (nI 1000000000) (mxC Ms C x0_.toNatClampNeg) else -1)) 0 0 (fun _ => False) := by
  refine met_ro (cc := cX5_most) (maxL := 2) (ty := .int) (by decide) rfl (Nat.le_of_ble_eq_true rfl) rfl ?_
  intro p e s m args below meth c Q hx hb hml hown hts hP hK hret ls hl
  obtain ⟨H, hH9⟩ : ∃ H : Heap, H = s.heap := ⟨_, rfl⟩
  have hP : va_P D vwCl (tw cI cZ ta (bI true) (nI gp) g2 (nI C.length) h4 h5 h6 h7 h8 ++ [(x0, .inr (4, [.ref xn, .ref x1, .ref xs, .ref (ta 0)]))]) H := by rw [hH9]; exact hP
  have hS : va_S (fun _ => False) s.heap H [] := by rw [hH9]; exact va_S.rf
  rw [← hH9]
  have hown : s.vm.findClass RX5 = some m.cls := hown
  have hin5 : ∀ w ∈ wsX50, w ∈ wsX5_most := by decide +kernel
  have hin4 : ∀ w ∈ wsX40, w ∈ wsX5_most := by decide +kernel
  have fl30 := hts (.fieldLink RX5 30 "CoverRounds" "tree" "LCoverRounds$Tree;") (by decide +kernel)
  have fl91 := hts (.fieldLink RX5 91 "CoverRounds$Tree" "isGrown" "Z") (by decide +kernel)
  have hl : lv_has ls 2 [(0, .ref x0), (1, .int x0_)] := hl
  refine lv_aload_n hx hb dX5_most_0 rfl (lv_at hl 0 rfl) ?_
  refine va_get (D := D) (ci := 4) (v := .ref (ta 0)) (C := RX5) (T := TX5) (N := 4) hx hb hts hin5 hown hK hP 6 rfl rfl 3 (by decide) fl30 (fun _ h9 => h9) rfl dX5_most_1 ?_
  refine va_get (D := D) (ci := 3) (v := .int (bI true)) (C := RX4) (T := TX4) (N := 9) hx hb hts hin4 hown hK hP 0 rfl rfl 0 (by decide) fl91 (fun _ h9 => h9) rfl dX5_most_4 ?_
  refine wk_if_eqb (tgt := 35) hx hb dX5_most_7 (by decide) (fun c7 => absurd c7 (by decide)) (fun c7 => ?_)
  refine lv_aload_n hx hb dX5_most_10 rfl (lv_at hl 0 rfl) ?_
  refine va_get (D := D) (ci := 4) (v := .ref (ta 0)) (C := RX5) (T := TX5) (N := 4) hx hb hts hin5 hown hK hP 6 rfl rfl 3 (by decide) fl30 (fun _ h9 => h9) rfl dX5_most_11 ?_
  refine lv_iload_n hx hb dX5_most_14 rfl (lv_at hl 1 rfl) ?_
  refine wk_Vi (As := [.int x0_]) (rest := []) ⟨hx, hb, hml, hown, hts⟩ (c_X4_hasPlace l D cI cJ cZ cA ta (bI true) (nI gp) g2 (nI C.length) h4 h5 h6 h7 h8 x0_) (cwV 1 hts gX5_most_X4_hasPlace rfl rfl rfl (by decide +kernel) ⟨Nat.le_of_ble_eq_true rfl, Nat.le_of_ble_eq_true rfl⟩) hK hP [0, 1, 2, 3, 4, 5] rfl 0 3 rfl rfl hS rfl hl.1 rfl (Nat.le_of_ble_eq_true rfl) dX5_most_15 ⟨Nat.zero_le _, Nat.zero_le _⟩ (fun H locs hP hS => ?_)
  refine wk_if_eqb (tgt := 35) hx hb dX5_most_18 (by decide) (fun c18 => ?_) (fun c18 => ?_)
  · skip
    refine lv_iconst (v := -1) hx hb dX5_most_35 (by decide) ?_
    exact hret _ _ _ _ _ (by rw [if_neg (by rw [c18]; exact Bool.false_ne_true)]) dX5_most_36 hS
  · skip
    obtain ⟨j, hj, rfl⟩ := inB_nI (by omega) c18
    refine lv_aload_n hx hb dX5_most_21 rfl (lv_at hl 0 rfl) ?_
    refine va_get (D := D) (ci := 4) (v := .ref (ta 0)) (C := RX5) (T := TX5) (N := 4) hx hb hts hin5 hown hK hP 6 rfl rfl 3 (by decide) fl30 (fun _ h9 => h9) rfl dX5_most_22 ?_
    refine lv_iload_n hx hb dX5_most_25 rfl (lv_at hl 1 rfl) ?_
    refine wk_Vi (As := [.int (nI j)]) (rest := []) ⟨hx, hb, hml, hown, hts⟩ (c_X4_mostAt l D cI cJ cZ cA ta (bI true) (nI gp) g2 h4 h5 h6 h7 h8 j (by omega) Ms C hX hXl hC hCl hCM) (cwV 1 hts gX5_most_X4_mostAt rfl rfl rfl (by decide +kernel) ⟨Nat.le_of_ble_eq_true rfl, Nat.le_of_ble_eq_true rfl⟩) hK hP [0, 1, 2, 3, 4, 5] rfl 0 3 rfl rfl hS rfl hl.1 rfl (Nat.le_of_ble_eq_true rfl) dX5_most_26 ⟨Nat.zero_le _, Nat.zero_le _⟩ (fun H locs hP hS => ?_)
    refine wk_Si (As := [.int (mxC Ms C j)]) (rest := []) ⟨hx, hb, hml, hown, hts⟩ (c_X5_told l D cI cJ cZ cA (mxC Ms C j)) (va_cwS 1 hts gX5_most_X5_told rfl rfl rfl (by decide +kernel) ⟨Nat.le_of_ble_eq_true rfl, Nat.le_of_ble_eq_true rfl⟩) hK hP [] rfl hS rfl hl.1 rfl (Nat.le_of_ble_eq_true rfl) dX5_most_29 ⟨Nat.zero_le _, Nat.zero_le _⟩ (fun H locs hP hS => ?_)
    refine lv_goto (tgt := 36) hx hb dX5_most_32 (by decide) ?_
    exact hret _ _ _ _ _ (by rw [if_pos c18, nI_clamp (by omega)]) dX5_most_36 hS

set_option maxHeartbeats 4000000 in
set_option maxRecDepth 100000 in
theorem c_X5_live (l : Launch) (D : va_G) (cI cJ cZ cA : ClassId) (x0 xn x1 xs : Nat) (ta : Nat → Nat) (g1 g2 g3 : Int32) (h4 h5 h6 h7 h8 : Nat → Int32) (g : Bool) (fr : Nat → Bool) (hfr : g = true → ∀ q, q < 6 → h4 q = bI (fr q)) (x : Int32) : Met l yX5_live wsX5_live ({ frames := 1, cells := 0, slots := 0, locals := 21 } : Room) (ro_P D (tysC cI cJ cZ cA) [.ref x0, .int x] (tw cI cZ ta (bI g) g1 g2 g3 h4 h5 h6 h7 h8 ++ [(x0, .inr (4, [.ref xn, .ref x1, .ref xs, .ref (ta 0)]))])) (ro_Q (bI (g && (inC x (nI 5) && fr x.toNatClampNeg)))) 0 0 (fun _ => False) := by
  refine met_ro (cc := cX5_live) (maxL := 2) (ty := .boolean) (by decide) rfl (Nat.le_of_ble_eq_true rfl) (bI_n _) ?_
  intro p e s m args below meth c Q hx hb hml hown hts hP hK hret ls hl
  obtain ⟨H, hH9⟩ : ∃ H : Heap, H = s.heap := ⟨_, rfl⟩
  have hP : va_P D vwCl (tw cI cZ ta (bI g) g1 g2 g3 h4 h5 h6 h7 h8 ++ [(x0, .inr (4, [.ref xn, .ref x1, .ref xs, .ref (ta 0)]))]) H := by rw [hH9]; exact hP
  have hS : va_S (fun _ => False) s.heap H [] := by rw [hH9]; exact va_S.rf
  rw [← hH9]
  have hown : s.vm.findClass RX5 = some m.cls := hown
  have hin5 : ∀ w ∈ wsX50, w ∈ wsX5_live := by decide +kernel
  have hin4 : ∀ w ∈ wsX40, w ∈ wsX5_live := by decide +kernel
  have fl30 := hts (.fieldLink RX5 30 "CoverRounds" "tree" "LCoverRounds$Tree;") (by decide +kernel)
  have fl91 := hts (.fieldLink RX5 91 "CoverRounds$Tree" "isGrown" "Z") (by decide +kernel)
  have fl106 := hts (.fieldLink RX5 106 "CoverRounds$Tree" "fires" "[Z") (by decide +kernel)
  have hl : lv_has ls 2 [(0, .ref x0), (1, .int x)] := hl
  refine lv_aload_n hx hb dX5_live_0 rfl (lv_at hl 0 rfl) ?_
  refine va_get (D := D) (ci := 4) (v := .ref (ta 0)) (C := RX5) (T := TX5) (N := 4) hx hb hts hin5 hown hK hP 6 rfl rfl 3 (by decide) fl30 (fun _ h9 => h9) rfl dX5_live_1 ?_
  refine va_get (D := D) (ci := 3) (v := .int (bI g)) (C := RX4) (T := TX4) (N := 9) hx hb hts hin4 hown hK hP 0 rfl rfl 0 (by decide) fl91 (fun _ h9 => h9) rfl dX5_live_4 ?_
  refine wk_if_eqb (tgt := 34) hx hb dX5_live_7 (by decide) (fun c7 => ?_) (fun c7 => ?_)
  · skip
    refine lv_iconst (v := nI 0) hx hb dX5_live_34 (by decide) ?_
    exact hret _ _ _ _ _ (bI_F (by simp [c7])) dX5_live_35 hS
  · skip
    refine lv_iload_n hx hb dX5_live_10 rfl (lv_at hl 1 rfl) ?_
    refine lv_iconst (v := nI 5) hx hb dX5_live_11 (by decide) ?_
    refine wk_Si (As := [.int x, .int (nI 5)]) (rest := []) ⟨hx, hb, hml, hown, hts⟩ (c_X5_isWithin l D cI cJ cZ cA x (nI 5)) (va_cwS 2 hts gX5_live_X5_isWithin rfl rfl rfl (by decide +kernel) ⟨Nat.le_of_ble_eq_true rfl, Nat.le_of_ble_eq_true rfl⟩) hK hP [] rfl hS rfl hl.1 rfl (Nat.le_of_ble_eq_true rfl) dX5_live_12 ⟨Nat.zero_le _, Nat.zero_le _⟩ (fun H locs hP hS => ?_)
    refine wk_if_eqb (tgt := 34) hx hb dX5_live_15 (by decide) (fun c15 => ?_) (fun c15 => ?_)
    · skip
      refine lv_iconst (v := nI 0) hx hb dX5_live_34 (by decide) ?_
      exact hret _ _ _ _ _ (bI_F (by simp [c7, c15])) dX5_live_35 hS
    · skip
      obtain ⟨j, hj, rfl⟩ := inC_nI (by omega) c15
      have hcl : (nI j).toNatClampNeg = j := nI_clamp (by omega)
      refine lv_aload_n hx hb dX5_live_18 rfl (lv_at hl 0 rfl) ?_
      refine va_get (D := D) (ci := 4) (v := .ref (ta 0)) (C := RX5) (T := TX5) (N := 4) hx hb hts hin5 hown hK hP 6 rfl rfl 3 (by decide) fl30 (fun _ h9 => h9) rfl dX5_live_19 ?_
      refine va_get (D := D) (ci := 3) (v := .ref (ta 4)) (C := RX4) (T := TX4) (N := 9) hx hb hts hin4 hown hK hP 0 rfl rfl 4 (by decide) fl106 (fun _ h9 => h9) rfl dX5_live_22 ?_
      refine lv_iload_n hx hb dX5_live_25 rfl (lv_at hl 1 rfl) ?_
      refine wk_zald hx hb hK hP 1 2 rfl rfl (i := j) (by omega) (by omega) dX5_live_26 ?_
      rw [show (h4 j) = (bI (fr j)) from (hfr c7 j (by omega))]
      refine wk_if_eqb (tgt := 34) hx hb dX5_live_27 (by decide) (fun c27 => ?_) (fun c27 => ?_)
      · skip
        refine lv_iconst (v := nI 0) hx hb dX5_live_34 (by decide) ?_
        exact hret _ _ _ _ _ (bI_F (by simp [c7, c15, c27, hcl])) dX5_live_35 hS
      · skip
        refine lv_iconst (v := nI 1) hx hb dX5_live_30 (by decide) ?_
        refine lv_goto (tgt := 35) hx hb dX5_live_31 (by decide) ?_
        exact hret _ _ _ _ _ (bI_T (by simp [c7, c15, c27, hcl])) dX5_live_35 hS

set_option maxHeartbeats 4000000 in
set_option maxRecDepth 100000 in
theorem c_X5_limits (l : Launch) (D : va_G) (cI cJ cZ cA : ClassId) (x0 xn x1 xs : Nat) (ta : Nat → Nat) (g1 g2 g3 : Int32) (h4 h5 h6 h7 h8 : Nat → Int32) (g : Bool) : Met l yX5_limits wsX5_limits ({ frames := 0, cells := 0, slots := 0, locals := 0 } : Room) (ro_P D (tysC cI cJ cZ cA) [.ref x0] (tw cI cZ ta (bI g) g1 g2 g3 h4 h5 h6 h7 h8 ++ [(x0, .inr (4, [.ref xn, .ref x1, .ref xs, .ref (ta 0)]))])) (ro_Q (if g = true then g3 else -1)) 0 0 (fun _ => False) := by
  refine met_ro (cc := cX5_limits) (maxL := 1) (ty := .int) (by decide) rfl (Nat.le_of_ble_eq_true rfl) rfl ?_
  intro p e s m args below meth c Q hx hb hml hown hts hP hK hret ls hl
  obtain ⟨H, hH9⟩ : ∃ H : Heap, H = s.heap := ⟨_, rfl⟩
  have hP : va_P D vwCl (tw cI cZ ta (bI g) g1 g2 g3 h4 h5 h6 h7 h8 ++ [(x0, .inr (4, [.ref xn, .ref x1, .ref xs, .ref (ta 0)]))]) H := by rw [hH9]; exact hP
  have hS : va_S (fun _ => False) s.heap H [] := by rw [hH9]; exact va_S.rf
  rw [← hH9]
  have hown : s.vm.findClass RX5 = some m.cls := hown
  have hin5 : ∀ w ∈ wsX50, w ∈ wsX5_limits := by decide +kernel
  have hin4 : ∀ w ∈ wsX40, w ∈ wsX5_limits := by decide +kernel
  have fl30 := hts (.fieldLink RX5 30 "CoverRounds" "tree" "LCoverRounds$Tree;") (by decide +kernel)
  have fl91 := hts (.fieldLink RX5 91 "CoverRounds$Tree" "isGrown" "Z") (by decide +kernel)
  have fl110 := hts (.fieldLink RX5 110 "CoverRounds$Tree" "limitCount" "I") (by decide +kernel)
  have hl : lv_has ls 1 [(0, .ref x0)] := hl
  refine lv_aload_n hx hb dX5_limits_0 rfl (lv_at hl 0 rfl) ?_
  refine va_get (D := D) (ci := 4) (v := .ref (ta 0)) (C := RX5) (T := TX5) (N := 4) hx hb hts hin5 hown hK hP 6 rfl rfl 3 (by decide) fl30 (fun _ h9 => h9) rfl dX5_limits_1 ?_
  refine va_get (D := D) (ci := 3) (v := .int (bI g)) (C := RX4) (T := TX4) (N := 9) hx hb hts hin4 hown hK hP 0 rfl rfl 0 (by decide) fl91 (fun _ h9 => h9) rfl dX5_limits_4 ?_
  refine wk_if_eqb (tgt := 20) hx hb dX5_limits_7 (by decide) (fun c7 => ?_) (fun c7 => ?_)
  · skip
    refine lv_iconst (v := -1) hx hb dX5_limits_20 (by decide) ?_
    exact hret _ _ _ _ _ (by rw [if_neg (by rw [c7]; exact Bool.false_ne_true)]) dX5_limits_21 hS
  · skip
    refine lv_aload_n hx hb dX5_limits_10 rfl (lv_at hl 0 rfl) ?_
    refine va_get (D := D) (ci := 4) (v := .ref (ta 0)) (C := RX5) (T := TX5) (N := 4) hx hb hts hin5 hown hK hP 6 rfl rfl 3 (by decide) fl30 (fun _ h9 => h9) rfl dX5_limits_11 ?_
    refine va_get (D := D) (ci := 3) (v := .int g3) (C := RX4) (T := TX4) (N := 9) hx hb hts hin4 hown hK hP 0 rfl rfl 3 (by decide) fl110 (fun _ h9 => h9) rfl dX5_limits_14 ?_
    refine lv_goto (tgt := 21) hx hb dX5_limits_17 (by decide) ?_
    exact hret _ _ _ _ _ (by rw [if_pos c7]) dX5_limits_21 hS

set_option maxHeartbeats 4000000 in
set_option maxRecDepth 100000 in
theorem c_X5_limit_f (l : Launch) (D : va_G) (cI cJ cZ cA : ClassId) (x0 xn x1 xs : Nat) (ta : Nat → Nat) (g1 g2 g3 : Int32) (h4 h5 h6 h7 h8 : Nat → Int32) (y0 y1 : Int32) : Met l yX5_limit wsX5_limit ({ frames := 2, cells := 0, slots := 0, locals := 44 } : Room) (ro_P D (tysC cI cJ cZ cA) [.ref x0, .int y0, .int y1] (tw cI cZ ta (bI false) g1 g2 g3 h4 h5 h6 h7 h8 ++ [(x0, .inr (4, [.ref xn, .ref x1, .ref xs, .ref (ta 0)]))])) (ro_Q (-1)) 0 0 (fun _ => False) := by
  refine met_ro (cc := cX5_limit) (maxL := 3) (ty := .int) (by decide) rfl (Nat.le_of_ble_eq_true rfl) rfl ?_
  intro p e s m args below meth c Q hx hb hml hown hts hP hK hret ls hl
  obtain ⟨H, hH9⟩ : ∃ H : Heap, H = s.heap := ⟨_, rfl⟩
  have hP : va_P D vwCl (tw cI cZ ta (bI false) g1 g2 g3 h4 h5 h6 h7 h8 ++ [(x0, .inr (4, [.ref xn, .ref x1, .ref xs, .ref (ta 0)]))]) H := by rw [hH9]; exact hP
  have hS : va_S (fun _ => False) s.heap H [] := by rw [hH9]; exact va_S.rf
  rw [← hH9]
  have hown : s.vm.findClass RX5 = some m.cls := hown
  have hin5 : ∀ w ∈ wsX50, w ∈ wsX5_limit := by decide +kernel
  have hin4 : ∀ w ∈ wsX40, w ∈ wsX5_limit := by decide +kernel
  have fl30 := hts (.fieldLink RX5 30 "CoverRounds" "tree" "LCoverRounds$Tree;") (by decide +kernel)
  have fl91 := hts (.fieldLink RX5 91 "CoverRounds$Tree" "isGrown" "Z") (by decide +kernel)
  have fl110 := hts (.fieldLink RX5 110 "CoverRounds$Tree" "limitCount" "I") (by decide +kernel)
  have hl : lv_has ls 3 [(0, .ref x0), (1, .int y0), (2, .int y1)] := hl
  refine lv_aload_n hx hb dX5_limit_0 rfl (lv_at hl 0 rfl) ?_
  refine va_get (D := D) (ci := 4) (v := .ref (ta 0)) (C := RX5) (T := TX5) (N := 4) hx hb hts hin5 hown hK hP 6 rfl rfl 3 (by decide) fl30 (fun _ h9 => h9) rfl dX5_limit_1 ?_
  refine va_get (D := D) (ci := 3) (v := .int (bI false)) (C := RX4) (T := TX4) (N := 9) hx hb hts hin4 hown hK hP 0 rfl rfl 0 (by decide) fl91 (fun _ h9 => h9) rfl dX5_limit_4 ?_
  refine wk_if_eqb (tgt := 36) hx hb dX5_limit_7 (by decide) (fun c7 => ?_) (fun c7 => absurd c7 (by decide))
  refine lv_iconst (v := -1) hx hb dX5_limit_36 (by decide) ?_
  exact hret _ _ _ _ _ rfl dX5_limit_37 hS

set_option maxHeartbeats 4000000 in
set_option maxRecDepth 100000 in
theorem c_X5_limit (l : Launch) (D : va_G) (cI cJ cZ cA : ClassId) (x0 xn x1 xs : Nat) (ta : Nat → Nat) (g2 : Int32) (h4 h5 h6 h7 h8 : Nat → Int32) (gp : Nat) (hgp : gp ≤ 5) (Ms : List Rw) (C : List Nat) (hX : rowsV h5 0 Ms) (hXl : Ms.length ≤ 1000) (hC : idxV h8 C) (hCl : C.length ≤ 1000) (hCM : ∀ v, v ∈ C → v < Ms.length) (y0 y1 : Int32) : Met l yX5_limit wsX5_limit ({ frames := 2, cells := 0, slots := 0, locals := 44 } : Room) (ro_P D (tysC cI cJ cZ cA) [.ref x0, .int y0, .int y1] (tw cI cZ ta (bI true) (nI gp) g2 (nI C.length) h4 h5 h6 h7 h8 ++ [(x0, .inr (4, [.ref xn, .ref x1, .ref xs, .ref (ta 0)]))])) (ro_Q (if inB y1 (nI gp) = true ∧ inB y0 (nI C.length) = true then tolM (nI 1000000000) ((Ms.getD (C.getD y0.toNatClampNeg 0) zR) y1.toNatClampNeg) else -1)) 0 0 (fun _ => False) := by
  refine met_ro (cc := cX5_limit) (maxL := 3) (ty := .int) (by decide) rfl (Nat.le_of_ble_eq_true rfl) rfl ?_
  intro p e s m args below meth c Q hx hb hml hown hts hP hK hret ls hl
  obtain ⟨H, hH9⟩ : ∃ H : Heap, H = s.heap := ⟨_, rfl⟩
  have hP : va_P D vwCl (tw cI cZ ta (bI true) (nI gp) g2 (nI C.length) h4 h5 h6 h7 h8 ++ [(x0, .inr (4, [.ref xn, .ref x1, .ref xs, .ref (ta 0)]))]) H := by rw [hH9]; exact hP
  have hS : va_S (fun _ => False) s.heap H [] := by rw [hH9]; exact va_S.rf
  rw [← hH9]
  have hown : s.vm.findClass RX5 = some m.cls := hown
  have hin5 : ∀ w ∈ wsX50, w ∈ wsX5_limit := by decide +kernel
  have hin4 : ∀ w ∈ wsX40, w ∈ wsX5_limit := by decide +kernel
  have fl30 := hts (.fieldLink RX5 30 "CoverRounds" "tree" "LCoverRounds$Tree;") (by decide +kernel)
  have fl91 := hts (.fieldLink RX5 91 "CoverRounds$Tree" "isGrown" "Z") (by decide +kernel)
  have fl110 := hts (.fieldLink RX5 110 "CoverRounds$Tree" "limitCount" "I") (by decide +kernel)
  have hl : lv_has ls 3 [(0, .ref x0), (1, .int y0), (2, .int y1)] := hl
  refine lv_aload_n hx hb dX5_limit_0 rfl (lv_at hl 0 rfl) ?_
  refine va_get (D := D) (ci := 4) (v := .ref (ta 0)) (C := RX5) (T := TX5) (N := 4) hx hb hts hin5 hown hK hP 6 rfl rfl 3 (by decide) fl30 (fun _ h9 => h9) rfl dX5_limit_1 ?_
  refine va_get (D := D) (ci := 3) (v := .int (bI true)) (C := RX4) (T := TX4) (N := 9) hx hb hts hin4 hown hK hP 0 rfl rfl 0 (by decide) fl91 (fun _ h9 => h9) rfl dX5_limit_4 ?_
  refine wk_if_eqb (tgt := 36) hx hb dX5_limit_7 (by decide) (fun c7 => absurd c7 (by decide)) (fun c7 => ?_)
  refine lv_aload_n hx hb dX5_limit_10 rfl (lv_at hl 0 rfl) ?_
  refine va_get (D := D) (ci := 4) (v := .ref (ta 0)) (C := RX5) (T := TX5) (N := 4) hx hb hts hin5 hown hK hP 6 rfl rfl 3 (by decide) fl30 (fun _ h9 => h9) rfl dX5_limit_11 ?_
  refine lv_iload_n hx hb dX5_limit_14 rfl (lv_at hl 2 rfl) ?_
  refine wk_Vi (As := [.int y1]) (rest := []) ⟨hx, hb, hml, hown, hts⟩ (c_X4_hasPlace l D cI cJ cZ cA ta (bI true) (nI gp) g2 (nI C.length) h4 h5 h6 h7 h8 y1) (cwV 1 hts gX5_limit_X4_hasPlace rfl rfl rfl (by decide +kernel) ⟨Nat.le_of_ble_eq_true rfl, Nat.le_of_ble_eq_true rfl⟩) hK hP [0, 1, 2, 3, 4, 5] rfl 0 3 rfl rfl hS rfl hl.1 rfl (Nat.le_of_ble_eq_true rfl) dX5_limit_15 ⟨Nat.zero_le _, Nat.zero_le _⟩ (fun H locs hP hS => ?_)
  refine wk_if_eqb (tgt := 36) hx hb dX5_limit_18 (by decide) (fun c18 => ?_) (fun c18 => ?_)
  · skip
    refine lv_iconst (v := -1) hx hb dX5_limit_36 (by decide) ?_
    exact hret _ _ _ _ _ (by rw [if_neg (fun h => by rw [c18] at h; exact absurd h.1 Bool.false_ne_true)]) dX5_limit_37 hS
  · skip
    obtain ⟨j, hj, rfl⟩ := inB_nI (by omega) c18
    refine lv_iload_n hx hb dX5_limit_21 rfl (lv_at hl 1 rfl) ?_
    refine lv_if_lt (tgt := 36) hx hb dX5_limit_22 (by decide) (fun c22 => ?_) (fun c22 => ?_)
    · skip
      refine lv_iconst (v := -1) hx hb dX5_limit_36 (by decide) ?_
      exact hret _ _ _ _ _ (by rw [if_neg (fun h => by have h2 := h.2; simp [inB, c22] at h2)]) dX5_limit_37 hS
    · skip
      refine lv_iload_n hx hb dX5_limit_25 rfl (lv_at hl 1 rfl) ?_
      refine lv_aload_n hx hb dX5_limit_26 rfl (lv_at hl 0 rfl) ?_
      refine va_get (D := D) (ci := 4) (v := .ref (ta 0)) (C := RX5) (T := TX5) (N := 4) hx hb hts hin5 hown hK hP 6 rfl rfl 3 (by decide) fl30 (fun _ h9 => h9) rfl dX5_limit_27 ?_
      refine va_get (D := D) (ci := 3) (v := .int (nI C.length)) (C := RX4) (T := TX4) (N := 9) hx hb hts hin4 hown hK hP 0 rfl rfl 3 (by decide) fl110 (fun _ h9 => h9) rfl dX5_limit_30 ?_
      refine lv_icmp_lt (tgt := 38) hx hb dX5_limit_33 (by decide) (fun c33 => ?_) (fun c33 => ?_)
      · skip
        obtain ⟨k, hi, rfl, -⟩ := pk_mu c22 (Int32.not_le.mpr c33) (show C.length < 2 ^ 31 by omega)
        obtain ⟨v, hv9⟩ : ∃ v, C[k]? = some v := ⟨_, List.getElem?_eq_getElem (by omega)⟩
        have hvM := hCM v (List.mem_of_getElem? hv9)
        obtain ⟨x, hx9, hr9⟩ := rowsV_at0 hX hvM
        have hxe : Ms.getD v zR = x := getD_of hx9
        have hxr : ∀ q, q < 5 → h5 (5 * v + q) = (Ms.getD v zR) q := by rw [hxe]; exact hr9
        refine lv_aload_n hx hb dX5_limit_38 rfl (lv_at hl 0 rfl) ?_
        refine va_get (D := D) (ci := 4) (v := .ref (ta 0)) (C := RX5) (T := TX5) (N := 4) hx hb hts hin5 hown hK hP 6 rfl rfl 3 (by decide) fl30 (fun _ h9 => h9) rfl dX5_limit_39 ?_
        refine lv_iload_n hx hb dX5_limit_42 rfl (lv_at hl 1 rfl) ?_
        refine lv_iload_n hx hb dX5_limit_43 rfl (lv_at hl 2 rfl) ?_
        refine wk_Vi (As := [.int (nI k), .int (nI j)]) (rest := []) ⟨hx, hb, hml, hown, hts⟩ (c_X4_limitAt l D cI cJ cZ cA ta (bI true) (nI gp) g2 (nI C.length) h4 h5 h6 h7 h8 k j v (by omega) (by omega) (hC k v hv9) (by omega)) (cwV 2 hts gX5_limit_X4_limitAt rfl rfl rfl (by decide +kernel) ⟨Nat.le_of_ble_eq_true rfl, Nat.le_of_ble_eq_true rfl⟩) hK hP [0, 1, 2, 3, 4, 5] rfl 0 3 rfl rfl hS rfl hl.1 rfl (Nat.le_of_ble_eq_true rfl) dX5_limit_44 ⟨Nat.zero_le _, Nat.zero_le _⟩ (fun H locs hP hS => ?_)
        refine wk_Si (As := [.int (h5 (5 * v + j))]) (rest := []) ⟨hx, hb, hml, hown, hts⟩ (c_X5_told l D cI cJ cZ cA (h5 (5 * v + j))) (va_cwS 1 hts gX5_limit_X5_told rfl rfl rfl (by decide +kernel) ⟨Nat.le_of_ble_eq_true rfl, Nat.le_of_ble_eq_true rfl⟩) hK hP [] rfl hS rfl hl.1 rfl (Nat.le_of_ble_eq_true rfl) dX5_limit_47 ⟨Nat.zero_le _, Nat.zero_le _⟩ (fun H locs hP hS => ?_)
        exact hret _ _ _ _ _ (by rw [if_pos ⟨c18, inB_is hi (by omega)⟩, nI_clamp (by omega), nI_clamp (by omega), getD_of hv9, hxe, hr9 j (by omega)]) dX5_limit_50 hS
      · skip
        refine lv_iconst (v := -1) hx hb dX5_limit_36 (by decide) ?_
        exact hret _ _ _ _ _ (by rw [if_neg (fun h => by have h2 := h.2; simp [inB, Int32.not_lt.mp c33] at h2)]) dX5_limit_37 hS

set_option maxHeartbeats 4000000 in
set_option maxRecDepth 100000 in
theorem c_X5_covers_f (l : Launch) (D : va_G) (cI cJ cZ cA : ClassId) (x0 x1 xs : Nat) (pl tr : Int32) (b rt rg : Nat → Nat) (f2 f3 : Nat → Int32) (tk gv : Nat → Nat → Int32) (ta : Nat → Nat) (g1 g2 g3 : Int32) (h4 h5 h6 h7 h8 : Nat → Int32)  : Met l yX5_covers wsX5_covers ({ frames := 4, cells := 0, slots := 0, locals := 89 } : Room) (ro_P D (tysC cI cJ cZ cA) [.ref x0] (nw cI cA b rt rg pl tr f2 f3 tk gv ++ (tw cI cZ ta (bI false) g1 g2 g3 h4 h5 h6 h7 h8 ++ [(x0, .inr (4, [.ref (b 0), .ref x1, .ref xs, .ref (ta 0)]))]))) (ro_Q (bI false)) 0 0 (fun _ => False) := by
  refine met_ro (cc := cX5_covers) (maxL := 1) (ty := .boolean) (by decide) rfl (Nat.le_of_ble_eq_true rfl) (bI_n _) ?_
  intro p e s m args below meth c Q hx hb hml hown hts hP hK hret ls hl
  obtain ⟨H, hH9⟩ : ∃ H : Heap, H = s.heap := ⟨_, rfl⟩
  have hP : va_P D vwCl (nw cI cA b rt rg pl tr f2 f3 tk gv ++ (tw cI cZ ta (bI false) g1 g2 g3 h4 h5 h6 h7 h8 ++ [(x0, .inr (4, [.ref (b 0), .ref x1, .ref xs, .ref (ta 0)]))])) H := by rw [hH9]; exact hP
  have hS : va_S (fun _ => False) s.heap H [] := by rw [hH9]; exact va_S.rf
  rw [← hH9]
  have hown : s.vm.findClass RX5 = some m.cls := hown
  have hin5 : ∀ w ∈ wsX50, w ∈ wsX5_covers := by decide +kernel
  have hin4 : ∀ w ∈ wsX40, w ∈ wsX5_covers := by decide +kernel
  have hin0 : ∀ w ∈ wsX00, w ∈ wsX5_covers := by decide +kernel
  have fl30 := hts (.fieldLink RX5 30 "CoverRounds" "tree" "LCoverRounds$Tree;") (by decide +kernel)
  have fl91 := hts (.fieldLink RX5 91 "CoverRounds$Tree" "isGrown" "Z") (by decide +kernel)
  have fl117 := hts (.fieldLink RX5 117 "CoverRounds$Tree" "places" "I") (by decide +kernel)
  have fl12 := hts (.fieldLink RX5 12 "CoverRounds" "net" "LCoverRounds$Net;") (by decide +kernel)
  have fl34 := hts (.fieldLink RX5 34 "CoverRounds$Net" "places" "I") (by decide +kernel)
  have fl65 := hts (.fieldLink RX5 65 "CoverRounds$Net" "wanted" "[I") (by decide +kernel)
  have hl : lv_has ls 1 [(0, .ref x0)] := hl
  refine lv_aload_n hx hb dX5_covers_0 rfl (lv_at hl 0 rfl) ?_
  refine va_get (D := D) (ci := 4) (v := .ref (ta 0)) (C := RX5) (T := TX5) (N := 4) hx hb hts hin5 hown hK hP 23 rfl rfl 3 (by decide) fl30 (fun _ h9 => h9) rfl dX5_covers_1 ?_
  refine va_get (D := D) (ci := 3) (v := .int (bI false)) (C := RX4) (T := TX4) (N := 9) hx hb hts hin4 hown hK hP 17 rfl rfl 0 (by decide) fl91 (fun _ h9 => h9) rfl dX5_covers_4 ?_
  refine wk_if_eqb (tgt := 48) hx hb dX5_covers_7 (by decide) (fun c7 => ?_) (fun c7 => absurd c7 (by decide))
  refine lv_iconst (v := nI 0) hx hb dX5_covers_48 (by decide) ?_
  exact hret _ _ _ _ _ rfl dX5_covers_49 hS

set_option maxHeartbeats 4000000 in
set_option maxRecDepth 100000 in
theorem c_X5_covers (l : Launch) (D : va_G) (cI cJ cZ cA : ClassId) (x0 x1 xs : Nat) (tr : Int32) (pl : Nat) (hpl : pl ≤ 5) (b rt rg : Nat → Nat) (f2 f3 : Nat → Int32) (tk gv : Nat → Nat → Int32) (ta : Nat → Nat) (g2 : Int32) (h4 h5 h6 h7 h8 : Nat → Int32) (gp : Nat) (hgp : gp ≤ 5) (Ms : List Rw) (C : List Nat) (hX : rowsV h5 0 Ms) (hXl : Ms.length ≤ 1000) (hC : idxV h8 C) (hCl : C.length ≤ 1000) (hCM : ∀ v, v ∈ C → v < Ms.length)  : Met l yX5_covers wsX5_covers ({ frames := 4, cells := 0, slots := 0, locals := 89 } : Room) (ro_P D (tysC cI cJ cZ cA) [.ref x0] (nw cI cA b rt rg (nI pl) tr f2 f3 tk gv ++ (tw cI cZ ta (bI true) (nI gp) g2 (nI C.length) h4 h5 h6 h7 h8 ++ [(x0, .inr (4, [.ref (b 0), .ref x1, .ref xs, .ref (ta 0)]))]))) (ro_Q (bI (decide (gp = pl) && C.any (fun v => tpP gp (Ms.getD v zR) f3)))) 0 0 (fun _ => False) := by
  refine met_ro (cc := cX5_covers) (maxL := 1) (ty := .boolean) (by decide) rfl (Nat.le_of_ble_eq_true rfl) (bI_n _) ?_
  intro p e s m args below meth c Q hx hb hml hown hts hP hK hret ls hl
  obtain ⟨H, hH9⟩ : ∃ H : Heap, H = s.heap := ⟨_, rfl⟩
  have hP : va_P D vwCl (nw cI cA b rt rg (nI pl) tr f2 f3 tk gv ++ (tw cI cZ ta (bI true) (nI gp) g2 (nI C.length) h4 h5 h6 h7 h8 ++ [(x0, .inr (4, [.ref (b 0), .ref x1, .ref xs, .ref (ta 0)]))])) H := by rw [hH9]; exact hP
  have hS : va_S (fun _ => False) s.heap H [] := by rw [hH9]; exact va_S.rf
  rw [← hH9]
  have hown : s.vm.findClass RX5 = some m.cls := hown
  have hin5 : ∀ w ∈ wsX50, w ∈ wsX5_covers := by decide +kernel
  have hin4 : ∀ w ∈ wsX40, w ∈ wsX5_covers := by decide +kernel
  have hin0 : ∀ w ∈ wsX00, w ∈ wsX5_covers := by decide +kernel
  have fl30 := hts (.fieldLink RX5 30 "CoverRounds" "tree" "LCoverRounds$Tree;") (by decide +kernel)
  have fl91 := hts (.fieldLink RX5 91 "CoverRounds$Tree" "isGrown" "Z") (by decide +kernel)
  have fl117 := hts (.fieldLink RX5 117 "CoverRounds$Tree" "places" "I") (by decide +kernel)
  have fl12 := hts (.fieldLink RX5 12 "CoverRounds" "net" "LCoverRounds$Net;") (by decide +kernel)
  have fl34 := hts (.fieldLink RX5 34 "CoverRounds$Net" "places" "I") (by decide +kernel)
  have fl65 := hts (.fieldLink RX5 65 "CoverRounds$Net" "wanted" "[I") (by decide +kernel)
  have hl : lv_has ls 1 [(0, .ref x0)] := hl
  refine lv_aload_n hx hb dX5_covers_0 rfl (lv_at hl 0 rfl) ?_
  refine va_get (D := D) (ci := 4) (v := .ref (ta 0)) (C := RX5) (T := TX5) (N := 4) hx hb hts hin5 hown hK hP 23 rfl rfl 3 (by decide) fl30 (fun _ h9 => h9) rfl dX5_covers_1 ?_
  refine va_get (D := D) (ci := 3) (v := .int (bI true)) (C := RX4) (T := TX4) (N := 9) hx hb hts hin4 hown hK hP 17 rfl rfl 0 (by decide) fl91 (fun _ h9 => h9) rfl dX5_covers_4 ?_
  refine wk_if_eqb (tgt := 48) hx hb dX5_covers_7 (by decide) (fun c7 => absurd c7 (by decide)) (fun c7 => ?_)
  refine lv_aload_n hx hb dX5_covers_10 rfl (lv_at hl 0 rfl) ?_
  refine va_get (D := D) (ci := 4) (v := .ref (ta 0)) (C := RX5) (T := TX5) (N := 4) hx hb hts hin5 hown hK hP 23 rfl rfl 3 (by decide) fl30 (fun _ h9 => h9) rfl dX5_covers_11 ?_
  refine va_get (D := D) (ci := 3) (v := .int (nI gp)) (C := RX4) (T := TX4) (N := 9) hx hb hts hin4 hown hK hP 17 rfl rfl 1 (by decide) fl117 (fun _ h9 => h9) rfl dX5_covers_14 ?_
  refine lv_aload_n hx hb dX5_covers_17 rfl (lv_at hl 0 rfl) ?_
  refine va_get (D := D) (ci := 4) (v := .ref (b 0)) (C := RX5) (T := TX5) (N := 4) hx hb hts hin5 hown hK hP 23 rfl rfl 0 (by decide) fl12 (fun _ h9 => h9) rfl dX5_covers_18 ?_
  refine va_get (D := D) (ci := 0) (v := .int (nI pl)) (C := RX0) (T := TX0) (N := 6) hx hb hts hin0 hown hK hP 0 rfl rfl 0 (by decide) fl34 (fun _ h9 => h9) rfl dX5_covers_21 ?_
  refine wk_icmp_ne (tgt := 48) hx hb (by omega) (by omega) dX5_covers_24 (by decide) (fun c24 => ?_) (fun c24 => ?_)
  · skip
    refine lv_iconst (v := nI 0) hx hb dX5_covers_48 (by decide) ?_
    exact hret _ _ _ _ _ (bI_F (by rw [decide_eq_false c24]; rfl)) dX5_covers_49 hS
  · skip
    refine lv_aload_n hx hb dX5_covers_27 rfl (lv_at hl 0 rfl) ?_
    refine va_get (D := D) (ci := 4) (v := .ref (ta 0)) (C := RX5) (T := TX5) (N := 4) hx hb hts hin5 hown hK hP 23 rfl rfl 3 (by decide) fl30 (fun _ h9 => h9) rfl dX5_covers_28 ?_
    refine lv_aload_n hx hb dX5_covers_31 rfl (lv_at hl 0 rfl) ?_
    refine va_get (D := D) (ci := 4) (v := .ref (b 0)) (C := RX5) (T := TX5) (N := 4) hx hb hts hin5 hown hK hP 23 rfl rfl 0 (by decide) fl12 (fun _ h9 => h9) rfl dX5_covers_32 ?_
    refine va_get (D := D) (ci := 0) (v := .ref (b 3)) (C := RX0) (T := TX0) (N := 6) hx hb hts hin0 hown hK hP 0 rfl rfl 3 (by decide) fl65 (fun _ h9 => h9) rfl dX5_covers_35 ?_
    refine wk_Vi (As := [.ref (b 3)]) (rest := []) ⟨hx, hb, hml, hown, hts⟩ (c_X4_reaches l D cI cJ cZ cA ta (bI true) g2 h4 h5 h6 h7 h8 gp (b 3) f3 hgp Ms C hX hXl hC hCl hCM) (cwV 1 hts gX5_covers_X4_reaches rfl rfl rfl (by decide +kernel) ⟨Nat.le_of_ble_eq_true rfl, Nat.le_of_ble_eq_true rfl⟩) hK hP [17, 18, 19, 20, 21, 22, 2] rfl 0 3 rfl rfl hS rfl hl.1 rfl (Nat.le_of_ble_eq_true rfl) dX5_covers_38 ⟨Nat.zero_le _, Nat.zero_le _⟩ (fun H locs hP hS => ?_)
    refine wk_if_eqb (tgt := 48) hx hb dX5_covers_41 (by decide) (fun c41 => ?_) (fun c41 => ?_)
    · skip
      refine lv_iconst (v := nI 0) hx hb dX5_covers_48 (by decide) ?_
      exact hret _ _ _ _ _ (bI_F (by rw [decide_eq_true c24, c41]; rfl)) dX5_covers_49 hS
    · skip
      refine lv_iconst (v := nI 1) hx hb dX5_covers_44 (by decide) ?_
      refine lv_goto (tgt := 49) hx hb dX5_covers_45 (by decide) ?_
      exact hret _ _ _ _ _ (bI_T (by rw [decide_eq_true c24, c41]; rfl)) dX5_covers_49 hS
