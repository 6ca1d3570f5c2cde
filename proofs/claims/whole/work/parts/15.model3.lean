set_option maxHeartbeats 4000000 in
set_option maxRecDepth 100000 in
theorem c_X6_takeIn (l : Launch) (D : va_G) (cI cJ cZ cA : ClassId) (r : Nat → Nat) (i0 i3 i7 i8 i9 i15 i17 i18 i19 i22 i23 : Int32) (a1 a2 a4 a5 a6 a10 a11 a12 a14 a16 a20 a21 a24 a25 a26 : Nat → Int32) (sz : Nat) (X : List Rw) (w : Rw) (hX : rowsV a12 0 X) (hXl : X.length ≤ 1450) (hw : ∀ q, q < 5 → a25 q = w q) : Met l yX6_takeIn wsX6_takeIn ({ frames := 1, cells := 0, slots := 0, locals := 25 } : Room) (wr_P D (tysC cI cJ cZ cA) [.ref (r 0)] (mw cI r i0 i3 i7 i8 i9 (nI X.length) i15 i17 i18 i19 i22 i23 a1 a2 a4 a5 a6 a10 a11 a12 a14 a16 a20 a21 a24 a25 a26) sz) (wr_Qv D (S := Nat → Int32) (mw cI r i0 i3 i7 i8 i9 (nI X.length) i15 i17 i18 i19 i22 i23 a1 a2 a4 a5 a6 a10 a11 a12 a14 a16 a20 a21 a24 a25 a26) sz (fun u => rowsV u 0 (tkIn X w)) (fun u => (mw cI r i0 i3 i7 i8 i9 (nI ((tkIn X w).length)) i15 i17 i18 i19 i22 i23 a1 a2 a4 a5 a6 a10 a11 u a14 a16 a20 a21 a24 a25 a26))) 0 0 (va_A (mw cI r i0 i3 i7 i8 i9 (nI X.length) i15 i17 i18 i19 i22 i23 a1 a2 a4 a5 a6 a10 a11 a12 a14 a16 a20 a21 a24 a25 a26) sz) := by
  refine met_wv (cc := cX6_takeIn) (maxL := 4) (by decide) rfl (Nat.le_of_ble_eq_true rfl) ?_
  intro p e s m args below meth c Q A hx hb hml hown hts hP hK hD hA hret ls hl
  obtain ⟨H, hH9⟩ : ∃ H : Heap, H = s.heap := ⟨_, rfl⟩
  have hP : va_P D vwCl (mw cI r i0 i3 i7 i8 i9 (nI X.length) i15 i17 i18 i19 i22 i23 a1 a2 a4 a5 a6 a10 a11 a12 a14 a16 a20 a21 a24 a25 a26) H := by rw [hH9]; exact hP
  have hS : va_S A s.heap H [] := by rw [hH9]; exact va_S.rf
  rw [← hH9]
  have hown : s.vm.findClass RX6 = some m.cls := hown
  have hin6 : ∀ w ∈ wsX60, w ∈ wsX6_takeIn := by decide +kernel
  have fl80 := hts (.fieldLink RX6 80 "CoverRoundsModel" "roundCount" "I") (by decide +kernel)
  have fl54 := hts (.fieldLink RX6 54 "CoverRoundsModel" "work" "[I") (by decide +kernel)
  have fl36 := hts (.fieldLink RX6 36 "CoverRoundsModel" "round" "[I") (by decide +kernel)
  have hl : lv_has ls 4 [(0, .ref (r 0))] := hl
  refine lv_iconst (v := nI 0) hx hb dX6_takeIn_0 (by decide) ?_
  refine lv_istore_n (lv' := [(1, .int (nI 0)), (0, .ref (r 0))]) hx hb dX6_takeIn_1 rfl hl (by decide) rfl (fun ls hl => ?_)
  have lp2 : ∀ (n9 : Nat) (k : Nat), X.length - k < n9 → k ≤ X.length → (∀ q x, q < k → X[q]? = some x → tp5 w x = false) → ∀ (H : Heap) (locs : List Loc) (ls : Array Slot), va_P D vwCl (mw cI r i0 i3 i7 i8 i9 (nI X.length) i15 i17 i18 i19 i22 i23 a1 a2 a4 a5 a6 a10 a11 a12 a14 a16 a20 a21 a24 a25 a26) H → va_D A (mw cI r i0 i3 i7 i8 i9 (nI X.length) i15 i17 i18 i19 i22 i23 a1 a2 a4 a5 a6 a10 a11 a12 a14 a16 a20 a21 a24 a25 a26) → va_S A s.heap H locs → lv_has ls 4 [(0, .ref (r 0)), (1, .int (nI k))] → W p l e ({ frames := 1, cells := 0, slots := 0, locals := 25 } : Room) s m args below meth c H locs 0 0 Q (F0 m 2 ls []) := by
    intro n9
    induction n9 with
    | zero => intro k hm2; exact absurd hm2 (Nat.not_lt_zero _)
    | succ n9 ih2 =>
      intro k hm2 hk hn H locs ls hP hD hS hl
      refine lv_iload_n hx hb dX6_takeIn_2 rfl (lv_at hl 1 rfl) ?_
      refine lv_aload_n hx hb dX6_takeIn_3 rfl (lv_at hl 0 rfl) ?_
      refine va_get (D := D) (ci := 5) (v := .int (nI X.length)) (C := RX6) (T := TX6) (N := 27) hx hb hts hin6 hown hK hP 0 rfl rfl 13 (by decide) fl80 (fun _ h9 => h9) rfl dX6_takeIn_4 ?_
      refine wk_icmp_ge (tgt := 35) hx hb (by omega) (by omega) dX6_takeIn_7 (by decide) (fun c7 => ?_) (fun c7 => ?_)
      · skip
        have hkX : k = X.length := by omega
        subst hkX
        refine lv_iconst (v := nI 0) hx hb dX6_takeIn_35 (by decide) ?_
        refine lv_istore_n (lv' := [(1, .int (nI 0)), (0, .ref (r 0))]) hx hb dX6_takeIn_36 rfl hl (by decide) rfl (fun ls hl => ?_)
        refine lv_iconst (v := nI 0) hx hb dX6_takeIn_37 (by decide) ?_
        refine lv_istore_n (lv' := [(2, .int (nI 0)), (1, .int (nI 0)), (0, .ref (r 0))]) hx hb dX6_takeIn_38 rfl hl (by decide) rfl (fun ls hl => ?_)
        have lp39 : ∀ (n9 : Nat) (k : Nat) (td : Nat) (f : Nat → Int32), X.length - k < n9 → k ≤ X.length → ti2 f X w k td → ∀ (H : Heap) (locs : List Loc) (ls : Array Slot), va_P D vwCl (mw cI r i0 i3 i7 i8 i9 (nI X.length) i15 i17 i18 i19 i22 i23 a1 a2 a4 a5 a6 a10 a11 f a14 a16 a20 a21 a24 a25 a26) H → va_D A (mw cI r i0 i3 i7 i8 i9 (nI X.length) i15 i17 i18 i19 i22 i23 a1 a2 a4 a5 a6 a10 a11 f a14 a16 a20 a21 a24 a25 a26) → va_S A s.heap H locs → lv_has ls 4 [(0, .ref (r 0)), (1, .int (nI td)), (2, .int (nI k))] → W p l e ({ frames := 1, cells := 0, slots := 0, locals := 25 } : Room) s m args below meth c H locs 0 0 Q (F0 m 39 ls []) := by
          intro n9
          induction n9 with
          | zero => intro k td f hm39; exact absurd hm39 (Nat.not_lt_zero _)
          | succ n9 ih39 =>
            intro k td f hm39 hk ht H locs ls hP hD hS hl
            refine lv_iload_n hx hb dX6_takeIn_39 rfl (lv_at hl 2 rfl) ?_
            refine lv_aload_n hx hb dX6_takeIn_40 rfl (lv_at hl 0 rfl) ?_
            refine va_get (D := D) (ci := 5) (v := .int (nI X.length)) (C := RX6) (T := TX6) (N := 27) hx hb hts hin6 hown hK hP 0 rfl rfl 13 (by decide) fl80 (fun _ h9 => h9) rfl dX6_takeIn_41 ?_
            refine wk_icmp_ge (tgt := 107) hx hb (by omega) (by omega) dX6_takeIn_44 (by decide) (fun c44 => ?_) (fun c44 => ?_)
            · skip
              have hle := ti2_le ht
              refine lv_iconst (v := nI 0) hx hb dX6_takeIn_107 (by decide) ?_
              refine lv_istore_n (lv' := [(2, .int (nI 0)), (0, .ref (r 0)), (1, .int (nI td))]) hx hb dX6_takeIn_108 rfl hl (by decide) rfl (fun ls hl => ?_)
              have lp109 : ∀ (n9 : Nat) (q : Nat), 5 - q < n9 → q ≤ 5 → ∀ (H : Heap) (locs : List Loc) (ls : Array Slot), va_P D vwCl (mw cI r i0 i3 i7 i8 i9 (nI X.length) i15 i17 i18 i19 i22 i23 a1 a2 a4 a5 a6 a10 a11 (wrN f a25 (5 * td) q) a14 a16 a20 a21 a24 a25 a26) H → va_D A (mw cI r i0 i3 i7 i8 i9 (nI X.length) i15 i17 i18 i19 i22 i23 a1 a2 a4 a5 a6 a10 a11 (wrN f a25 (5 * td) q) a14 a16 a20 a21 a24 a25 a26) → va_S A s.heap H locs → lv_has ls 4 [(0, .ref (r 0)), (1, .int (nI td)), (2, .int (nI q))] → W p l e ({ frames := 1, cells := 0, slots := 0, locals := 25 } : Room) s m args below meth c H locs 0 0 Q (F0 m 109 ls []) := by
                intro n9
                induction n9 with
                | zero => intro q hm109; exact absurd hm109 (Nat.not_lt_zero _)
                | succ n9 ih109 =>
                  intro q hm109 hq H locs ls hP hD hS hl
                  refine lv_iload_n hx hb dX6_takeIn_109 rfl (lv_at hl 2 rfl) ?_
                  refine lv_iconst (v := nI 5) hx hb dX6_takeIn_110 (by decide) ?_
                  refine wk_icmp_ge (tgt := 136) hx hb (by omega) (by omega) dX6_takeIn_111 (by decide) (fun c111 => ?_) (fun c111 => ?_)
                  · skip
                    refine lv_aload_n hx hb dX6_takeIn_136 rfl (lv_at hl 0 rfl) ?_
                    refine lv_iload_n hx hb dX6_takeIn_137 rfl (lv_at hl 1 rfl) ?_
                    refine lv_iconst (v := nI 1) hx hb dX6_takeIn_138 (by decide) ?_
                    refine wk_iadd hx hb dX6_takeIn_139 ?_
                    refine va_put (D := D) (ci := 5) (v := .int (nI (td + 1))) (ty := .int) (C := RX6) (T := TX6) (N := 27) hx hb hts hin6 tyX6 tyX6_ok nmX6 hown hK hP hD hS 0 rfl rfl 13 (by decide) fl80 (fun _ h9 => h9) rfl (by decide +kernel) rfl rfl (Nat.le_of_ble_eq_true rfl) dX6_takeIn_140 (fun H locs hP hD hS => ?_)
                    have hP : va_P D vwCl (mw cI r i0 i3 i7 i8 i9 (nI (td + 1)) i15 i17 i18 i19 i22 i23 a1 a2 a4 a5 a6 a10 a11 (wrN f a25 (5 * td) q) a14 a16 a20 a21 a24 a25 a26) H := hP
                    have hD : va_D A (mw cI r i0 i3 i7 i8 i9 (nI (td + 1)) i15 i17 i18 i19 i22 i23 a1 a2 a4 a5 a6 a10 a11 (wrN f a25 (5 * td) q) a14 a16 a20 a21 a24 a25 a26) := hD
                    have hq5 : q = 5 := by omega
                    subst hq5
                    have hkX : k = X.length := by omega
                    subst hkX
                    obtain ⟨e8, e9⟩ := ti2_end ht hw hn
                    exact hret _ _ _ _ _ _ _ e8 (by rw [← e9]; exact hP) (by rw [← e9]; exact hD) dX6_takeIn_143 hS (Nat.zero_le _) (Nat.zero_le _)
                  · skip
                    refine lv_aload_n hx hb dX6_takeIn_114 rfl (lv_at hl 0 rfl) ?_
                    refine va_get (D := D) (ci := 5) (v := .ref (r 12)) (C := RX6) (T := TX6) (N := 27) hx hb hts hin6 hown hK hP 0 rfl rfl 12 (by decide) fl36 (fun _ h9 => h9) rfl dX6_takeIn_115 ?_
                    refine lv_iconst (v := nI 5) hx hb dX6_takeIn_118 (by decide) ?_
                    refine lv_iload_n hx hb dX6_takeIn_119 rfl (lv_at hl 1 rfl) ?_
                    refine wk_imul hx hb dX6_takeIn_120 ?_
                    refine lv_iload_n hx hb dX6_takeIn_121 rfl (lv_at hl 2 rfl) ?_
                    refine wk_iadd hx hb dX6_takeIn_122 ?_
                    refine lv_aload_n hx hb dX6_takeIn_123 rfl (lv_at hl 0 rfl) ?_
                    refine va_get (D := D) (ci := 5) (v := .ref (r 25)) (C := RX6) (T := TX6) (N := 27) hx hb hts hin6 hown hK hP 0 rfl rfl 25 (by decide) fl54 (fun _ h9 => h9) rfl dX6_takeIn_124 ?_
                    refine lv_iload_n hx hb dX6_takeIn_127 rfl (lv_at hl 2 rfl) ?_
                    refine wk_iald hx hb hK hP 14 0 rfl rfl (i := q) (by omega) (by omega) dX6_takeIn_128 ?_
                    refine wk_iast hx hb hK hP hD hS 8 0 rfl rfl (i := (5 * td) + q) (by omega) (by omega) dX6_takeIn_129 (fun H locs hP hD hS => ?_)
                    have hP : va_P D vwCl (mw cI r i0 i3 i7 i8 i9 (nI X.length) i15 i17 i18 i19 i22 i23 a1 a2 a4 a5 a6 a10 a11 (upd (wrN f a25 (5 * td) q) ((5 * td) + q) (a25 q)) a14 a16 a20 a21 a24 a25 a26) H := hP
                    have hD : va_D A (mw cI r i0 i3 i7 i8 i9 (nI X.length) i15 i17 i18 i19 i22 i23 a1 a2 a4 a5 a6 a10 a11 (upd (wrN f a25 (5 * td) q) ((5 * td) + q) (a25 q)) a14 a16 a20 a21 a24 a25 a26) := hD
                    refine lv_iinc (v := (nI (q + 1))) (lv' := [(2, .int (nI (q + 1))), (0, .ref (r 0)), (1, .int (nI td))]) hx hb dX6_takeIn_130 hl (k := 2) rfl (by exact nI_1 _) (by decide) rfl (fun ls hl => ?_)
                    refine lv_goto (tgt := 109) hx hb dX6_takeIn_133 (by decide) ?_
                    have hP : va_P D vwCl (mw cI r i0 i3 i7 i8 i9 (nI X.length) i15 i17 i18 i19 i22 i23 a1 a2 a4 a5 a6 a10 a11 (wrN f a25 (5 * td) (q + 1)) a14 a16 a20 a21 a24 a25 a26) H := by rw [← wrN_s]; exact hP
                    have hD : va_D A (mw cI r i0 i3 i7 i8 i9 (nI X.length) i15 i17 i18 i19 i22 i23 a1 a2 a4 a5 a6 a10 a11 (wrN f a25 (5 * td) (q + 1)) a14 a16 a20 a21 a24 a25 a26) := by rw [← wrN_s]; exact hD
                    exact ih109 (q + 1) (by omega) (by omega) _ _ _ hP hD hS (lv_sub hl [1, 2, 0] rfl)
              have hP : va_P D vwCl (mw cI r i0 i3 i7 i8 i9 (nI X.length) i15 i17 i18 i19 i22 i23 a1 a2 a4 a5 a6 a10 a11 (wrN f a25 (5 * td) 0) a14 a16 a20 a21 a24 a25 a26) H := by rw [wrN_0]; exact hP
              have hD : va_D A (mw cI r i0 i3 i7 i8 i9 (nI X.length) i15 i17 i18 i19 i22 i23 a1 a2 a4 a5 a6 a10 a11 (wrN f a25 (5 * td) 0) a14 a16 a20 a21 a24 a25 a26) := by rw [wrN_0]; exact hD
              exact lp109 _ 0 (Nat.lt_succ_self _) (by omega) _ _ _ hP hD hS (lv_sub hl [1, 2, 0] rfl)
            · skip
              obtain ⟨x, hx9⟩ : ∃ x, X[k]? = some x := ⟨X[k], List.getElem?_eq_getElem (by omega)⟩
              have hle := ti2_le ht
              have hxr := ht.2.2 k x (Nat.le_refl k) hx9
              refine lv_aload_n hx hb dX6_takeIn_47 rfl (lv_at hl 0 rfl) ?_
              refine va_get (D := D) (ci := 5) (v := .ref (r 12)) (C := RX6) (T := TX6) (N := 27) hx hb hts hin6 hown hK hP 0 rfl rfl 12 (by decide) fl36 (fun _ h9 => h9) rfl dX6_takeIn_48 ?_
              refine lv_iconst (v := nI 5) hx hb dX6_takeIn_51 (by decide) ?_
              refine lv_iload_n hx hb dX6_takeIn_52 rfl (lv_at hl 2 rfl) ?_
              refine wk_imul hx hb dX6_takeIn_53 ?_
              refine lv_aload_n hx hb dX6_takeIn_54 rfl (lv_at hl 0 rfl) ?_
              refine va_get (D := D) (ci := 5) (v := .ref (r 25)) (C := RX6) (T := TX6) (N := 27) hx hb hts hin6 hown hK hP 0 rfl rfl 25 (by decide) fl54 (fun _ h9 => h9) rfl dX6_takeIn_55 ?_
              refine lv_iconst (v := nI 0) hx hb dX6_takeIn_58 (by decide) ?_
              refine wk_Si (As := [.ref (r 12), .int (nI (5 * k)), .ref (r 25), .int (nI 0)]) (rest := []) ⟨hx, hb, hml, hown, hts⟩ (c_X6_tops l D cI cJ cZ cA (r 12) (r 25) 7500 5 (5 * k) 0 f a25 (by omega) (by omega) (by omega) (by omega)) (va_cwS 4 hts gX6_takeIn_X6_tops rfl rfl rfl (by decide +kernel) ⟨Nat.le_of_ble_eq_true rfl, Nat.le_of_ble_eq_true rfl⟩) hK hP [8, 14] rfl hS rfl hl.1 rfl (Nat.le_of_ble_eq_true rfl) dX6_takeIn_59 ⟨Nat.zero_le _, Nat.zero_le _⟩ (fun H locs hP hS => ?_)
              refine wk_if_neb (tgt := 101) hx hb dX6_takeIn_62 (by decide) (fun c62 => ?_) (fun c62 => ?_)
              · skip
                refine lv_iinc (v := (nI (k + 1))) (lv' := [(2, .int (nI (k + 1))), (0, .ref (r 0)), (1, .int (nI td))]) hx hb dX6_takeIn_101 hl (k := 2) rfl (by exact nI_1 _) (by decide) rfl (fun ls hl => ?_)
                refine lv_goto (tgt := 39) hx hb dX6_takeIn_104 (by decide) ?_
                exact ih39 (k + 1) td f (by omega) (by omega) (ti2_skip ht hx9 ((tpB_row hxr (fun q hq => by rw [Nat.zero_add]; exact hw q hq)).symm.trans c62)) _ _ _ hP hD hS (lv_sub hl [1, 2, 0] rfl)
              · skip
                refine lv_iconst (v := nI 0) hx hb dX6_takeIn_65 (by decide) ?_
                refine lv_istore_n (lv' := [(3, .int (nI 0)), (0, .ref (r 0)), (1, .int (nI td)), (2, .int (nI k))]) hx hb dX6_takeIn_66 rfl hl (by decide) rfl (fun ls hl => ?_)
                have lp67 : ∀ (n9 : Nat) (q : Nat), 5 - q < n9 → q ≤ 5 → ∀ (H : Heap) (locs : List Loc) (ls : Array Slot), va_P D vwCl (mw cI r i0 i3 i7 i8 i9 (nI X.length) i15 i17 i18 i19 i22 i23 a1 a2 a4 a5 a6 a10 a11 (mvN f (5 * td) (5 * k) q) a14 a16 a20 a21 a24 a25 a26) H → va_D A (mw cI r i0 i3 i7 i8 i9 (nI X.length) i15 i17 i18 i19 i22 i23 a1 a2 a4 a5 a6 a10 a11 (mvN f (5 * td) (5 * k) q) a14 a16 a20 a21 a24 a25 a26) → va_S A s.heap H locs → lv_has ls 4 [(0, .ref (r 0)), (1, .int (nI td)), (2, .int (nI k)), (3, .int (nI q))] → W p l e ({ frames := 1, cells := 0, slots := 0, locals := 25 } : Room) s m args below meth c H locs 0 0 Q (F0 m 67 ls []) := by
                  intro n9
                  induction n9 with
                  | zero => intro q hm67; exact absurd hm67 (Nat.not_lt_zero _)
                  | succ n9 ih67 =>
                    intro q hm67 hq H locs ls hP hD hS hl
                    refine lv_iload_n hx hb dX6_takeIn_67 rfl (lv_at hl 3 rfl) ?_
                    refine lv_iconst (v := nI 5) hx hb dX6_takeIn_68 (by decide) ?_
                    refine wk_icmp_ge (tgt := 98) hx hb (by omega) (by omega) dX6_takeIn_69 (by decide) (fun c69 => ?_) (fun c69 => ?_)
                    · skip
                      refine lv_iinc (v := (nI (td + 1))) (lv' := [(1, .int (nI (td + 1))), (0, .ref (r 0)), (2, .int (nI k)), (3, .int (nI q))]) hx hb dX6_takeIn_98 hl (k := 1) rfl (by exact nI_1 _) (by decide) rfl (fun ls hl => ?_)
                      refine lv_iinc (v := (nI (k + 1))) (lv' := [(2, .int (nI (k + 1))), (1, .int (nI (td + 1))), (0, .ref (r 0)), (3, .int (nI q))]) hx hb dX6_takeIn_101 hl (k := 2) rfl (by exact nI_1 _) (by decide) rfl (fun ls hl => ?_)
                      refine lv_goto (tgt := 39) hx hb dX6_takeIn_104 (by decide) ?_
                      have hq5 : q = 5 := by omega
                      subst hq5
                      exact ih39 (k + 1) (td + 1) (mvN f (5 * td) (5 * k) 5) (by omega) (by omega) (ti2_keep ht hx9 ((tpB_row hxr (fun q hq => by rw [Nat.zero_add]; exact hw q hq)).symm.trans c62)) _ _ _ hP hD hS (lv_sub hl [2, 1, 0] rfl)
                    · skip
                      refine lv_aload_n hx hb dX6_takeIn_72 rfl (lv_at hl 0 rfl) ?_
                      refine va_get (D := D) (ci := 5) (v := .ref (r 12)) (C := RX6) (T := TX6) (N := 27) hx hb hts hin6 hown hK hP 0 rfl rfl 12 (by decide) fl36 (fun _ h9 => h9) rfl dX6_takeIn_73 ?_
                      refine lv_iconst (v := nI 5) hx hb dX6_takeIn_76 (by decide) ?_
                      refine lv_iload_n hx hb dX6_takeIn_77 rfl (lv_at hl 1 rfl) ?_
                      refine wk_imul hx hb dX6_takeIn_78 ?_
                      refine lv_iload_n hx hb dX6_takeIn_79 rfl (lv_at hl 3 rfl) ?_
                      refine wk_iadd hx hb dX6_takeIn_80 ?_
                      refine lv_aload_n hx hb dX6_takeIn_81 rfl (lv_at hl 0 rfl) ?_
                      refine va_get (D := D) (ci := 5) (v := .ref (r 12)) (C := RX6) (T := TX6) (N := 27) hx hb hts hin6 hown hK hP 0 rfl rfl 12 (by decide) fl36 (fun _ h9 => h9) rfl dX6_takeIn_82 ?_
                      refine lv_iconst (v := nI 5) hx hb dX6_takeIn_85 (by decide) ?_
                      refine lv_iload_n hx hb dX6_takeIn_86 rfl (lv_at hl 2 rfl) ?_
                      refine wk_imul hx hb dX6_takeIn_87 ?_
                      refine lv_iload_n hx hb dX6_takeIn_88 rfl (lv_at hl 3 rfl) ?_
                      refine wk_iadd hx hb dX6_takeIn_89 ?_
                      refine wk_iald hx hb hK hP 8 0 rfl rfl (i := (5 * k) + q) (by omega) (by omega) dX6_takeIn_90 ?_
                      rw [show ((mvN f (5 * td) (5 * k) q) ((5 * k) + q)) = (f (5 * k + q)) from mvN_src (by omega)]
                      refine wk_iast hx hb hK hP hD hS 8 0 rfl rfl (i := (5 * td) + q) (by omega) (by omega) dX6_takeIn_91 (fun H locs hP hD hS => ?_)
                      have hP : va_P D vwCl (mw cI r i0 i3 i7 i8 i9 (nI X.length) i15 i17 i18 i19 i22 i23 a1 a2 a4 a5 a6 a10 a11 (upd (mvN f (5 * td) (5 * k) q) ((5 * td) + q) (f (5 * k + q))) a14 a16 a20 a21 a24 a25 a26) H := hP
                      have hD : va_D A (mw cI r i0 i3 i7 i8 i9 (nI X.length) i15 i17 i18 i19 i22 i23 a1 a2 a4 a5 a6 a10 a11 (upd (mvN f (5 * td) (5 * k) q) ((5 * td) + q) (f (5 * k + q))) a14 a16 a20 a21 a24 a25 a26) := hD
                      refine lv_iinc (v := (nI (q + 1))) (lv' := [(3, .int (nI (q + 1))), (0, .ref (r 0)), (1, .int (nI td)), (2, .int (nI k))]) hx hb dX6_takeIn_92 hl (k := 3) rfl (by exact nI_1 _) (by decide) rfl (fun ls hl => ?_)
                      refine lv_goto (tgt := 67) hx hb dX6_takeIn_95 (by decide) ?_
                      have hP : va_P D vwCl (mw cI r i0 i3 i7 i8 i9 (nI X.length) i15 i17 i18 i19 i22 i23 a1 a2 a4 a5 a6 a10 a11 (mvN f (5 * td) (5 * k) (q + 1)) a14 a16 a20 a21 a24 a25 a26) H := by rw [← mvN_s]; exact hP
                      have hD : va_D A (mw cI r i0 i3 i7 i8 i9 (nI X.length) i15 i17 i18 i19 i22 i23 a1 a2 a4 a5 a6 a10 a11 (mvN f (5 * td) (5 * k) (q + 1)) a14 a16 a20 a21 a24 a25 a26) := by rw [← mvN_s]; exact hD
                      exact ih67 (q + 1) (by omega) (by omega) _ _ _ hP hD hS (lv_sub hl [1, 2, 3, 0] rfl)
                have hP : va_P D vwCl (mw cI r i0 i3 i7 i8 i9 (nI X.length) i15 i17 i18 i19 i22 i23 a1 a2 a4 a5 a6 a10 a11 (mvN f (5 * td) (5 * k) 0) a14 a16 a20 a21 a24 a25 a26) H := by rw [mvN_0]; exact hP
                have hD : va_D A (mw cI r i0 i3 i7 i8 i9 (nI X.length) i15 i17 i18 i19 i22 i23 a1 a2 a4 a5 a6 a10 a11 (mvN f (5 * td) (5 * k) 0) a14 a16 a20 a21 a24 a25 a26) := by rw [mvN_0]; exact hD
                exact lp67 _ 0 (Nat.lt_succ_self _) (by omega) _ _ _ hP hD hS (lv_sub hl [1, 2, 3, 0] rfl)
        exact lp39 _ 0 0 a12 (Nat.lt_succ_self _) (by omega) (ti2_0 hX) _ _ _ hP hD hS (lv_sub hl [2, 1, 0] rfl)
      · skip
        obtain ⟨x, hx9, hr9⟩ := rowsV_at0 hX (show k < X.length by omega)
        refine lv_aload_n hx hb dX6_takeIn_10 rfl (lv_at hl 0 rfl) ?_
        refine va_get (D := D) (ci := 5) (v := .ref (r 25)) (C := RX6) (T := TX6) (N := 27) hx hb hts hin6 hown hK hP 0 rfl rfl 25 (by decide) fl54 (fun _ h9 => h9) rfl dX6_takeIn_11 ?_
        refine lv_iconst (v := nI 0) hx hb dX6_takeIn_14 (by decide) ?_
        refine lv_aload_n hx hb dX6_takeIn_15 rfl (lv_at hl 0 rfl) ?_
        refine va_get (D := D) (ci := 5) (v := .ref (r 12)) (C := RX6) (T := TX6) (N := 27) hx hb hts hin6 hown hK hP 0 rfl rfl 12 (by decide) fl36 (fun _ h9 => h9) rfl dX6_takeIn_16 ?_
        refine lv_iconst (v := nI 5) hx hb dX6_takeIn_19 (by decide) ?_
        refine lv_iload_n hx hb dX6_takeIn_20 rfl (lv_at hl 1 rfl) ?_
        refine wk_imul hx hb dX6_takeIn_21 ?_
        refine wk_Si (As := [.ref (r 25), .int (nI 0), .ref (r 12), .int (nI (5 * k))]) (rest := []) ⟨hx, hb, hml, hown, hts⟩ (c_X6_tops l D cI cJ cZ cA (r 25) (r 12) 5 7500 0 (5 * k) a25 a12 (by omega) (by omega) (by omega) (by omega)) (va_cwS 4 hts gX6_takeIn_X6_tops rfl rfl rfl (by decide +kernel) ⟨Nat.le_of_ble_eq_true rfl, Nat.le_of_ble_eq_true rfl⟩) hK hP [14, 8] rfl hS rfl hl.1 rfl (Nat.le_of_ble_eq_true rfl) dX6_takeIn_22 ⟨Nat.zero_le _, Nat.zero_le _⟩ (fun H locs hP hS => ?_)
        refine wk_if_eqb (tgt := 29) hx hb dX6_takeIn_25 (by decide) (fun c25 => ?_) (fun c25 => ?_)
        · skip
          refine lv_iinc (v := (nI (k + 1))) (lv' := [(1, .int (nI (k + 1))), (0, .ref (r 0))]) hx hb dX6_takeIn_29 hl (k := 1) rfl (by exact nI_1 _) (by decide) rfl (fun ls hl => ?_)
          refine lv_goto (tgt := 2) hx hb dX6_takeIn_32 (by decide) ?_
          have hn2 : ∀ q x, q < k + 1 → X[q]? = some x → tp5 w x = false := fun q y hq hy => by
            rcases Nat.lt_or_eq_of_le (Nat.le_of_lt_succ hq) with h1 | rfl
            · exact hn q y h1 hy
            · rw [hx9] at hy; cases hy; exact (tpB_row (fun q hq => by rw [Nat.zero_add]; exact hw q hq) hr9).symm.trans c25
          exact ih2 (k + 1) (by omega) (by omega) hn2 _ _ _ hP hD hS (lv_sub hl [1, 0] rfl)
        · skip
          have e9 := tkIn_hit (w := w) hx9 ((tpB_row (fun q hq => by rw [Nat.zero_add]; exact hw q hq) hr9).symm.trans c25)
          exact hret a12 _ _ _ _ _ _ (by rw [e9]; exact hX) (by rw [e9]; exact hP) (by rw [e9]; exact hD) dX6_takeIn_28 hS (Nat.zero_le _) (Nat.zero_le _)
  exact lp2 _ 0 (Nat.lt_succ_self _) (by omega) (fun q x h => absurd h (Nat.not_lt_zero q)) _ _ _ hP hD hS (lv_sub hl [1, 0] rfl)

set_option maxHeartbeats 4000000 in
set_option maxRecDepth 100000 in
theorem c_X6_isFirstIn (l : Launch) (D : va_G) (cI cJ cZ cA : ClassId) (r : Nat → Nat) (i0 i3 i7 i8 i9 i15 i17 i18 i19 i22 i23 : Int32) (a1 a2 a4 a5 a6 a10 a11 a12 a14 a16 a20 a21 a24 a25 a26 : Nat → Int32) (X : List Rw) (hX : rowsV a12 0 X) (hXl : X.length ≤ 1450) : Met l yX6_isFirstIn wsX6_isFirstIn ({ frames := 1, cells := 0, slots := 0, locals := 25 } : Room) (ro_P D (tysC cI cJ cZ cA) [.ref (r 0)] (mw cI r i0 i3 i7 i8 i9 (nI X.length) i15 i17 i18 i19 i22 i23 a1 a2 a4 a5 a6 a10 a11 a12 a14 a16 a20 a21 a24 a25 a26)) (ro_Q (bI (X.any (fun x => tp5 a1 x)))) 0 0 (fun _ => False) := by
  refine met_ro (cc := cX6_isFirstIn) (maxL := 3) (ty := .boolean) (by decide) rfl (Nat.le_of_ble_eq_true rfl) (bI_n _) ?_
  intro p e s m args below meth c Q hx hb hml hown hts hP hK hret ls hl
  obtain ⟨H, hH9⟩ : ∃ H : Heap, H = s.heap := ⟨_, rfl⟩
  have hP : va_P D vwCl (mw cI r i0 i3 i7 i8 i9 (nI X.length) i15 i17 i18 i19 i22 i23 a1 a2 a4 a5 a6 a10 a11 a12 a14 a16 a20 a21 a24 a25 a26) H := by rw [hH9]; exact hP
  have hS : va_S (fun _ => False) s.heap H [] := by rw [hH9]; exact va_S.rf
  rw [← hH9]
  have hown : s.vm.findClass RX6 = some m.cls := hown
  have hin6 : ∀ w ∈ wsX60, w ∈ wsX6_isFirstIn := by decide +kernel
  have fl80 := hts (.fieldLink RX6 80 "CoverRoundsModel" "roundCount" "I") (by decide +kernel)
  have fl7 := hts (.fieldLink RX6 7 "CoverRoundsModel" "first" "[I") (by decide +kernel)
  have fl36 := hts (.fieldLink RX6 36 "CoverRoundsModel" "round" "[I") (by decide +kernel)
  have hl : lv_has ls 3 [(0, .ref (r 0))] := hl
  refine lv_iconst (v := nI 0) hx hb dX6_isFirstIn_0 (by decide) ?_
  refine lv_istore_n (lv' := [(1, .int (nI 0)), (0, .ref (r 0))]) hx hb dX6_isFirstIn_1 rfl hl (by decide) rfl (fun ls hl => ?_)
  refine lv_iconst (v := nI 0) hx hb dX6_isFirstIn_2 (by decide) ?_
  refine lv_istore_n (lv' := [(2, .int (nI 0)), (1, .int (nI 0)), (0, .ref (r 0))]) hx hb dX6_isFirstIn_3 rfl hl (by decide) rfl (fun ls hl => ?_)
  have lp4 : ∀ (n9 : Nat) (k : Nat) (t : Bool), X.length - k < n9 → k ≤ X.length → (t = true ↔ ∃ q, q < k ∧ tpB a1 0 a12 (5 * q) = true) → ∀ (H : Heap) (locs : List Loc) (ls : Array Slot), va_P D vwCl (mw cI r i0 i3 i7 i8 i9 (nI X.length) i15 i17 i18 i19 i22 i23 a1 a2 a4 a5 a6 a10 a11 a12 a14 a16 a20 a21 a24 a25 a26) H → va_S (fun _ => False) s.heap H locs → lv_has ls 3 [(0, .ref (r 0)), (1, .int (bI t)), (2, .int (nI k))] → W p l e ({ frames := 1, cells := 0, slots := 0, locals := 25 } : Room) s m args below meth c H locs 0 0 Q (F0 m 4 ls []) := by
    intro n9
    induction n9 with
    | zero => intro k t hm4; exact absurd hm4 (Nat.not_lt_zero _)
    | succ n9 ih4 =>
      intro k t hm4 hk ht H locs ls hP hS hl
      refine lv_iload_n hx hb dX6_isFirstIn_4 rfl (lv_at hl 2 rfl) ?_
      refine lv_aload_n hx hb dX6_isFirstIn_5 rfl (lv_at hl 0 rfl) ?_
      refine va_get (D := D) (ci := 5) (v := .int (nI X.length)) (C := RX6) (T := TX6) (N := 27) hx hb hts hin6 hown hK hP 0 rfl rfl 13 (by decide) fl80 (fun _ h9 => h9) rfl dX6_isFirstIn_6 ?_
      refine wk_icmp_ge (tgt := 46) hx hb (by omega) (by omega) dX6_isFirstIn_9 (by decide) (fun c9 => ?_) (fun c9 => ?_)
      · skip
        refine lv_iload_n hx hb dX6_isFirstIn_46 rfl (lv_at hl 1 rfl) ?_
        have hkX : k = X.length := by omega
        subst hkX
        refine hret _ _ _ _ _ (congrArg bI (bb_eq ht ?_)) dX6_isFirstIn_47 hS
        have e9 := any_rows (f := a1) (v := a1) hX (fun q hq => by rw [Nat.zero_add])
        simp only [Nat.zero_add] at e9
        exact e9
      · skip
        refine lv_iload_n hx hb dX6_isFirstIn_12 rfl (lv_at hl 1 rfl) ?_
        refine wk_if_neb (tgt := 34) hx hb dX6_isFirstIn_13 (by decide) (fun c13 => ?_) (fun c13 => ?_)
        · skip
          refine lv_iconst (v := nI 1) hx hb dX6_isFirstIn_34 (by decide) ?_
          refine lv_goto (tgt := 39) hx hb dX6_isFirstIn_35 (by decide) ?_
          refine lv_istore_n (lv' := [(1, .int (nI 1)), (0, .ref (r 0)), (2, .int (nI k))]) hx hb dX6_isFirstIn_39 rfl hl (by decide) rfl (fun ls hl => ?_)
          refine lv_iinc (v := (nI (k + 1))) (lv' := [(2, .int (nI (k + 1))), (1, .int (nI 1)), (0, .ref (r 0))]) hx hb dX6_isFirstIn_40 hl (k := 2) rfl (by exact nI_1 _) (by decide) rfl (fun ls hl => ?_)
          refine lv_goto (tgt := 4) hx hb dX6_isFirstIn_43 (by decide) ?_
          exact ih4 (k + 1) true (by omega) (by omega) (ex_t1 ht c13) _ _ _ hP hS (lv_sub hl [2, 1, 0] rfl)
        · skip
          refine lv_aload_n hx hb dX6_isFirstIn_16 rfl (lv_at hl 0 rfl) ?_
          refine va_get (D := D) (ci := 5) (v := .ref (r 1)) (C := RX6) (T := TX6) (N := 27) hx hb hts hin6 hown hK hP 0 rfl rfl 1 (by decide) fl7 (fun _ h9 => h9) rfl dX6_isFirstIn_17 ?_
          refine lv_iconst (v := nI 0) hx hb dX6_isFirstIn_20 (by decide) ?_
          refine lv_aload_n hx hb dX6_isFirstIn_21 rfl (lv_at hl 0 rfl) ?_
          refine va_get (D := D) (ci := 5) (v := .ref (r 12)) (C := RX6) (T := TX6) (N := 27) hx hb hts hin6 hown hK hP 0 rfl rfl 12 (by decide) fl36 (fun _ h9 => h9) rfl dX6_isFirstIn_22 ?_
          refine lv_iconst (v := nI 5) hx hb dX6_isFirstIn_25 (by decide) ?_
          refine lv_iload_n hx hb dX6_isFirstIn_26 rfl (lv_at hl 2 rfl) ?_
          refine wk_imul hx hb dX6_isFirstIn_27 ?_
          refine wk_Si (As := [.ref (r 1), .int (nI 0), .ref (r 12), .int (nI (5 * k))]) (rest := []) ⟨hx, hb, hml, hown, hts⟩ (c_X6_tops l D cI cJ cZ cA (r 1) (r 12) 5 7500 0 (5 * k) a1 a12 (by omega) (by omega) (by omega) (by omega)) (va_cwS 4 hts gX6_isFirstIn_X6_tops rfl rfl rfl (by decide +kernel) ⟨Nat.le_of_ble_eq_true rfl, Nat.le_of_ble_eq_true rfl⟩) hK hP [1, 8] rfl hS rfl hl.1 rfl (Nat.le_of_ble_eq_true rfl) dX6_isFirstIn_28 ⟨Nat.zero_le _, Nat.zero_le _⟩ (fun H locs hP hS => ?_)
          refine wk_if_eqb (tgt := 38) hx hb dX6_isFirstIn_31 (by decide) (fun c31 => ?_) (fun c31 => ?_)
          · skip
            refine lv_iconst (v := nI 0) hx hb dX6_isFirstIn_38 (by decide) ?_
            refine lv_istore_n (lv' := [(1, .int (nI 0)), (0, .ref (r 0)), (2, .int (nI k))]) hx hb dX6_isFirstIn_39 rfl hl (by decide) rfl (fun ls hl => ?_)
            refine lv_iinc (v := (nI (k + 1))) (lv' := [(2, .int (nI (k + 1))), (1, .int (nI 0)), (0, .ref (r 0))]) hx hb dX6_isFirstIn_40 hl (k := 2) rfl (by exact nI_1 _) (by decide) rfl (fun ls hl => ?_)
            refine lv_goto (tgt := 4) hx hb dX6_isFirstIn_43 (by decide) ?_
            exact ih4 (k + 1) false (by omega) (by omega) (ex_f ht c13 (by rw [c31]; exact Bool.false_ne_true)) _ _ _ hP hS (lv_sub hl [2, 1, 0] rfl)
          · skip
            refine lv_iconst (v := nI 1) hx hb dX6_isFirstIn_34 (by decide) ?_
            refine lv_goto (tgt := 39) hx hb dX6_isFirstIn_35 (by decide) ?_
            refine lv_istore_n (lv' := [(1, .int (nI 1)), (0, .ref (r 0)), (2, .int (nI k))]) hx hb dX6_isFirstIn_39 rfl hl (by decide) rfl (fun ls hl => ?_)
            refine lv_iinc (v := (nI (k + 1))) (lv' := [(2, .int (nI (k + 1))), (1, .int (nI 1)), (0, .ref (r 0))]) hx hb dX6_isFirstIn_40 hl (k := 2) rfl (by exact nI_1 _) (by decide) rfl (fun ls hl => ?_)
            refine lv_goto (tgt := 4) hx hb dX6_isFirstIn_43 (by decide) ?_
            exact ih4 (k + 1) true (by omega) (by omega) (ex_t2 c31) _ _ _ hP hS (lv_sub hl [2, 1, 0] rfl)
  exact lp4 _ 0 false (Nat.lt_succ_self _) (by omega) ex_0 _ _ _ hP hS (lv_sub hl [2, 1, 0] rfl)

set_option maxHeartbeats 4000000 in
set_option maxRecDepth 100000 in
theorem c_X6_isInRound (l : Launch) (D : va_G) (cI cJ cZ cA : ClassId) (r : Nat → Nat) (i0 i3 i7 i8 i9 i13 i15 i17 i18 i19 i22 i23 : Int32) (a1 a2 a4 a5 a6 a10 a11 a12 a14 a16 a20 a21 a24 a25 a26 : Nat → Int32) (ma ml y : Nat) (mf : Nat → Int32) (X : List Rw) (hml9 : ml < 2 ^ 31) (hml5 : 5 ≤ ml) (hy : y ≤ 60) (hX : rowsV a11 (1000 * y) X) (hXl : X.length ≤ 200) (hc9 : a10 y = nI X.length) : Met l yX6_isInRound wsX6_isInRound ({ frames := 1, cells := 0, slots := 0, locals := 25 } : Room) (ro_P D (tysC cI cJ cZ cA) [.ref (r 0), .ref ma, .int (nI y)] ((mw cI r i0 i3 i7 i8 i9 i13 i15 i17 i18 i19 i22 i23 a1 a2 a4 a5 a6 a10 a11 a12 a14 a16 a20 a21 a24 a25 a26) ++ [(ma, .inl (cI, ml, .inl mf))])) (ro_Q (bI (X.any (fun x => tp5 mf x)))) 0 0 (fun _ => False) := by
  refine met_ro (cc := cX6_isInRound) (maxL := 5) (ty := .boolean) (by decide) rfl (Nat.le_of_ble_eq_true rfl) (bI_n _) ?_
  intro p e s m args below meth c Q hx hb hml hown hts hP hK hret ls hl
  obtain ⟨H, hH9⟩ : ∃ H : Heap, H = s.heap := ⟨_, rfl⟩
  have hP : va_P D vwCl ((mw cI r i0 i3 i7 i8 i9 i13 i15 i17 i18 i19 i22 i23 a1 a2 a4 a5 a6 a10 a11 a12 a14 a16 a20 a21 a24 a25 a26) ++ [(ma, .inl (cI, ml, .inl mf))]) H := by rw [hH9]; exact hP
  have hS : va_S (fun _ => False) s.heap H [] := by rw [hH9]; exact va_S.rf
  rw [← hH9]
  have hown : s.vm.findClass RX6 = some m.cls := hown
  have hin6 : ∀ w ∈ wsX60, w ∈ wsX6_isInRound := by decide +kernel
  have fl29 := hts (.fieldLink RX6 29 "CoverRoundsModel" "leastCounts" "[I") (by decide +kernel)
  have fl33 := hts (.fieldLink RX6 33 "CoverRoundsModel" "kept" "[I") (by decide +kernel)
  have hl : lv_has ls 5 [(0, .ref (r 0)), (1, .ref ma), (2, .int (nI y))] := hl
  refine lv_iconst (v := nI 0) hx hb dX6_isInRound_0 (by decide) ?_
  refine lv_istore_n (lv' := [(3, .int (nI 0)), (0, .ref (r 0)), (1, .ref ma), (2, .int (nI y))]) hx hb dX6_isInRound_1 rfl hl (by decide) rfl (fun ls hl => ?_)
  refine lv_iconst (v := nI 0) hx hb dX6_isInRound_2 (by decide) ?_
  refine lv_istore (lv' := [(4, .int (nI 0)), (3, .int (nI 0)), (0, .ref (r 0)), (1, .ref ma), (2, .int (nI y))]) hx hb dX6_isInRound_3 hl (by decide) rfl (fun ls hl => ?_)
  have lp5 : ∀ (n9 : Nat) (k : Nat) (t : Bool), X.length - k < n9 → k ≤ X.length → (t = true ↔ ∃ q, q < k ∧ tpB mf 0 a11 (1000 * y + 5 * q) = true) → ∀ (H : Heap) (locs : List Loc) (ls : Array Slot), va_P D vwCl ((mw cI r i0 i3 i7 i8 i9 i13 i15 i17 i18 i19 i22 i23 a1 a2 a4 a5 a6 a10 a11 a12 a14 a16 a20 a21 a24 a25 a26) ++ [(ma, .inl (cI, ml, .inl mf))]) H → va_S (fun _ => False) s.heap H locs → lv_has ls 5 [(0, .ref (r 0)), (1, .ref ma), (2, .int (nI y)), (3, .int (bI t)), (4, .int (nI k))] → W p l e ({ frames := 1, cells := 0, slots := 0, locals := 25 } : Room) s m args below meth c H locs 0 0 Q (F0 m 5 ls []) := by
    intro n9
    induction n9 with
    | zero => intro k t hm5; exact absurd hm5 (Nat.not_lt_zero _)
    | succ n9 ih5 =>
      intro k t hm5 hk ht H locs ls hP hS hl
      refine lv_iload hx hb dX6_isInRound_5 (lv_at hl 4 rfl) ?_
      refine lv_aload_n hx hb dX6_isInRound_7 rfl (lv_at hl 0 rfl) ?_
      refine va_get (D := D) (ci := 5) (v := .ref (r 10)) (C := RX6) (T := TX6) (N := 27) hx hb hts hin6 hown hK hP 0 rfl rfl 10 (by decide) fl29 (fun _ h9 => h9) rfl dX6_isInRound_8 ?_
      refine lv_iload_n hx hb dX6_isInRound_11 rfl (lv_at hl 2 rfl) ?_
      refine wk_iald hx hb hK hP 6 0 rfl rfl (i := y) (by omega) (by omega) dX6_isInRound_12 ?_
      rw [show (a10 y) = (nI X.length) from hc9]
      refine wk_icmp_ge (tgt := 54) hx hb (by omega) (by omega) dX6_isInRound_13 (by decide) (fun c13 => ?_) (fun c13 => ?_)
      · skip
        refine lv_iload_n hx hb dX6_isInRound_54 rfl (lv_at hl 3 rfl) ?_
        have hkX : k = X.length := by omega
        subst hkX
        exact hret _ _ _ _ _ (congrArg bI (bb_eq ht (any_rows hX (fun q hq => by rw [Nat.zero_add])))) dX6_isInRound_55 hS
      · skip
        refine lv_iload_n hx hb dX6_isInRound_16 rfl (lv_at hl 3 rfl) ?_
        refine wk_if_neb (tgt := 42) hx hb dX6_isInRound_17 (by decide) (fun c17 => ?_) (fun c17 => ?_)
        · skip
          refine lv_iconst (v := nI 1) hx hb dX6_isInRound_42 (by decide) ?_
          refine lv_goto (tgt := 47) hx hb dX6_isInRound_43 (by decide) ?_
          refine lv_istore_n (lv' := [(3, .int (nI 1)), (0, .ref (r 0)), (1, .ref ma), (2, .int (nI y)), (4, .int (nI k))]) hx hb dX6_isInRound_47 rfl hl (by decide) rfl (fun ls hl => ?_)
          refine lv_iinc (v := (nI (k + 1))) (lv' := [(4, .int (nI (k + 1))), (3, .int (nI 1)), (0, .ref (r 0)), (1, .ref ma), (2, .int (nI y))]) hx hb dX6_isInRound_48 hl (k := 4) rfl (by exact nI_1 _) (by decide) rfl (fun ls hl => ?_)
          refine lv_goto (tgt := 5) hx hb dX6_isInRound_51 (by decide) ?_
          exact ih5 (k + 1) true (by omega) (by omega) (ex_t1 ht c17) _ _ _ hP hS (lv_sub hl [2, 3, 4, 1, 0] rfl)
        · skip
          refine lv_aload_n hx hb dX6_isInRound_20 rfl (lv_at hl 1 rfl) ?_
          refine lv_iconst (v := nI 0) hx hb dX6_isInRound_21 (by decide) ?_
          refine lv_aload_n hx hb dX6_isInRound_22 rfl (lv_at hl 0 rfl) ?_
          refine va_get (D := D) (ci := 5) (v := .ref (r 11)) (C := RX6) (T := TX6) (N := 27) hx hb hts hin6 hown hK hP 0 rfl rfl 11 (by decide) fl33 (fun _ h9 => h9) rfl dX6_isInRound_23 ?_
          refine lv_sipush (v := nI 1000) hx hb dX6_isInRound_26 (by decide) ?_
          refine lv_iload_n hx hb dX6_isInRound_29 rfl (lv_at hl 2 rfl) ?_
          refine wk_imul hx hb dX6_isInRound_30 ?_
          refine lv_iconst (v := nI 5) hx hb dX6_isInRound_31 (by decide) ?_
          refine lv_iload hx hb dX6_isInRound_32 (lv_at hl 4 rfl) ?_
          refine wk_imul hx hb dX6_isInRound_34 ?_
          refine wk_iadd hx hb dX6_isInRound_35 ?_
          refine wk_Si (As := [.ref ma, .int (nI 0), .ref (r 11), .int (nI ((1000 * y) + (5 * k)))]) (rest := []) ⟨hx, hb, hml, hown, hts⟩ (c_X6_tops l D cI cJ cZ cA ma (r 11) ml 61000 0 ((1000 * y) + (5 * k)) mf a11 (by omega) (by omega) (by omega) (by omega)) (va_cwS 4 hts gX6_isInRound_X6_tops rfl rfl rfl (by decide +kernel) ⟨Nat.le_of_ble_eq_true rfl, Nat.le_of_ble_eq_true rfl⟩) hK hP [16, 7] rfl hS rfl hl.1 rfl (Nat.le_of_ble_eq_true rfl) dX6_isInRound_36 ⟨Nat.zero_le _, Nat.zero_le _⟩ (fun H locs hP hS => ?_)
          refine wk_if_eqb (tgt := 46) hx hb dX6_isInRound_39 (by decide) (fun c39 => ?_) (fun c39 => ?_)
          · skip
            refine lv_iconst (v := nI 0) hx hb dX6_isInRound_46 (by decide) ?_
            refine lv_istore_n (lv' := [(3, .int (nI 0)), (0, .ref (r 0)), (1, .ref ma), (2, .int (nI y)), (4, .int (nI k))]) hx hb dX6_isInRound_47 rfl hl (by decide) rfl (fun ls hl => ?_)
            refine lv_iinc (v := (nI (k + 1))) (lv' := [(4, .int (nI (k + 1))), (3, .int (nI 0)), (0, .ref (r 0)), (1, .ref ma), (2, .int (nI y))]) hx hb dX6_isInRound_48 hl (k := 4) rfl (by exact nI_1 _) (by decide) rfl (fun ls hl => ?_)
            refine lv_goto (tgt := 5) hx hb dX6_isInRound_51 (by decide) ?_
            exact ih5 (k + 1) false (by omega) (by omega) (ex_f ht c17 (by rw [c39]; exact Bool.false_ne_true)) _ _ _ hP hS (lv_sub hl [2, 3, 4, 1, 0] rfl)
          · skip
            refine lv_iconst (v := nI 1) hx hb dX6_isInRound_42 (by decide) ?_
            refine lv_goto (tgt := 47) hx hb dX6_isInRound_43 (by decide) ?_
            refine lv_istore_n (lv' := [(3, .int (nI 1)), (0, .ref (r 0)), (1, .ref ma), (2, .int (nI y)), (4, .int (nI k))]) hx hb dX6_isInRound_47 rfl hl (by decide) rfl (fun ls hl => ?_)
            refine lv_iinc (v := (nI (k + 1))) (lv' := [(4, .int (nI (k + 1))), (3, .int (nI 1)), (0, .ref (r 0)), (1, .ref ma), (2, .int (nI y))]) hx hb dX6_isInRound_48 hl (k := 4) rfl (by exact nI_1 _) (by decide) rfl (fun ls hl => ?_)
            refine lv_goto (tgt := 5) hx hb dX6_isInRound_51 (by decide) ?_
            exact ih5 (k + 1) true (by omega) (by omega) (ex_t2 c39) _ _ _ hP hS (lv_sub hl [2, 3, 4, 1, 0] rfl)
  exact lp5 _ 0 false (Nat.lt_succ_self _) (by omega) ex_0 _ _ _ hP hS (lv_sub hl [2, 3, 4, 1, 0] rfl)
