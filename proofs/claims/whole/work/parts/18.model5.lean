set_option maxHeartbeats 4000000 in
set_option maxRecDepth 100000 in
theorem c_X6_tellRow (l : Launch) (D : va_G) (cI cJ cZ cA : ClassId) (r : Nat → Nat) (i0 i7 i9 i13 i15 i17 i18 i19 i22 i23 : Int32) (a1 a2 a4 a5 a6 a10 a11 a12 a14 a16 a20 a21 a24 a25 a26 : Nat → Int32) (sz tr la : Nat) (Ks : Nat → List Rw) (gt : Nat → Nat) (htr : tr ≤ 6) (hla : la ≤ 60) (hKs : ∀ j, j < la → rowsV a11 (1000 * j) (Ks j) ∧ (Ks j).length ≤ 200 ∧ a10 j = nI (Ks j).length) (hg : ∀ k, k < la → gt k < tr ∧ leadsB tr a4 a5 (gAt a4 a5 a1 gt k) (Ks (la - k - 1)) (gt k) = true ∧ ∀ t, t < gt k → leadsB tr a4 a5 (gAt a4 a5 a1 gt k) (Ks (la - k - 1)) t = false) : Met l yX6_tellRow wsX6_tellRow ({ frames := 3, cells := 0, slots := 0, locals := 73 } : Room) (wr_P D (tysC cI cJ cZ cA) [.ref (r 0)] (mw cI r i0 (nI tr) i7 (nI la) i9 i13 i15 i17 i18 i19 i22 i23 a1 a2 a4 a5 a6 a10 a11 a12 a14 a16 a20 a21 a24 a25 a26) sz) (wr_Qv D (S := (Nat → Int32) × (Nat → Int32) × (Nat → Int32)) (mw cI r i0 (nI tr) i7 (nI la) i9 i13 i15 i17 i18 i19 i22 i23 a1 a2 a4 a5 a6 a10 a11 a12 a14 a16 a20 a21 a24 a25 a26) sz (fun u => ∀ j, j < la → u.1 j = nI (gt j)) (fun u => (mw cI r i0 (nI tr) i7 (nI la) i9 i13 i15 i17 i18 i19 i22 i23 a1 a2 a4 a5 a6 a10 a11 a12 a14 u.1 a20 a21 a24 u.2.1 u.2.2))) 0 0 (va_A (mw cI r i0 (nI tr) i7 (nI la) i9 i13 i15 i17 i18 i19 i22 i23 a1 a2 a4 a5 a6 a10 a11 a12 a14 a16 a20 a21 a24 a25 a26) sz) := by
  refine met_wv (cc := cX6_tellRow) (maxL := 5) (by decide) rfl (Nat.le_of_ble_eq_true rfl) ?_
  intro p e s m args below meth c Q A hx hb hml hown hts hP hK hD hA hret ls hl
  obtain ⟨H, hH9⟩ : ∃ H : Heap, H = s.heap := ⟨_, rfl⟩
  have hP : va_P D vwCl (mw cI r i0 (nI tr) i7 (nI la) i9 i13 i15 i17 i18 i19 i22 i23 a1 a2 a4 a5 a6 a10 a11 a12 a14 a16 a20 a21 a24 a25 a26) H := by rw [hH9]; exact hP
  have hS : va_S A s.heap H [] := by rw [hH9]; exact va_S.rf
  rw [← hH9]
  have hown : s.vm.findClass RX6 = some m.cls := hown
  have hin6 : ∀ w ∈ wsX60, w ∈ wsX6_tellRow := by decide +kernel
  have fl57 := hts (.fieldLink RX6 57 "CoverRoundsModel" "trail" "[I") (by decide +kernel)
  have fl7 := hts (.fieldLink RX6 7 "CoverRoundsModel" "first" "[I") (by decide +kernel)
  have fl96 := hts (.fieldLink RX6 96 "CoverRoundsModel" "last" "I") (by decide +kernel)
  have fl42 := hts (.fieldLink RX6 42 "CoverRoundsModel" "rows" "[I") (by decide +kernel)
  have fl19 := hts (.fieldLink RX6 19 "CoverRoundsModel" "gives" "[I") (by decide +kernel)
  have fl16 := hts (.fieldLink RX6 16 "CoverRoundsModel" "takes" "[I") (by decide +kernel)
  have hl : lv_has ls 5 [(0, .ref (r 0))] := hl
  refine lv_aload_n hx hb dX6_tellRow_0 rfl (lv_at hl 0 rfl) ?_
  refine va_get (D := D) (ci := 5) (v := .ref (r 26)) (C := RX6) (T := TX6) (N := 27) hx hb hts hin6 hown hK hP 0 rfl rfl 26 (by decide) fl57 (fun _ h9 => h9) rfl dX6_tellRow_1 ?_
  refine lv_astore_n (lv' := [(1, .ref (r 26)), (0, .ref (r 0))]) hx hb dX6_tellRow_4 rfl hl (by decide) rfl (fun ls hl => ?_)
  refine lv_iconst (v := nI 0) hx hb dX6_tellRow_5 (by decide) ?_
  refine lv_istore_n (lv' := [(2, .int (nI 0)), (1, .ref (r 26)), (0, .ref (r 0))]) hx hb dX6_tellRow_6 rfl hl (by decide) rfl (fun ls hl => ?_)
  have lp7 : ∀ (n9 : Nat) (q : Nat), 5 - q < n9 → q ≤ 5 → ∀ (H : Heap) (locs : List Loc) (ls : Array Slot), va_P D vwCl (mw cI r i0 (nI tr) i7 (nI la) i9 i13 i15 i17 i18 i19 i22 i23 a1 a2 a4 a5 a6 a10 a11 a12 a14 a16 a20 a21 a24 a25 (cpN a1 a26 q)) H → va_D A (mw cI r i0 (nI tr) i7 (nI la) i9 i13 i15 i17 i18 i19 i22 i23 a1 a2 a4 a5 a6 a10 a11 a12 a14 a16 a20 a21 a24 a25 (cpN a1 a26 q)) → va_S A s.heap H locs → lv_has ls 5 [(0, .ref (r 0)), (1, .ref (r 26)), (2, .int (nI q))] → W p l e ({ frames := 3, cells := 0, slots := 0, locals := 73 } : Room) s m args below meth c H locs 0 0 Q (F0 m 7 ls []) := by
    intro n9
    induction n9 with
    | zero => intro q hm7; exact absurd hm7 (Nat.not_lt_zero _)
    | succ n9 ih7 =>
      intro q hm7 hq H locs ls hP hD hS hl
      refine lv_iload_n hx hb dX6_tellRow_7 rfl (lv_at hl 2 rfl) ?_
      refine lv_iconst (v := nI 5) hx hb dX6_tellRow_8 (by decide) ?_
      refine wk_icmp_ge (tgt := 27) hx hb (by omega) (by omega) dX6_tellRow_9 (by decide) (fun c9 => ?_) (fun c9 => ?_)
      · skip
        have hq9 : q = 5 := by omega
        subst hq9
        refine lv_iconst (v := nI 0) hx hb dX6_tellRow_27 (by decide) ?_
        refine lv_istore_n (lv' := [(2, .int (nI 0)), (0, .ref (r 0)), (1, .ref (r 26))]) hx hb dX6_tellRow_28 rfl hl (by decide) rfl (fun ls hl => ?_)
        have lp29 : ∀ (n9 : Nat) (k : Nat) (f16 : Nat → Int32) (f25 : Nat → Int32) (f26 : Nat → Int32), la - k < n9 → k ≤ la → (∀ j, j < k → f16 j = nI (gt j)) → (∀ q, q < 5 → f26 q = gAt a4 a5 a1 gt k q) → ∀ (H : Heap) (locs : List Loc) (ls : Array Slot), va_P D vwCl (mw cI r i0 (nI tr) i7 (nI la) i9 i13 i15 i17 i18 i19 i22 i23 a1 a2 a4 a5 a6 a10 a11 a12 a14 f16 a20 a21 a24 f25 f26) H → va_D A (mw cI r i0 (nI tr) i7 (nI la) i9 i13 i15 i17 i18 i19 i22 i23 a1 a2 a4 a5 a6 a10 a11 a12 a14 f16 a20 a21 a24 f25 f26) → va_S A s.heap H locs → lv_has ls 5 [(0, .ref (r 0)), (1, .ref (r 26)), (2, .int (nI k))] → W p l e ({ frames := 3, cells := 0, slots := 0, locals := 73 } : Room) s m args below meth c H locs 0 0 Q (F0 m 29 ls []) := by
          intro n9
          induction n9 with
          | zero => intro k f16 f25 f26 hm29; exact absurd hm29 (Nat.not_lt_zero _)
          | succ n9 ih29 =>
            intro k f16 f25 f26 hm29 hk h16 h26 H locs ls hP hD hS hl
            refine lv_iload_n hx hb dX6_tellRow_29 rfl (lv_at hl 2 rfl) ?_
            refine lv_aload_n hx hb dX6_tellRow_30 rfl (lv_at hl 0 rfl) ?_
            refine va_get (D := D) (ci := 5) (v := .int (nI la)) (C := RX6) (T := TX6) (N := 27) hx hb hts hin6 hown hK hP 0 rfl rfl 8 (by decide) fl96 (fun _ h9 => h9) rfl dX6_tellRow_31 ?_
            refine wk_icmp_ge (tgt := 120) hx hb (by omega) (by omega) dX6_tellRow_34 (by decide) (fun c34 => ?_) (fun c34 => ?_)
            · skip
              have hkl : k = la := by omega
              subst hkl
              exact hret (f16, f25, f26) _ _ _ _ _ _ h16 hP hD dX6_tellRow_120 hS (Nat.zero_le _) (Nat.zero_le _)
            · skip
              obtain ⟨hg1, hg2, hg3⟩ := hg k (by omega)
              refine lv_iconst (v := nI 0) hx hb dX6_tellRow_37 (by decide) ?_
              refine lv_istore_n (lv' := [(3, .int (nI 0)), (0, .ref (r 0)), (1, .ref (r 26)), (2, .int (nI k))]) hx hb dX6_tellRow_38 rfl hl (by decide) rfl (fun ls hl => ?_)
              have lp39 : ∀ (n9 : Nat) (t : Nat) (g25 : Nat → Int32), gt k - t < n9 → t ≤ gt k → ∀ (H : Heap) (locs : List Loc) (ls : Array Slot), va_P D vwCl (mw cI r i0 (nI tr) i7 (nI la) i9 i13 i15 i17 i18 i19 i22 i23 a1 a2 a4 a5 a6 a10 a11 a12 a14 f16 a20 a21 a24 g25 f26) H → va_D A (mw cI r i0 (nI tr) i7 (nI la) i9 i13 i15 i17 i18 i19 i22 i23 a1 a2 a4 a5 a6 a10 a11 a12 a14 f16 a20 a21 a24 g25 f26) → va_S A s.heap H locs → lv_has ls 5 [(0, .ref (r 0)), (1, .ref (r 26)), (2, .int (nI k)), (3, .int (nI t))] → W p l e ({ frames := 3, cells := 0, slots := 0, locals := 73 } : Room) s m args below meth c H locs 0 0 Q (F0 m 39 ls []) := by
                intro n9
                induction n9 with
                | zero => intro t g25 hm39; exact absurd hm39 (Nat.not_lt_zero _)
                | succ n9 ih39 =>
                  intro t g25 hm39 ht H locs ls hP hD hS hl
                  refine lv_aload_n hx hb dX6_tellRow_39 rfl (lv_at hl 0 rfl) ?_
                  refine lv_aload_n hx hb dX6_tellRow_40 rfl (lv_at hl 1 rfl) ?_
                  refine lv_iload_n hx hb dX6_tellRow_41 rfl (lv_at hl 3 rfl) ?_
                  refine lv_aload_n hx hb dX6_tellRow_42 rfl (lv_at hl 0 rfl) ?_
                  refine va_get (D := D) (ci := 5) (v := .int (nI la)) (C := RX6) (T := TX6) (N := 27) hx hb hts hin6 hown hK hP 0 rfl rfl 8 (by decide) fl96 (fun _ h9 => h9) rfl dX6_tellRow_43 ?_
                  refine lv_iload_n hx hb dX6_tellRow_46 rfl (lv_at hl 2 rfl) ?_
                  refine wk_isub hx hb (by omega) dX6_tellRow_47 ?_
                  refine lv_iconst (v := nI 1) hx hb dX6_tellRow_48 (by decide) ?_
                  refine wk_isub hx hb (by omega) dX6_tellRow_49 ?_
                  refine wk_ViW (As := [.ref (r 26), .int (nI t), .int (nI ((la - k) - 1))]) (rest := []) (wr := []) ⟨hx, hb, hml, hown, hts⟩ (c_X6_leads l D cI cJ cZ cA r i0 i7 (nI la) i9 i13 i15 i17 i18 i19 i22 i23 a1 a2 a4 a5 a6 a10 a11 a12 a14 f16 a20 a21 a24 g25 f26 H.size tr t ((la - k) - 1) (Ks ((la - k) - 1)) htr (by omega) (by omega) (hKs _ (by omega)).1 (hKs _ (by omega)).2.1 (hKs _ (by omega)).2.2) (cwV 3 hts gX6_tellRow_X6_leads rfl rfl rfl (by decide +kernel) ⟨Nat.le_of_ble_eq_true rfl, Nat.le_of_ble_eq_true rfl⟩) hK hP hD hA [0, 1, 2, 3, 4, 5, 6, 7, 8, 9, 10, 11, 12, 13, 14, 15] rfl (by decide) [] rfl (by decide) (by decide) 0 5 rfl rfl hS rfl hl.1 rfl (Nat.le_of_ble_eq_true rfl) dX6_tellRow_50 ⟨Nat.le_of_ble_eq_true rfl, Nat.le_of_ble_eq_true rfl⟩ (fun r9 u9 H locs hu hP hD hS => ?_)
                  subst hu
                  have hP : va_P D vwCl (mw cI r i0 (nI tr) i7 (nI la) i9 i13 i15 i17 i18 i19 i22 i23 a1 a2 a4 a5 a6 a10 a11 a12 a14 f16 a20 a21 a24 u9 f26) H := hP
                  have hD : va_D A (mw cI r i0 (nI tr) i7 (nI la) i9 i13 i15 i17 i18 i19 i22 i23 a1 a2 a4 a5 a6 a10 a11 a12 a14 f16 a20 a21 a24 u9 f26) := hD
                  refine wk_if_neb (tgt := 62) hx hb dX6_tellRow_53 (by decide) (fun c53 => ?_) (fun c53 => ?_)
                  · skip
                    have htg : t = gt k := by
                      rcases Nat.lt_or_eq_of_le ht with h | h
                      · rw [leadsB_cg h26, hg3 t h] at c53
                        cases c53
                      · exact h
                    refine lv_aload_n hx hb dX6_tellRow_62 rfl (lv_at hl 0 rfl) ?_
                    refine va_get (D := D) (ci := 5) (v := .ref (r 16)) (C := RX6) (T := TX6) (N := 27) hx hb hts hin6 hown hK hP 0 rfl rfl 16 (by decide) fl42 (fun _ h9 => h9) rfl dX6_tellRow_63 ?_
                    refine lv_iload_n hx hb dX6_tellRow_66 rfl (lv_at hl 2 rfl) ?_
                    refine lv_iload_n hx hb dX6_tellRow_67 rfl (lv_at hl 3 rfl) ?_
                    refine wk_iast hx hb hK hP hD hS 10 0 rfl rfl (i := k) (by omega) (by omega) dX6_tellRow_68 (fun H locs hP hD hS => ?_)
                    have hP : va_P D vwCl (mw cI r i0 (nI tr) i7 (nI la) i9 i13 i15 i17 i18 i19 i22 i23 a1 a2 a4 a5 a6 a10 a11 a12 a14 (upd f16 k (nI t)) a20 a21 a24 u9 f26) H := hP
                    have hD : va_D A (mw cI r i0 (nI tr) i7 (nI la) i9 i13 i15 i17 i18 i19 i22 i23 a1 a2 a4 a5 a6 a10 a11 a12 a14 (upd f16 k (nI t)) a20 a21 a24 u9 f26) := hD
                    refine lv_iconst (v := nI 0) hx hb dX6_tellRow_69 (by decide) ?_
                    refine lv_istore (lv' := [(4, .int (nI 0)), (0, .ref (r 0)), (1, .ref (r 26)), (2, .int (nI k)), (3, .int (nI t))]) hx hb dX6_tellRow_70 hl (by decide) rfl (fun ls hl => ?_)
                    have lp72 : ∀ (n9 : Nat) (q : Nat) (h25 : Nat → Int32), 5 - q < n9 → q ≤ 5 → ∀ (H : Heap) (locs : List Loc) (ls : Array Slot), va_P D vwCl (mw cI r i0 (nI tr) i7 (nI la) i9 i13 i15 i17 i18 i19 i22 i23 a1 a2 a4 a5 a6 a10 a11 a12 a14 (upd f16 k (nI t)) a20 a21 a24 h25 (cpN (fiM a4 a5 f26 t) f26 q)) H → va_D A (mw cI r i0 (nI tr) i7 (nI la) i9 i13 i15 i17 i18 i19 i22 i23 a1 a2 a4 a5 a6 a10 a11 a12 a14 (upd f16 k (nI t)) a20 a21 a24 h25 (cpN (fiM a4 a5 f26 t) f26 q)) → va_S A s.heap H locs → lv_has ls 5 [(0, .ref (r 0)), (1, .ref (r 26)), (2, .int (nI k)), (3, .int (nI t)), (4, .int (nI q))] → W p l e ({ frames := 3, cells := 0, slots := 0, locals := 73 } : Room) s m args below meth c H locs 0 0 Q (F0 m 72 ls []) := by
                      intro n9
                      induction n9 with
                      | zero => intro q h25 hm72; exact absurd hm72 (Nat.not_lt_zero _)
                      | succ n9 ih72 =>
                        intro q h25 hm72 hq H locs ls hP hD hS hl
                        refine lv_iload hx hb dX6_tellRow_72 (lv_at hl 4 rfl) ?_
                        refine lv_iconst (v := nI 5) hx hb dX6_tellRow_74 (by decide) ?_
                        refine wk_icmp_ge (tgt := 114) hx hb (by omega) (by omega) dX6_tellRow_75 (by decide) (fun c75 => ?_) (fun c75 => ?_)
                        · skip
                          have hq9 : q = 5 := by omega
                          subst hq9
                          refine lv_iinc (v := (nI (k + 1))) (lv' := [(2, .int (nI (k + 1))), (0, .ref (r 0)), (1, .ref (r 26)), (3, .int (nI t)), (4, .int (nI 5))]) hx hb dX6_tellRow_114 hl (k := 2) rfl (by exact nI_1 _) (by decide) rfl (fun ls hl => ?_)
                          refine lv_goto (tgt := 29) hx hb dX6_tellRow_117 (by decide) ?_
                          exact ih29 (k + 1) (upd f16 k (nI t)) h25 (cpN (fiM a4 a5 f26 t) f26 5) (by omega) (by omega) (fun j hj => by rcases Nat.lt_or_eq_of_le (Nat.le_of_lt_succ hj) with h1 | rfl; rw [pk_un (by omega)]; exact h16 j h1; rw [pk_us, htg]) (fun q hq => by rw [cpN_lt hq]; show f26 q + _ = gAt a4 a5 a1 gt k q + _; rw [h26 q hq, htg]) _ _ _ hP hD hS (lv_sub hl [1, 2, 0] rfl)
                        · skip
                          refine lv_aload_n hx hb dX6_tellRow_78 rfl (lv_at hl 1 rfl) ?_
                          refine lv_iload hx hb dX6_tellRow_79 (lv_at hl 4 rfl) ?_
                          refine lv_dup2_11 hx hb dX6_tellRow_81 rfl rfl ?_
                          refine wk_iald hx hb hK hP 15 0 rfl rfl (i := q) (by omega) (by omega) dX6_tellRow_82 ?_
                          rw [show ((cpN (fiM a4 a5 f26 t) f26 q) q) = (f26 q) from cpN_ge (Nat.le_refl _)]
                          refine lv_aload_n hx hb dX6_tellRow_83 rfl (lv_at hl 0 rfl) ?_
                          refine va_get (D := D) (ci := 5) (v := .ref (r 5)) (C := RX6) (T := TX6) (N := 27) hx hb hts hin6 hown hK hP 0 rfl rfl 5 (by decide) fl19 (fun _ h9 => h9) rfl dX6_tellRow_84 ?_
                          refine lv_iconst (v := nI 5) hx hb dX6_tellRow_87 (by decide) ?_
                          refine lv_iload_n hx hb dX6_tellRow_88 rfl (lv_at hl 3 rfl) ?_
                          refine wk_imul hx hb dX6_tellRow_89 ?_
                          refine lv_iload hx hb dX6_tellRow_90 (lv_at hl 4 rfl) ?_
                          refine wk_iadd hx hb dX6_tellRow_92 ?_
                          refine wk_iald hx hb hK hP 4 0 rfl rfl (i := (5 * t) + q) (by omega) (by omega) dX6_tellRow_93 ?_
                          refine lv_aload_n hx hb dX6_tellRow_94 rfl (lv_at hl 0 rfl) ?_
                          refine va_get (D := D) (ci := 5) (v := .ref (r 4)) (C := RX6) (T := TX6) (N := 27) hx hb hts hin6 hown hK hP 0 rfl rfl 4 (by decide) fl16 (fun _ h9 => h9) rfl dX6_tellRow_95 ?_
                          refine lv_iconst (v := nI 5) hx hb dX6_tellRow_98 (by decide) ?_
                          refine lv_iload_n hx hb dX6_tellRow_99 rfl (lv_at hl 3 rfl) ?_
                          refine wk_imul hx hb dX6_tellRow_100 ?_
                          refine lv_iload hx hb dX6_tellRow_101 (lv_at hl 4 rfl) ?_
                          refine wk_iadd hx hb dX6_tellRow_103 ?_
                          refine wk_iald hx hb hK hP 3 0 rfl rfl (i := (5 * t) + q) (by omega) (by omega) dX6_tellRow_104 ?_
                          refine lv_isub hx hb dX6_tellRow_105 ?_
                          refine lv_iadd hx hb dX6_tellRow_106 ?_
                          refine wk_iast hx hb hK hP hD hS 15 0 rfl rfl (i := q) (by omega) (by omega) dX6_tellRow_107 (fun H locs hP hD hS => ?_)
                          have hP : va_P D vwCl (mw cI r i0 (nI tr) i7 (nI la) i9 i13 i15 i17 i18 i19 i22 i23 a1 a2 a4 a5 a6 a10 a11 a12 a14 (upd f16 k (nI t)) a20 a21 a24 h25 (upd (cpN (fiM a4 a5 f26 t) f26 q) q ((f26 q) + ((a5 ((5 * t) + q)) - (a4 ((5 * t) + q)))))) H := hP
                          have hD : va_D A (mw cI r i0 (nI tr) i7 (nI la) i9 i13 i15 i17 i18 i19 i22 i23 a1 a2 a4 a5 a6 a10 a11 a12 a14 (upd f16 k (nI t)) a20 a21 a24 h25 (upd (cpN (fiM a4 a5 f26 t) f26 q) q ((f26 q) + ((a5 ((5 * t) + q)) - (a4 ((5 * t) + q)))))) := hD
                          refine lv_iinc (v := (nI (q + 1))) (lv' := [(4, .int (nI (q + 1))), (0, .ref (r 0)), (1, .ref (r 26)), (2, .int (nI k)), (3, .int (nI t))]) hx hb dX6_tellRow_108 hl (k := 4) rfl (by exact nI_1 _) (by decide) rfl (fun ls hl => ?_)
                          refine lv_goto (tgt := 72) hx hb dX6_tellRow_111 (by decide) ?_
                          have hP : va_P D vwCl (mw cI r i0 (nI tr) i7 (nI la) i9 i13 i15 i17 i18 i19 i22 i23 a1 a2 a4 a5 a6 a10 a11 a12 a14 (upd f16 k (nI t)) a20 a21 a24 h25 (cpN (fiM a4 a5 f26 t) f26 (q + 1))) H := by rw [← cpN_s]; exact hP
                          have hD : va_D A (mw cI r i0 (nI tr) i7 (nI la) i9 i13 i15 i17 i18 i19 i22 i23 a1 a2 a4 a5 a6 a10 a11 a12 a14 (upd f16 k (nI t)) a20 a21 a24 h25 (cpN (fiM a4 a5 f26 t) f26 (q + 1))) := by rw [← cpN_s]; exact hD
                          exact ih72 (q + 1) h25 (by omega) (by omega) _ _ _ hP hD hS (lv_sub hl [1, 2, 3, 4, 0] rfl)
                    have hP : va_P D vwCl (mw cI r i0 (nI tr) i7 (nI la) i9 i13 i15 i17 i18 i19 i22 i23 a1 a2 a4 a5 a6 a10 a11 a12 a14 (upd f16 k (nI t)) a20 a21 a24 u9 (cpN (fiM a4 a5 f26 t) f26 0)) H := by rw [cpN_0]; exact hP
                    have hD : va_D A (mw cI r i0 (nI tr) i7 (nI la) i9 i13 i15 i17 i18 i19 i22 i23 a1 a2 a4 a5 a6 a10 a11 a12 a14 (upd f16 k (nI t)) a20 a21 a24 u9 (cpN (fiM a4 a5 f26 t) f26 0)) := by rw [cpN_0]; exact hD
                    exact lp72 _ 0 u9 (Nat.lt_succ_self _) (by omega) _ _ _ hP hD hS (lv_sub hl [1, 2, 3, 4, 0] rfl)
                  · skip
                    have htl : t + 1 ≤ gt k := by
                      rcases Nat.lt_or_eq_of_le ht with h | h
                      · exact h
                      · rw [leadsB_cg h26, h, hg2] at c53
                        cases c53
                    refine lv_iinc (v := (nI (t + 1))) (lv' := [(3, .int (nI (t + 1))), (0, .ref (r 0)), (1, .ref (r 26)), (2, .int (nI k))]) hx hb dX6_tellRow_56 hl (k := 3) rfl (by exact nI_1 _) (by decide) rfl (fun ls hl => ?_)
                    refine lv_goto (tgt := 39) hx hb dX6_tellRow_59 (by decide) ?_
                    exact ih39 (t + 1) u9 (by omega) htl _ _ _ hP hD hS (lv_sub hl [1, 2, 3, 0] rfl)
              exact lp39 _ 0 f25 (Nat.lt_succ_self _) (Nat.zero_le _) _ _ _ hP hD hS (lv_sub hl [1, 2, 3, 0] rfl)
        exact lp29 _ 0 a16 a25 (cpN a1 a26 5) (Nat.lt_succ_self _) (by omega) (fun j h => absurd h (Nat.not_lt_zero j)) (fun q hq => cpN_lt hq) _ _ _ hP hD hS (lv_sub hl [1, 2, 0] rfl)
      · skip
        refine lv_aload_n hx hb dX6_tellRow_12 rfl (lv_at hl 1 rfl) ?_
        refine lv_iload_n hx hb dX6_tellRow_13 rfl (lv_at hl 2 rfl) ?_
        refine lv_aload_n hx hb dX6_tellRow_14 rfl (lv_at hl 0 rfl) ?_
        refine va_get (D := D) (ci := 5) (v := .ref (r 1)) (C := RX6) (T := TX6) (N := 27) hx hb hts hin6 hown hK hP 0 rfl rfl 1 (by decide) fl7 (fun _ h9 => h9) rfl dX6_tellRow_15 ?_
        refine lv_iload_n hx hb dX6_tellRow_18 rfl (lv_at hl 2 rfl) ?_
        refine wk_iald hx hb hK hP 1 0 rfl rfl (i := q) (by omega) (by omega) dX6_tellRow_19 ?_
        refine wk_iast hx hb hK hP hD hS 15 0 rfl rfl (i := q) (by omega) (by omega) dX6_tellRow_20 (fun H locs hP hD hS => ?_)
        have hP : va_P D vwCl (mw cI r i0 (nI tr) i7 (nI la) i9 i13 i15 i17 i18 i19 i22 i23 a1 a2 a4 a5 a6 a10 a11 a12 a14 a16 a20 a21 a24 a25 (upd (cpN a1 a26 q) q (a1 q))) H := hP
        have hD : va_D A (mw cI r i0 (nI tr) i7 (nI la) i9 i13 i15 i17 i18 i19 i22 i23 a1 a2 a4 a5 a6 a10 a11 a12 a14 a16 a20 a21 a24 a25 (upd (cpN a1 a26 q) q (a1 q))) := hD
        refine lv_iinc (v := (nI (q + 1))) (lv' := [(2, .int (nI (q + 1))), (0, .ref (r 0)), (1, .ref (r 26))]) hx hb dX6_tellRow_21 hl (k := 2) rfl (by exact nI_1 _) (by decide) rfl (fun ls hl => ?_)
        refine lv_goto (tgt := 7) hx hb dX6_tellRow_24 (by decide) ?_
        have hP : va_P D vwCl (mw cI r i0 (nI tr) i7 (nI la) i9 i13 i15 i17 i18 i19 i22 i23 a1 a2 a4 a5 a6 a10 a11 a12 a14 a16 a20 a21 a24 a25 (cpN a1 a26 (q + 1))) H := by rw [← cpN_s]; exact hP
        have hD : va_D A (mw cI r i0 (nI tr) i7 (nI la) i9 i13 i15 i17 i18 i19 i22 i23 a1 a2 a4 a5 a6 a10 a11 a12 a14 a16 a20 a21 a24 a25 (cpN a1 a26 (q + 1))) := by rw [← cpN_s]; exact hD
        exact ih7 (q + 1) (by omega) (by omega) _ _ _ hP hD hS (lv_sub hl [1, 2, 0] rfl)
  have hP : va_P D vwCl (mw cI r i0 (nI tr) i7 (nI la) i9 i13 i15 i17 i18 i19 i22 i23 a1 a2 a4 a5 a6 a10 a11 a12 a14 a16 a20 a21 a24 a25 (cpN a1 a26 0)) H := by rw [cpN_0]; exact hP
  have hD : va_D A (mw cI r i0 (nI tr) i7 (nI la) i9 i13 i15 i17 i18 i19 i22 i23 a1 a2 a4 a5 a6 a10 a11 a12 a14 a16 a20 a21 a24 a25 (cpN a1 a26 0)) := by rw [cpN_0]; exact hD
  exact lp7 _ 0 (Nat.lt_succ_self _) (by omega) _ _ _ hP hD hS (lv_sub hl [2, 1, 0] rfl)

set_option maxHeartbeats 4000000 in
set_option maxRecDepth 100000 in
theorem c_X6_rounds (l : Launch) (D : va_G) (cI cJ cZ cA : ClassId) (r : Nat → Nat) (i7 i8 i9 i13 i15 i17 i18 i19 i22 i23 : Int32) (a1 a2 a4 a5 a6 a10 a11 a12 a14 a16 a20 a21 a24 a25 a26 : Nat → Int32) (sz pl tr la : Nat) (Ls : Nat → List Rw) (gt : Nat → Nat) (hpl : pl ≤ 5) (htr : tr ≤ 6) (hL0 : Ls 0 = tkIn [] (tgM pl a2)) (hLs : ∀ i, Ls (i + 1) = stepK tr a4 a5 (Ls i) (Ls i)) (hla : la ≤ 60) (hend : endM Ls a1 la ≠ nI 2) (hgo : ∀ j, j < la → endM Ls a1 j = nI 2) (hg : endM Ls a1 la = nI 1 → ∀ k, k < la → gt k < tr ∧ leadsB tr a4 a5 (gAt a4 a5 a1 gt k) (Ls (la - k - 1)) (gt k) = true ∧ ∀ t, t < gt k → leadsB tr a4 a5 (gAt a4 a5 a1 gt k) (Ls (la - k - 1)) t = false) : Met l yX6_rounds wsX6_rounds ({ frames := 4, cells := 0, slots := 0, locals := 97 } : Room) (wr_P D (tysC cI cJ cZ cA) [.ref (r 0)] (mw cI r (nI pl) (nI tr) i7 i8 i9 i13 i15 i17 i18 i19 i22 i23 a1 a2 a4 a5 a6 a10 a11 a12 a14 a16 a20 a21 a24 a25 a26) sz) (wr_Qi D (S := Int32 × Int32 × (Nat → Int32) × (Nat → Int32) × (Nat → Int32) × (Nat → Int32) × (Nat → Int32) × (Nat → Int32) × (Nat → Int32)) (mw cI r (nI pl) (nI tr) i7 i8 i9 i13 i15 i17 i18 i19 i22 i23 a1 a2 a4 a5 a6 a10 a11 a12 a14 a16 a20 a21 a24 a25 a26) sz (fun r9 u => r9 = endM Ls a1 la ∧ (∀ j, j ≤ la → u.2.2.1 j = nI (Ls j).length) ∧ (endM Ls a1 la = nI 1 → ∀ j, j < la → u.2.2.2.2.2.2.1 j = nI (gt j))) (fun u => (mw cI r (nI pl) (nI tr) (endM Ls a1 la) (nI la) (nI pl) u.1 u.2.1 i17 i18 i19 i22 i23 a1 a2 a4 a5 a6 u.2.2.1 u.2.2.2.1 u.2.2.2.2.1 u.2.2.2.2.2.1 u.2.2.2.2.2.2.1 a20 a21 a24 u.2.2.2.2.2.2.2.1 u.2.2.2.2.2.2.2.2))) 0 0 (va_A (mw cI r (nI pl) (nI tr) i7 i8 i9 i13 i15 i17 i18 i19 i22 i23 a1 a2 a4 a5 a6 a10 a11 a12 a14 a16 a20 a21 a24 a25 a26) sz) := by
  refine met_wi (cc := cX6_rounds) (maxL := 4) (ty := .int) (by decide) rfl (Nat.le_of_ble_eq_true rfl) ?_
  intro p e s m args below meth c Q A hx hb hml hown hts hP hK hD hA hret ls hl
  obtain ⟨H, hH9⟩ : ∃ H : Heap, H = s.heap := ⟨_, rfl⟩
  have hP : va_P D vwCl (mw cI r (nI pl) (nI tr) i7 i8 i9 i13 i15 i17 i18 i19 i22 i23 a1 a2 a4 a5 a6 a10 a11 a12 a14 a16 a20 a21 a24 a25 a26) H := by rw [hH9]; exact hP
  have hS : va_S A s.heap H [] := by rw [hH9]; exact va_S.rf
  rw [← hH9]
  have hown : s.vm.findClass RX6 = some m.cls := hown
  have hin6 : ∀ w ∈ wsX60, w ∈ wsX6_rounds := by decide +kernel
  have fl60 := hts (.fieldLink RX6 60 "CoverRoundsModel" "places" "I") (by decide +kernel)
  have fl93 := hts (.fieldLink RX6 93 "CoverRoundsModel" "roundPlaces" "I") (by decide +kernel)
  have fl80 := hts (.fieldLink RX6 80 "CoverRoundsModel" "roundCount" "I") (by decide +kernel)
  have fl54 := hts (.fieldLink RX6 54 "CoverRoundsModel" "work" "[I") (by decide +kernel)
  have fl13 := hts (.fieldLink RX6 13 "CoverRoundsModel" "target" "[I") (by decide +kernel)
  have fl29 := hts (.fieldLink RX6 29 "CoverRoundsModel" "leastCounts" "[I") (by decide +kernel)
  have fl33 := hts (.fieldLink RX6 33 "CoverRoundsModel" "kept" "[I") (by decide +kernel)
  have fl36 := hts (.fieldLink RX6 36 "CoverRoundsModel" "round" "[I") (by decide +kernel)
  have fl96 := hts (.fieldLink RX6 96 "CoverRoundsModel" "last" "I") (by decide +kernel)
  have fl39 := hts (.fieldLink RX6 39 "CoverRoundsModel" "before" "[I") (by decide +kernel)
  have fl87 := hts (.fieldLink RX6 87 "CoverRoundsModel" "beforeCount" "I") (by decide +kernel)
  have fl25 := hts (.fieldLink RX6 25 "CoverRoundsModel" "ended" "I") (by decide +kernel)
  have hl : lv_has ls 4 [(0, .ref (r 0))] := hl
  refine lv_aload_n hx hb dX6_rounds_0 rfl (lv_at hl 0 rfl) ?_
  refine lv_aload_n hx hb dX6_rounds_1 rfl (lv_at hl 0 rfl) ?_
  refine va_get (D := D) (ci := 5) (v := .int (nI pl)) (C := RX6) (T := TX6) (N := 27) hx hb hts hin6 hown hK hP 0 rfl rfl 0 (by decide) fl60 (fun _ h9 => h9) rfl dX6_rounds_2 ?_
  refine va_put (D := D) (ci := 5) (v := .int (nI pl)) (ty := .int) (C := RX6) (T := TX6) (N := 27) hx hb hts hin6 tyX6 tyX6_ok nmX6 hown hK hP hD hS 0 rfl rfl 9 (by decide) fl93 (fun _ h9 => h9) rfl (by decide +kernel) rfl rfl (Nat.le_of_ble_eq_true rfl) dX6_rounds_5 (fun H locs hP hD hS => ?_)
  have hP : va_P D vwCl (mw cI r (nI pl) (nI tr) i7 i8 (nI pl) i13 i15 i17 i18 i19 i22 i23 a1 a2 a4 a5 a6 a10 a11 a12 a14 a16 a20 a21 a24 a25 a26) H := hP
  have hD : va_D A (mw cI r (nI pl) (nI tr) i7 i8 (nI pl) i13 i15 i17 i18 i19 i22 i23 a1 a2 a4 a5 a6 a10 a11 a12 a14 a16 a20 a21 a24 a25 a26) := hD
  refine lv_aload_n hx hb dX6_rounds_8 rfl (lv_at hl 0 rfl) ?_
  refine lv_iconst (v := nI 0) hx hb dX6_rounds_9 (by decide) ?_
  refine va_put (D := D) (ci := 5) (v := .int (nI 0)) (ty := .int) (C := RX6) (T := TX6) (N := 27) hx hb hts hin6 tyX6 tyX6_ok nmX6 hown hK hP hD hS 0 rfl rfl 13 (by decide) fl80 (fun _ h9 => h9) rfl (by decide +kernel) rfl rfl (Nat.le_of_ble_eq_true rfl) dX6_rounds_10 (fun H locs hP hD hS => ?_)
  have hP : va_P D vwCl (mw cI r (nI pl) (nI tr) i7 i8 (nI pl) (nI 0) i15 i17 i18 i19 i22 i23 a1 a2 a4 a5 a6 a10 a11 a12 a14 a16 a20 a21 a24 a25 a26) H := hP
  have hD : va_D A (mw cI r (nI pl) (nI tr) i7 i8 (nI pl) (nI 0) i15 i17 i18 i19 i22 i23 a1 a2 a4 a5 a6 a10 a11 a12 a14 a16 a20 a21 a24 a25 a26) := hD
  refine lv_iconst (v := nI 0) hx hb dX6_rounds_13 (by decide) ?_
  refine lv_istore_n (lv' := [(1, .int (nI 0)), (0, .ref (r 0))]) hx hb dX6_rounds_14 rfl hl (by decide) rfl (fun ls hl => ?_)
  have lp15 : ∀ (n9 : Nat) (q : Nat), 5 - q < n9 → q ≤ 5 → ∀ (H : Heap) (locs : List Loc) (ls : Array Slot), va_P D vwCl (mw cI r (nI pl) (nI tr) i7 i8 (nI pl) (nI 0) i15 i17 i18 i19 i22 i23 a1 a2 a4 a5 a6 a10 a11 a12 a14 a16 a20 a21 a24 (cpN (tgM pl a2) a25 q) a26) H → va_D A (mw cI r (nI pl) (nI tr) i7 i8 (nI pl) (nI 0) i15 i17 i18 i19 i22 i23 a1 a2 a4 a5 a6 a10 a11 a12 a14 a16 a20 a21 a24 (cpN (tgM pl a2) a25 q) a26) → va_S A s.heap H locs → lv_has ls 4 [(0, .ref (r 0)), (1, .int (nI q))] → W p l e ({ frames := 4, cells := 0, slots := 0, locals := 97 } : Room) s m args below meth c H locs 0 0 Q (F0 m 15 ls []) := by
    intro n9
    induction n9 with
    | zero => intro q hm15; exact absurd hm15 (Nat.not_lt_zero _)
    | succ n9 ih15 =>
      intro q hm15 hq H locs ls hP hD hS hl
      refine lv_iload_n hx hb dX6_rounds_15 rfl (lv_at hl 1 rfl) ?_
      refine lv_iconst (v := nI 5) hx hb dX6_rounds_16 (by decide) ?_
      refine wk_icmp_ge (tgt := 50) hx hb (by omega) (by omega) dX6_rounds_17 (by decide) (fun c17 => ?_) (fun c17 => ?_)
      · skip
        have hq9 : q = 5 := by omega
        subst hq9
        refine lv_aload_n hx hb dX6_rounds_50 rfl (lv_at hl 0 rfl) ?_
        refine wk_VvW (As := []) (rest := []) (wr := []) ⟨hx, hb, hml, hown, hts⟩ (c_X6_takeIn l D cI cJ cZ cA r (nI pl) (nI tr) i7 i8 (nI pl) i15 i17 i18 i19 i22 i23 a1 a2 a4 a5 a6 a10 a11 a12 a14 a16 a20 a21 a24 (cpN (tgM pl a2) a25 5) a26 H.size ([]) (tgM pl a2) (fun k x hx => by simp at hx) (by simp) (fun q hq => cpN_lt hq)) (cwV 0 hts gX6_rounds_X6_takeIn rfl rfl rfl (by decide +kernel) ⟨Nat.le_of_ble_eq_true rfl, Nat.le_of_ble_eq_true rfl⟩) hK hP hD hA [0, 1, 2, 3, 4, 5, 6, 7, 8, 9, 10, 11, 12, 13, 14, 15] rfl (by decide) [] rfl (by decide) (by decide) 0 5 rfl rfl hS rfl hl.1 rfl (Nat.le_of_ble_eq_true rfl) dX6_rounds_51 ⟨Nat.le_of_ble_eq_true rfl, Nat.le_of_ble_eq_true rfl⟩ (fun v9 H locs hu hP hD hS => ?_)
        have hP : va_P D vwCl (mw cI r (nI pl) (nI tr) i7 i8 (nI pl) (nI ((tkIn ([]) (tgM pl a2)).length)) i15 i17 i18 i19 i22 i23 a1 a2 a4 a5 a6 a10 a11 v9 a14 a16 a20 a21 a24 (cpN (tgM pl a2) a25 5) a26) H := hP
        have hD : va_D A (mw cI r (nI pl) (nI tr) i7 i8 (nI pl) (nI ((tkIn ([]) (tgM pl a2)).length)) i15 i17 i18 i19 i22 i23 a1 a2 a4 a5 a6 a10 a11 v9 a14 a16 a20 a21 a24 (cpN (tgM pl a2) a25 5) a26) := hD
        refine lv_iconst (v := nI 0) hx hb dX6_rounds_54 (by decide) ?_
        refine lv_istore_n (lv' := [(1, .int (nI 0)), (0, .ref (r 0))]) hx hb dX6_rounds_55 rfl hl (by decide) rfl (fun ls hl => ?_)
        refine lv_iconst (v := nI 2) hx hb dX6_rounds_56 (by decide) ?_
        refine lv_istore_n (lv' := [(2, .int (nI 2)), (1, .int (nI 0)), (0, .ref (r 0))]) hx hb dX6_rounds_57 rfl hl (by decide) rfl (fun ls hl => ?_)
        have lp58 : ∀ (n9 : Nat) (i : Nat) (l8 : Int32) (l15 : Int32) (f10 : Nat → Int32) (f11 : Nat → Int32) (f12 : Nat → Int32) (f14 : Nat → Int32) (f25 : Nat → Int32), la - i < n9 → i ≤ la → rowsV f12 0 (Ls i) → (Ls i).length ≤ 1400 → (∀ j, j < i → f10 j = nI (Ls j).length) → (∀ j, j < i → rowsV f11 (1000 * j) (Ls j) ∧ (Ls j).length ≤ 200) → (0 < i → l15 = nI (Ls (i - 1)).length ∧ rowsV f14 0 (Ls (i - 1)) ∧ (Ls (i - 1)).length ≤ 200) → ∀ (H : Heap) (locs : List Loc) (ls : Array Slot), va_P D vwCl (mw cI r (nI pl) (nI tr) i7 l8 (nI pl) (nI ((Ls i).length)) l15 i17 i18 i19 i22 i23 a1 a2 a4 a5 a6 f10 f11 f12 f14 a16 a20 a21 a24 f25 a26) H → va_D A (mw cI r (nI pl) (nI tr) i7 l8 (nI pl) (nI ((Ls i).length)) l15 i17 i18 i19 i22 i23 a1 a2 a4 a5 a6 f10 f11 f12 f14 a16 a20 a21 a24 f25 a26) → va_S A s.heap H locs → lv_has ls 4 [(0, .ref (r 0)), (1, .int (nI i)), (2, .int (nI 2))] → W p l e ({ frames := 4, cells := 0, slots := 0, locals := 97 } : Room) s m args below meth c H locs 0 0 Q (F0 m 58 ls []) := by
          intro n9
          induction n9 with
          | zero => intro i l8 l15 f10 f11 f12 f14 f25 hm58; exact absurd hm58 (Nat.not_lt_zero _)
          | succ n9 ih58 =>
            intro i l8 l15 f10 f11 f12 f14 f25 hm58 hi hX hXl h10 h11 hB H locs ls hP hD hS hl
            refine lv_iload_n hx hb dX6_rounds_58 rfl (lv_at hl 2 rfl) ?_
            refine lv_iconst (v := nI 2) hx hb dX6_rounds_59 (by decide) ?_
            refine lv_icmp_ne (tgt := 227) hx hb dX6_rounds_60 (by decide) (fun c60 => absurd c60 (by decide)) (fun c60 => ?_)
            refine lv_aload_n hx hb dX6_rounds_63 rfl (lv_at hl 0 rfl) ?_
            refine va_get (D := D) (ci := 5) (v := .ref (r 10)) (C := RX6) (T := TX6) (N := 27) hx hb hts hin6 hown hK hP 0 rfl rfl 10 (by decide) fl29 (fun _ h9 => h9) rfl dX6_rounds_64 ?_
            refine lv_iload_n hx hb dX6_rounds_67 rfl (lv_at hl 1 rfl) ?_
            refine lv_aload_n hx hb dX6_rounds_68 rfl (lv_at hl 0 rfl) ?_
            refine va_get (D := D) (ci := 5) (v := .int (nI ((Ls i).length))) (C := RX6) (T := TX6) (N := 27) hx hb hts hin6 hown hK hP 0 rfl rfl 13 (by decide) fl80 (fun _ h9 => h9) rfl dX6_rounds_69 ?_
            refine wk_iast hx hb hK hP hD hS 6 0 rfl rfl (i := i) (by omega) (by omega) dX6_rounds_72 (fun H locs hP hD hS => ?_)
            have hP : va_P D vwCl (mw cI r (nI pl) (nI tr) i7 l8 (nI pl) (nI ((Ls i).length)) l15 i17 i18 i19 i22 i23 a1 a2 a4 a5 a6 (upd f10 i (nI ((Ls i).length))) f11 f12 f14 a16 a20 a21 a24 f25 a26) H := hP
            have hD : va_D A (mw cI r (nI pl) (nI tr) i7 l8 (nI pl) (nI ((Ls i).length)) l15 i17 i18 i19 i22 i23 a1 a2 a4 a5 a6 (upd f10 i (nI ((Ls i).length))) f11 f12 f14 a16 a20 a21 a24 f25 a26) := hD
            refine lv_iconst (v := nI 0) hx hb dX6_rounds_73 (by decide) ?_
            refine lv_istore_n (lv' := [(3, .int (nI 0)), (0, .ref (r 0)), (1, .int (nI i)), (2, .int (nI 2))]) hx hb dX6_rounds_74 rfl hl (by decide) rfl (fun ls hl => ?_)
            have lp75 : ∀ (n9 : Nat) (q : Nat), 1000 - q < n9 → q ≤ 1000 → ∀ (H : Heap) (locs : List Loc) (ls : Array Slot), va_P D vwCl (mw cI r (nI pl) (nI tr) i7 l8 (nI pl) (nI ((Ls i).length)) l15 i17 i18 i19 i22 i23 a1 a2 a4 a5 a6 (upd f10 i (nI (Ls i).length)) (wrN f11 (kpW f12 (Ls i).length) (1000 * i) q) f12 f14 a16 a20 a21 a24 f25 a26) H → va_D A (mw cI r (nI pl) (nI tr) i7 l8 (nI pl) (nI ((Ls i).length)) l15 i17 i18 i19 i22 i23 a1 a2 a4 a5 a6 (upd f10 i (nI (Ls i).length)) (wrN f11 (kpW f12 (Ls i).length) (1000 * i) q) f12 f14 a16 a20 a21 a24 f25 a26) → va_S A s.heap H locs → lv_has ls 4 [(0, .ref (r 0)), (1, .int (nI i)), (2, .int (nI 2)), (3, .int (nI q))] → W p l e ({ frames := 4, cells := 0, slots := 0, locals := 97 } : Room) s m args below meth c H locs 0 0 Q (F0 m 75 ls []) := by
              intro n9
              induction n9 with
              | zero => intro q hm75; exact absurd hm75 (Nat.not_lt_zero _)
              | succ n9 ih75 =>
                intro q hm75 hq H locs ls hP hD hS hl
                refine lv_iload_n hx hb dX6_rounds_75 rfl (lv_at hl 3 rfl) ?_
                refine lv_sipush (v := nI 1000) hx hb dX6_rounds_76 (by decide) ?_
                refine wk_icmp_ge (tgt := 120) hx hb (by omega) (by omega) dX6_rounds_79 (by decide) (fun c79 => ?_) (fun c79 => ?_)
                · skip
                  have hq9 : q = 1000 := by omega
                  subst hq9
                  have h10n : ∀ j, j ≤ i → (upd f10 i (nI (Ls i).length)) j = nI (Ls j).length := fun j hj => by
                    rcases Nat.lt_or_eq_of_le hj with h1 | rfl
                    · rw [pk_un (by omega)]; exact h10 j h1
                    · rw [pk_us]
                  refine lv_aload_n hx hb dX6_rounds_120 rfl (lv_at hl 0 rfl) ?_
                  refine lv_iload_n hx hb dX6_rounds_121 rfl (lv_at hl 1 rfl) ?_
                  refine va_put (D := D) (ci := 5) (v := .int (nI i)) (ty := .int) (C := RX6) (T := TX6) (N := 27) hx hb hts hin6 tyX6 tyX6_ok nmX6 hown hK hP hD hS 0 rfl rfl 8 (by decide) fl96 (fun _ h9 => h9) rfl (by decide +kernel) rfl rfl (Nat.le_of_ble_eq_true rfl) dX6_rounds_122 (fun H locs hP hD hS => ?_)
                  have hP : va_P D vwCl (mw cI r (nI pl) (nI tr) i7 (nI i) (nI pl) (nI ((Ls i).length)) l15 i17 i18 i19 i22 i23 a1 a2 a4 a5 a6 (upd f10 i (nI (Ls i).length)) (wrN f11 (kpW f12 (Ls i).length) (1000 * i) 1000) f12 f14 a16 a20 a21 a24 f25 a26) H := hP
                  have hD : va_D A (mw cI r (nI pl) (nI tr) i7 (nI i) (nI pl) (nI ((Ls i).length)) l15 i17 i18 i19 i22 i23 a1 a2 a4 a5 a6 (upd f10 i (nI (Ls i).length)) (wrN f11 (kpW f12 (Ls i).length) (1000 * i) 1000) f12 f14 a16 a20 a21 a24 f25 a26) := hD
                  refine lv_aload_n hx hb dX6_rounds_125 rfl (lv_at hl 0 rfl) ?_
                  refine wk_Vi (As := []) (rest := []) ⟨hx, hb, hml, hown, hts⟩ (c_X6_isFirstIn l D cI cJ cZ cA r (nI pl) (nI tr) i7 (nI i) (nI pl) l15 i17 i18 i19 i22 i23 a1 a2 a4 a5 a6 (upd f10 i (nI (Ls i).length)) (wrN f11 (kpW f12 (Ls i).length) (1000 * i) 1000) f12 f14 a16 a20 a21 a24 f25 a26 (Ls i) hX (by omega)) (cwV 0 hts gX6_rounds_X6_isFirstIn rfl rfl rfl (by decide +kernel) ⟨Nat.le_of_ble_eq_true rfl, Nat.le_of_ble_eq_true rfl⟩) hK hP [0, 1, 2, 3, 4, 5, 6, 7, 8, 9, 10, 11, 12, 13, 14, 15] rfl 0 5 rfl rfl hS rfl hl.1 rfl (Nat.le_of_ble_eq_true rfl) dX6_rounds_126 ⟨Nat.zero_le _, Nat.zero_le _⟩ (fun H locs hP hS => ?_)
                  refine wk_if_eqb (tgt := 137) hx hb dX6_rounds_129 (by decide) (fun c129 => ?_) (fun c129 => ?_)
                  · skip
                    refine lv_aload_n hx hb dX6_rounds_137 rfl (lv_at hl 0 rfl) ?_
                    refine va_get (D := D) (ci := 5) (v := .int (nI ((Ls i).length))) (C := RX6) (T := TX6) (N := 27) hx hb hts hin6 hown hK hP 0 rfl rfl 13 (by decide) fl80 (fun _ h9 => h9) rfl dX6_rounds_138 ?_
                    refine lv_sipush (v := nI 200) hx hb dX6_rounds_141 (by decide) ?_
                    refine wk_icmp_le (tgt := 152) hx hb (by omega) (by omega) dX6_rounds_144 (by decide) (fun c144 => ?_) (fun c144 => ?_)
                    · skip
                      refine lv_iload_n hx hb dX6_rounds_152 rfl (lv_at hl 1 rfl) ?_
                      refine wk_if_le (tgt := 168) hx hb (by omega) dX6_rounds_153 (by decide) (fun c153 => ?_) (fun c153 => ?_)
                      · skip
                        refine lv_iload_n hx hb dX6_rounds_168 rfl (lv_at hl 1 rfl) ?_
                        refine lv_bipush (v := nI 60) hx hb dX6_rounds_169 (by decide) ?_
                        refine wk_icmp_ne (tgt := 179) hx hb (by omega) (by omega) dX6_rounds_171 (by decide) (fun c171 => ?_) (fun c171 => ?_)
                        · skip
                          have he : endM Ls a1 i = nI 2 := endM_5 c129 c144 (Or.inl c153) c171
                          have hil : i + 1 ≤ la := by
                            rcases Nat.lt_or_eq_of_le hi with h | h
                            · exact h
                            · subst h
                              exact absurd he hend
                          refine lv_iconst (v := nI 0) hx hb dX6_rounds_179 (by decide) ?_
                          refine lv_istore_n (lv' := [(3, .int (nI 0)), (0, .ref (r 0)), (1, .int (nI i)), (2, .int (nI 2))]) hx hb dX6_rounds_180 rfl hl (by decide) rfl (fun ls hl => ?_)
                          have lp181 : ∀ (n9 : Nat) (q : Nat) (m15 : Int32), 5 * (Ls i).length - q < n9 → q ≤ 5 * (Ls i).length → ∀ (H : Heap) (locs : List Loc) (ls : Array Slot), va_P D vwCl (mw cI r (nI pl) (nI tr) i7 (nI i) (nI pl) (nI ((Ls i).length)) m15 i17 i18 i19 i22 i23 a1 a2 a4 a5 a6 (upd f10 i (nI (Ls i).length)) (wrN f11 (kpW f12 (Ls i).length) (1000 * i) 1000) f12 (cpN f12 f14 q) a16 a20 a21 a24 f25 a26) H → va_D A (mw cI r (nI pl) (nI tr) i7 (nI i) (nI pl) (nI ((Ls i).length)) m15 i17 i18 i19 i22 i23 a1 a2 a4 a5 a6 (upd f10 i (nI (Ls i).length)) (wrN f11 (kpW f12 (Ls i).length) (1000 * i) 1000) f12 (cpN f12 f14 q) a16 a20 a21 a24 f25 a26) → va_S A s.heap H locs → lv_has ls 4 [(0, .ref (r 0)), (1, .int (nI i)), (2, .int (nI 2)), (3, .int (nI q))] → W p l e ({ frames := 4, cells := 0, slots := 0, locals := 97 } : Room) s m args below meth c H locs 0 0 Q (F0 m 181 ls []) := by
                            intro n9
                            induction n9 with
                            | zero => intro q m15 hm181; exact absurd hm181 (Nat.not_lt_zero _)
                            | succ n9 ih181 =>
                              intro q m15 hm181 hq H locs ls hP hD hS hl
                              refine lv_iload_n hx hb dX6_rounds_181 rfl (lv_at hl 3 rfl) ?_
                              refine lv_iconst (v := nI 5) hx hb dX6_rounds_182 (by decide) ?_
                              refine lv_aload_n hx hb dX6_rounds_183 rfl (lv_at hl 0 rfl) ?_
                              refine va_get (D := D) (ci := 5) (v := .int (nI ((Ls i).length))) (C := RX6) (T := TX6) (N := 27) hx hb hts hin6 hown hK hP 0 rfl rfl 13 (by decide) fl80 (fun _ h9 => h9) rfl dX6_rounds_184 ?_
                              refine wk_imul hx hb dX6_rounds_187 ?_
                              refine wk_icmp_ge (tgt := 209) hx hb (by omega) (by omega) dX6_rounds_188 (by decide) (fun c188 => ?_) (fun c188 => ?_)
                              · skip
                                have hq9 : q = 5 * (Ls i).length := by omega
                                subst hq9
                                refine lv_aload_n hx hb dX6_rounds_209 rfl (lv_at hl 0 rfl) ?_
                                refine lv_aload_n hx hb dX6_rounds_210 rfl (lv_at hl 0 rfl) ?_
                                refine va_get (D := D) (ci := 5) (v := .int (nI ((Ls i).length))) (C := RX6) (T := TX6) (N := 27) hx hb hts hin6 hown hK hP 0 rfl rfl 13 (by decide) fl80 (fun _ h9 => h9) rfl dX6_rounds_211 ?_
                                refine va_put (D := D) (ci := 5) (v := .int (nI ((Ls i).length))) (ty := .int) (C := RX6) (T := TX6) (N := 27) hx hb hts hin6 tyX6 tyX6_ok nmX6 hown hK hP hD hS 0 rfl rfl 15 (by decide) fl87 (fun _ h9 => h9) rfl (by decide +kernel) rfl rfl (Nat.le_of_ble_eq_true rfl) dX6_rounds_214 (fun H locs hP hD hS => ?_)
                                have hP : va_P D vwCl (mw cI r (nI pl) (nI tr) i7 (nI i) (nI pl) (nI ((Ls i).length)) (nI ((Ls i).length)) i17 i18 i19 i22 i23 a1 a2 a4 a5 a6 (upd f10 i (nI (Ls i).length)) (wrN f11 (kpW f12 (Ls i).length) (1000 * i) 1000) f12 (cpN f12 f14 (5 * (Ls i).length)) a16 a20 a21 a24 f25 a26) H := hP
                                have hD : va_D A (mw cI r (nI pl) (nI tr) i7 (nI i) (nI pl) (nI ((Ls i).length)) (nI ((Ls i).length)) i17 i18 i19 i22 i23 a1 a2 a4 a5 a6 (upd f10 i (nI (Ls i).length)) (wrN f11 (kpW f12 (Ls i).length) (1000 * i) 1000) f12 (cpN f12 f14 (5 * (Ls i).length)) a16 a20 a21 a24 f25 a26) := hD
                                refine lv_aload_n hx hb dX6_rounds_217 rfl (lv_at hl 0 rfl) ?_
                                refine wk_VvW (As := []) (rest := []) (wr := []) ⟨hx, hb, hml, hown, hts⟩ (c_X6_step l D cI cJ cZ cA r (nI pl) i7 (nI i) (nI pl) i17 i18 i19 i22 i23 a1 a2 a4 a5 a6 (upd f10 i (nI (Ls i).length)) (wrN f11 (kpW f12 (Ls i).length) (1000 * i) 1000) f12 (cpN f12 f14 (5 * (Ls i).length)) a16 a20 a21 a24 f25 a26 H.size tr (Ls i) (Ls i) htr (cp_rows hX) (by omega) hX (by omega)) (cwV 0 hts gX6_rounds_X6_step rfl rfl rfl (by decide +kernel) ⟨Nat.le_of_ble_eq_true rfl, Nat.le_of_ble_eq_true rfl⟩) hK hP hD hA [0, 1, 2, 3, 4, 5, 6, 7, 8, 9, 10, 11, 12, 13, 14, 15] rfl (by decide) [] rfl (by decide) (by decide) 0 5 rfl rfl hS rfl hl.1 rfl (Nat.le_of_ble_eq_true rfl) dX6_rounds_218 ⟨Nat.le_of_ble_eq_true rfl, Nat.le_of_ble_eq_true rfl⟩ (fun u9 H locs hu hP hD hS => ?_)
                                have hP : va_P D vwCl (mw cI r (nI pl) (nI tr) i7 (nI i) (nI pl) (nI ((stepK tr a4 a5 (Ls i) (Ls i)).length)) (nI ((Ls i).length)) i17 i18 i19 i22 i23 a1 a2 a4 a5 a6 (upd f10 i (nI (Ls i).length)) (wrN f11 (kpW f12 (Ls i).length) (1000 * i) 1000) u9.1 (cpN f12 f14 (5 * (Ls i).length)) a16 a20 a21 a24 u9.2 a26) H := hP
                                have hD : va_D A (mw cI r (nI pl) (nI tr) i7 (nI i) (nI pl) (nI ((stepK tr a4 a5 (Ls i) (Ls i)).length)) (nI ((Ls i).length)) i17 i18 i19 i22 i23 a1 a2 a4 a5 a6 (upd f10 i (nI (Ls i).length)) (wrN f11 (kpW f12 (Ls i).length) (1000 * i) 1000) u9.1 (cpN f12 f14 (5 * (Ls i).length)) a16 a20 a21 a24 u9.2 a26) := hD
                                refine lv_iinc (v := (nI (i + 1))) (lv' := [(1, .int (nI (i + 1))), (0, .ref (r 0)), (2, .int (nI 2)), (3, .int (nI (5 * (Ls i).length)))]) hx hb dX6_rounds_221 hl (k := 1) rfl (by exact nI_1 _) (by decide) rfl (fun ls hl => ?_)
                                refine lv_goto (tgt := 58) hx hb dX6_rounds_224 (by decide) ?_
                                have hP : va_P D vwCl (mw cI r (nI pl) (nI tr) i7 (nI i) (nI pl) (nI ((Ls (i + 1)).length)) (nI (Ls i).length) i17 i18 i19 i22 i23 a1 a2 a4 a5 a6 (upd f10 i (nI (Ls i).length)) (wrN f11 (kpW f12 (Ls i).length) (1000 * i) 1000) u9.1 (cpN f12 f14 (5 * (Ls i).length)) a16 a20 a21 a24 u9.2 a26) H := by rw [hLs]; exact hP
                                have hD : va_D A (mw cI r (nI pl) (nI tr) i7 (nI i) (nI pl) (nI ((Ls (i + 1)).length)) (nI (Ls i).length) i17 i18 i19 i22 i23 a1 a2 a4 a5 a6 (upd f10 i (nI (Ls i).length)) (wrN f11 (kpW f12 (Ls i).length) (1000 * i) 1000) u9.1 (cpN f12 f14 (5 * (Ls i).length)) a16 a20 a21 a24 u9.2 a26) := by rw [hLs]; exact hD
                                exact ih58 (i + 1) (nI i) (nI (Ls i).length) (upd f10 i (nI (Ls i).length)) (wrN f11 (kpW f12 (Ls i).length) (1000 * i) 1000) u9.1 (cpN f12 f14 (5 * (Ls i).length)) u9.2 (by omega) hil (by rw [hLs]; exact hu) (by rw [hLs]; have := stepK_len tr a4 a5 htr (Ls i) (Ls i); omega) (fun j hj => by rcases Nat.lt_or_eq_of_le (Nat.le_of_lt_succ hj) with h1 | rfl; rw [pk_un (by omega)]; exact h10 j h1; rw [pk_us]) (fun j hj => by rcases Nat.lt_or_eq_of_le (Nat.le_of_lt_succ hj) with h1 | rfl; exact ⟨kp_old (h11 j h1).1 (h11 j h1).2 h1, (h11 j h1).2⟩; exact ⟨kp_new hX (by omega), by omega⟩) (fun _ => ⟨rfl, cp_rows hX, by rw [Nat.add_sub_cancel]; omega⟩) _ _ _ hP hD hS (lv_sub hl [1, 0, 2] rfl)
                              · skip
                                refine lv_aload_n hx hb dX6_rounds_191 rfl (lv_at hl 0 rfl) ?_
                                refine va_get (D := D) (ci := 5) (v := .ref (r 14)) (C := RX6) (T := TX6) (N := 27) hx hb hts hin6 hown hK hP 0 rfl rfl 14 (by decide) fl39 (fun _ h9 => h9) rfl dX6_rounds_192 ?_
                                refine lv_iload_n hx hb dX6_rounds_195 rfl (lv_at hl 3 rfl) ?_
                                refine lv_aload_n hx hb dX6_rounds_196 rfl (lv_at hl 0 rfl) ?_
                                refine va_get (D := D) (ci := 5) (v := .ref (r 12)) (C := RX6) (T := TX6) (N := 27) hx hb hts hin6 hown hK hP 0 rfl rfl 12 (by decide) fl36 (fun _ h9 => h9) rfl dX6_rounds_197 ?_
                                refine lv_iload_n hx hb dX6_rounds_200 rfl (lv_at hl 3 rfl) ?_
                                refine wk_iald hx hb hK hP 8 0 rfl rfl (i := q) (by omega) (by omega) dX6_rounds_201 ?_
                                refine wk_iast hx hb hK hP hD hS 9 0 rfl rfl (i := q) (by omega) (by omega) dX6_rounds_202 (fun H locs hP hD hS => ?_)
                                have hP : va_P D vwCl (mw cI r (nI pl) (nI tr) i7 (nI i) (nI pl) (nI ((Ls i).length)) m15 i17 i18 i19 i22 i23 a1 a2 a4 a5 a6 (upd f10 i (nI (Ls i).length)) (wrN f11 (kpW f12 (Ls i).length) (1000 * i) 1000) f12 (upd (cpN f12 f14 q) q (f12 q)) a16 a20 a21 a24 f25 a26) H := hP
                                have hD : va_D A (mw cI r (nI pl) (nI tr) i7 (nI i) (nI pl) (nI ((Ls i).length)) m15 i17 i18 i19 i22 i23 a1 a2 a4 a5 a6 (upd f10 i (nI (Ls i).length)) (wrN f11 (kpW f12 (Ls i).length) (1000 * i) 1000) f12 (upd (cpN f12 f14 q) q (f12 q)) a16 a20 a21 a24 f25 a26) := hD
                                refine lv_iinc (v := (nI (q + 1))) (lv' := [(3, .int (nI (q + 1))), (0, .ref (r 0)), (1, .int (nI i)), (2, .int (nI 2))]) hx hb dX6_rounds_203 hl (k := 3) rfl (by exact nI_1 _) (by decide) rfl (fun ls hl => ?_)
                                refine lv_goto (tgt := 181) hx hb dX6_rounds_206 (by decide) ?_
                                have hP : va_P D vwCl (mw cI r (nI pl) (nI tr) i7 (nI i) (nI pl) (nI ((Ls i).length)) m15 i17 i18 i19 i22 i23 a1 a2 a4 a5 a6 (upd f10 i (nI (Ls i).length)) (wrN f11 (kpW f12 (Ls i).length) (1000 * i) 1000) f12 (cpN f12 f14 (q + 1)) a16 a20 a21 a24 f25 a26) H := by rw [← cpN_s]; exact hP
                                have hD : va_D A (mw cI r (nI pl) (nI tr) i7 (nI i) (nI pl) (nI ((Ls i).length)) m15 i17 i18 i19 i22 i23 a1 a2 a4 a5 a6 (upd f10 i (nI (Ls i).length)) (wrN f11 (kpW f12 (Ls i).length) (1000 * i) 1000) f12 (cpN f12 f14 (q + 1)) a16 a20 a21 a24 f25 a26) := by rw [← cpN_s]; exact hD
                                exact ih181 (q + 1) m15 (by omega) (by omega) _ _ _ hP hD hS (lv_sub hl [1, 2, 3, 0] rfl)
                          have hP : va_P D vwCl (mw cI r (nI pl) (nI tr) i7 (nI i) (nI pl) (nI ((Ls i).length)) l15 i17 i18 i19 i22 i23 a1 a2 a4 a5 a6 (upd f10 i (nI (Ls i).length)) (wrN f11 (kpW f12 (Ls i).length) (1000 * i) 1000) f12 (cpN f12 f14 0) a16 a20 a21 a24 f25 a26) H := by rw [cpN_0]; exact hP
                          have hD : va_D A (mw cI r (nI pl) (nI tr) i7 (nI i) (nI pl) (nI ((Ls i).length)) l15 i17 i18 i19 i22 i23 a1 a2 a4 a5 a6 (upd f10 i (nI (Ls i).length)) (wrN f11 (kpW f12 (Ls i).length) (1000 * i) 1000) f12 (cpN f12 f14 0) a16 a20 a21 a24 f25 a26) := by rw [cpN_0]; exact hD
                          exact lp181 _ 0 l15 (Nat.lt_succ_self _) (by omega) _ _ _ hP hD hS (lv_sub hl [1, 2, 3, 0] rfl)
                        · skip
                          have he : endM Ls a1 i = (-1) := endM_4 c129 c144 (Or.inl c153) c171
                          have hila : i = la := by
                            rcases Nat.lt_or_eq_of_le hi with h | h
                            · have h9 := hgo i h
                              rw [he] at h9
                              exact absurd h9 (by decide)
                            · exact h
                          subst hila
                          refine lv_iconst (v := -1) hx hb dX6_rounds_174 (by decide) ?_
                          refine lv_istore_n (lv' := [(2, .int (-1)), (0, .ref (r 0)), (1, .int (nI i)), (3, .int (nI 1000))]) hx hb dX6_rounds_175 rfl hl (by decide) rfl (fun ls hl => ?_)
                          refine lv_goto (tgt := 58) hx hb dX6_rounds_176 (by decide) ?_
                          refine lv_iload_n hx hb dX6_rounds_58 rfl (lv_at hl 0 rfl) ?_
                          refine lv_iconst (v := nI 2) hx hb dX6_rounds_59 (by decide) ?_
                          refine lv_icmp_ne (tgt := 227) hx hb dX6_rounds_60 (by decide) (fun c60 => ?_) (fun c60 => absurd c60 (by decide))
                          refine lv_aload_n hx hb dX6_rounds_227 rfl (lv_at hl 1 rfl) ?_
                          refine lv_iload_n hx hb dX6_rounds_228 rfl (lv_at hl 0 rfl) ?_
                          refine va_put (D := D) (ci := 5) (v := .int (-1)) (ty := .int) (C := RX6) (T := TX6) (N := 27) hx hb hts hin6 tyX6 tyX6_ok nmX6 hown hK hP hD hS 0 rfl rfl 7 (by decide) fl25 (fun _ h9 => h9) rfl (by decide +kernel) rfl rfl (Nat.le_of_ble_eq_true rfl) dX6_rounds_229 (fun H locs hP hD hS => ?_)
                          have hP : va_P D vwCl (mw cI r (nI pl) (nI tr) (-1) (nI i) (nI pl) (nI ((Ls i).length)) l15 i17 i18 i19 i22 i23 a1 a2 a4 a5 a6 (upd f10 i (nI (Ls i).length)) (wrN f11 (kpW f12 (Ls i).length) (1000 * i) 1000) f12 f14 a16 a20 a21 a24 f25 a26) H := hP
                          have hD : va_D A (mw cI r (nI pl) (nI tr) (-1) (nI i) (nI pl) (nI ((Ls i).length)) l15 i17 i18 i19 i22 i23 a1 a2 a4 a5 a6 (upd f10 i (nI (Ls i).length)) (wrN f11 (kpW f12 (Ls i).length) (1000 * i) 1000) f12 f14 a16 a20 a21 a24 f25 a26) := hD
                          refine lv_aload_n hx hb dX6_rounds_232 rfl (lv_at hl 1 rfl) ?_
                          refine va_get (D := D) (ci := 5) (v := .int (-1)) (C := RX6) (T := TX6) (N := 27) hx hb hts hin6 hown hK hP 0 rfl rfl 7 (by decide) fl25 (fun _ h9 => h9) rfl dX6_rounds_233 ?_
                          refine lv_iconst (v := nI 1) hx hb dX6_rounds_236 (by decide) ?_
                          refine lv_icmp_ne (tgt := 244) hx hb dX6_rounds_237 (by decide) (fun c237 => ?_) (fun c237 => absurd c237 (by decide))
                          refine lv_aload_n hx hb dX6_rounds_244 rfl (lv_at hl 1 rfl) ?_
                          refine va_get (D := D) (ci := 5) (v := .int (-1)) (C := RX6) (T := TX6) (N := 27) hx hb hts hin6 hown hK hP 0 rfl rfl 7 (by decide) fl25 (fun _ h9 => h9) rfl dX6_rounds_245 ?_
                          exact hret _ ((nI ((Ls i).length)), l15, (upd f10 i (nI (Ls i).length)), (wrN f11 (kpW f12 (Ls i).length) (1000 * i) 1000), f12, f14, a16, f25, a26) _ _ _ _ _ _ rfl ⟨he.symm, h10n, (fun h => absurd h (by rw [he]; decide))⟩ (by rw [he]; exact hP) (by rw [he]; exact hD) dX6_rounds_248 hS (Nat.zero_le _) (Nat.zero_le _)
                      · skip
                        obtain ⟨rfl, hB1, hB2⟩ := hB c153
                        refine lv_aload_n hx hb dX6_rounds_156 rfl (lv_at hl 0 rfl) ?_
                        refine wk_Vi (As := []) (rest := []) ⟨hx, hb, hml, hown, hts⟩ (c_X6_isSame l D cI cJ cZ cA r (nI pl) (nI tr) i7 (nI i) (nI pl) i17 i18 i19 i22 i23 a1 a2 a4 a5 a6 (upd f10 i (nI (Ls i).length)) (wrN f11 (kpW f12 (Ls i).length) (1000 * i) 1000) f12 f14 a16 a20 a21 a24 f25 a26 (Ls i) (Ls (i - 1)) hX hB1 (by omega) hB2) (cwV 0 hts gX6_rounds_X6_isSame rfl rfl rfl (by decide +kernel) ⟨Nat.le_of_ble_eq_true rfl, Nat.le_of_ble_eq_true rfl⟩) hK hP [0, 1, 2, 3, 4, 5, 6, 7, 8, 9, 10, 11, 12, 13, 14, 15] rfl 0 5 rfl rfl hS rfl hl.1 rfl (Nat.le_of_ble_eq_true rfl) dX6_rounds_157 ⟨Nat.zero_le _, Nat.zero_le _⟩ (fun H locs hP hS => ?_)
                        refine wk_if_eqb (tgt := 168) hx hb dX6_rounds_160 (by decide) (fun c160 => ?_) (fun c160 => ?_)
                        · skip
                          refine lv_iload_n hx hb dX6_rounds_168 rfl (lv_at hl 1 rfl) ?_
                          refine lv_bipush (v := nI 60) hx hb dX6_rounds_169 (by decide) ?_
                          refine wk_icmp_ne (tgt := 179) hx hb (by omega) (by omega) dX6_rounds_171 (by decide) (fun c171 => ?_) (fun c171 => ?_)
                          · skip
                            have he : endM Ls a1 i = nI 2 := endM_5 c129 c144 (Or.inr c160) c171
                            have hil : i + 1 ≤ la := by
                              rcases Nat.lt_or_eq_of_le hi with h | h
                              · exact h
                              · subst h
                                exact absurd he hend
                            refine lv_iconst (v := nI 0) hx hb dX6_rounds_179 (by decide) ?_
                            refine lv_istore_n (lv' := [(3, .int (nI 0)), (0, .ref (r 0)), (1, .int (nI i)), (2, .int (nI 2))]) hx hb dX6_rounds_180 rfl hl (by decide) rfl (fun ls hl => ?_)
                            have lp181 : ∀ (n9 : Nat) (q : Nat) (m15 : Int32), 5 * (Ls i).length - q < n9 → q ≤ 5 * (Ls i).length → ∀ (H : Heap) (locs : List Loc) (ls : Array Slot), va_P D vwCl (mw cI r (nI pl) (nI tr) i7 (nI i) (nI pl) (nI ((Ls i).length)) m15 i17 i18 i19 i22 i23 a1 a2 a4 a5 a6 (upd f10 i (nI (Ls i).length)) (wrN f11 (kpW f12 (Ls i).length) (1000 * i) 1000) f12 (cpN f12 f14 q) a16 a20 a21 a24 f25 a26) H → va_D A (mw cI r (nI pl) (nI tr) i7 (nI i) (nI pl) (nI ((Ls i).length)) m15 i17 i18 i19 i22 i23 a1 a2 a4 a5 a6 (upd f10 i (nI (Ls i).length)) (wrN f11 (kpW f12 (Ls i).length) (1000 * i) 1000) f12 (cpN f12 f14 q) a16 a20 a21 a24 f25 a26) → va_S A s.heap H locs → lv_has ls 4 [(0, .ref (r 0)), (1, .int (nI i)), (2, .int (nI 2)), (3, .int (nI q))] → W p l e ({ frames := 4, cells := 0, slots := 0, locals := 97 } : Room) s m args below meth c H locs 0 0 Q (F0 m 181 ls []) := by
                              intro n9
                              induction n9 with
                              | zero => intro q m15 hm181; exact absurd hm181 (Nat.not_lt_zero _)
                              | succ n9 ih181 =>
                                intro q m15 hm181 hq H locs ls hP hD hS hl
                                refine lv_iload_n hx hb dX6_rounds_181 rfl (lv_at hl 3 rfl) ?_
                                refine lv_iconst (v := nI 5) hx hb dX6_rounds_182 (by decide) ?_
                                refine lv_aload_n hx hb dX6_rounds_183 rfl (lv_at hl 0 rfl) ?_
                                refine va_get (D := D) (ci := 5) (v := .int (nI ((Ls i).length))) (C := RX6) (T := TX6) (N := 27) hx hb hts hin6 hown hK hP 0 rfl rfl 13 (by decide) fl80 (fun _ h9 => h9) rfl dX6_rounds_184 ?_
                                refine wk_imul hx hb dX6_rounds_187 ?_
                                refine wk_icmp_ge (tgt := 209) hx hb (by omega) (by omega) dX6_rounds_188 (by decide) (fun c188 => ?_) (fun c188 => ?_)
                                · skip
                                  have hq9 : q = 5 * (Ls i).length := by omega
                                  subst hq9
                                  refine lv_aload_n hx hb dX6_rounds_209 rfl (lv_at hl 0 rfl) ?_
                                  refine lv_aload_n hx hb dX6_rounds_210 rfl (lv_at hl 0 rfl) ?_
                                  refine va_get (D := D) (ci := 5) (v := .int (nI ((Ls i).length))) (C := RX6) (T := TX6) (N := 27) hx hb hts hin6 hown hK hP 0 rfl rfl 13 (by decide) fl80 (fun _ h9 => h9) rfl dX6_rounds_211 ?_
                                  refine va_put (D := D) (ci := 5) (v := .int (nI ((Ls i).length))) (ty := .int) (C := RX6) (T := TX6) (N := 27) hx hb hts hin6 tyX6 tyX6_ok nmX6 hown hK hP hD hS 0 rfl rfl 15 (by decide) fl87 (fun _ h9 => h9) rfl (by decide +kernel) rfl rfl (Nat.le_of_ble_eq_true rfl) dX6_rounds_214 (fun H locs hP hD hS => ?_)
                                  have hP : va_P D vwCl (mw cI r (nI pl) (nI tr) i7 (nI i) (nI pl) (nI ((Ls i).length)) (nI ((Ls i).length)) i17 i18 i19 i22 i23 a1 a2 a4 a5 a6 (upd f10 i (nI (Ls i).length)) (wrN f11 (kpW f12 (Ls i).length) (1000 * i) 1000) f12 (cpN f12 f14 (5 * (Ls i).length)) a16 a20 a21 a24 f25 a26) H := hP
                                  have hD : va_D A (mw cI r (nI pl) (nI tr) i7 (nI i) (nI pl) (nI ((Ls i).length)) (nI ((Ls i).length)) i17 i18 i19 i22 i23 a1 a2 a4 a5 a6 (upd f10 i (nI (Ls i).length)) (wrN f11 (kpW f12 (Ls i).length) (1000 * i) 1000) f12 (cpN f12 f14 (5 * (Ls i).length)) a16 a20 a21 a24 f25 a26) := hD
                                  refine lv_aload_n hx hb dX6_rounds_217 rfl (lv_at hl 0 rfl) ?_
                                  refine wk_VvW (As := []) (rest := []) (wr := []) ⟨hx, hb, hml, hown, hts⟩ (c_X6_step l D cI cJ cZ cA r (nI pl) i7 (nI i) (nI pl) i17 i18 i19 i22 i23 a1 a2 a4 a5 a6 (upd f10 i (nI (Ls i).length)) (wrN f11 (kpW f12 (Ls i).length) (1000 * i) 1000) f12 (cpN f12 f14 (5 * (Ls i).length)) a16 a20 a21 a24 f25 a26 H.size tr (Ls i) (Ls i) htr (cp_rows hX) (by omega) hX (by omega)) (cwV 0 hts gX6_rounds_X6_step rfl rfl rfl (by decide +kernel) ⟨Nat.le_of_ble_eq_true rfl, Nat.le_of_ble_eq_true rfl⟩) hK hP hD hA [0, 1, 2, 3, 4, 5, 6, 7, 8, 9, 10, 11, 12, 13, 14, 15] rfl (by decide) [] rfl (by decide) (by decide) 0 5 rfl rfl hS rfl hl.1 rfl (Nat.le_of_ble_eq_true rfl) dX6_rounds_218 ⟨Nat.le_of_ble_eq_true rfl, Nat.le_of_ble_eq_true rfl⟩ (fun u9 H locs hu hP hD hS => ?_)
                                  have hP : va_P D vwCl (mw cI r (nI pl) (nI tr) i7 (nI i) (nI pl) (nI ((stepK tr a4 a5 (Ls i) (Ls i)).length)) (nI ((Ls i).length)) i17 i18 i19 i22 i23 a1 a2 a4 a5 a6 (upd f10 i (nI (Ls i).length)) (wrN f11 (kpW f12 (Ls i).length) (1000 * i) 1000) u9.1 (cpN f12 f14 (5 * (Ls i).length)) a16 a20 a21 a24 u9.2 a26) H := hP
                                  have hD : va_D A (mw cI r (nI pl) (nI tr) i7 (nI i) (nI pl) (nI ((stepK tr a4 a5 (Ls i) (Ls i)).length)) (nI ((Ls i).length)) i17 i18 i19 i22 i23 a1 a2 a4 a5 a6 (upd f10 i (nI (Ls i).length)) (wrN f11 (kpW f12 (Ls i).length) (1000 * i) 1000) u9.1 (cpN f12 f14 (5 * (Ls i).length)) a16 a20 a21 a24 u9.2 a26) := hD
                                  refine lv_iinc (v := (nI (i + 1))) (lv' := [(1, .int (nI (i + 1))), (0, .ref (r 0)), (2, .int (nI 2)), (3, .int (nI (5 * (Ls i).length)))]) hx hb dX6_rounds_221 hl (k := 1) rfl (by exact nI_1 _) (by decide) rfl (fun ls hl => ?_)
                                  refine lv_goto (tgt := 58) hx hb dX6_rounds_224 (by decide) ?_
                                  have hP : va_P D vwCl (mw cI r (nI pl) (nI tr) i7 (nI i) (nI pl) (nI ((Ls (i + 1)).length)) (nI (Ls i).length) i17 i18 i19 i22 i23 a1 a2 a4 a5 a6 (upd f10 i (nI (Ls i).length)) (wrN f11 (kpW f12 (Ls i).length) (1000 * i) 1000) u9.1 (cpN f12 f14 (5 * (Ls i).length)) a16 a20 a21 a24 u9.2 a26) H := by rw [hLs]; exact hP
                                  have hD : va_D A (mw cI r (nI pl) (nI tr) i7 (nI i) (nI pl) (nI ((Ls (i + 1)).length)) (nI (Ls i).length) i17 i18 i19 i22 i23 a1 a2 a4 a5 a6 (upd f10 i (nI (Ls i).length)) (wrN f11 (kpW f12 (Ls i).length) (1000 * i) 1000) u9.1 (cpN f12 f14 (5 * (Ls i).length)) a16 a20 a21 a24 u9.2 a26) := by rw [hLs]; exact hD
                                  exact ih58 (i + 1) (nI i) (nI (Ls i).length) (upd f10 i (nI (Ls i).length)) (wrN f11 (kpW f12 (Ls i).length) (1000 * i) 1000) u9.1 (cpN f12 f14 (5 * (Ls i).length)) u9.2 (by omega) hil (by rw [hLs]; exact hu) (by rw [hLs]; have := stepK_len tr a4 a5 htr (Ls i) (Ls i); omega) (fun j hj => by rcases Nat.lt_or_eq_of_le (Nat.le_of_lt_succ hj) with h1 | rfl; rw [pk_un (by omega)]; exact h10 j h1; rw [pk_us]) (fun j hj => by rcases Nat.lt_or_eq_of_le (Nat.le_of_lt_succ hj) with h1 | rfl; exact ⟨kp_old (h11 j h1).1 (h11 j h1).2 h1, (h11 j h1).2⟩; exact ⟨kp_new hX (by omega), by omega⟩) (fun _ => ⟨rfl, cp_rows hX, by rw [Nat.add_sub_cancel]; omega⟩) _ _ _ hP hD hS (lv_sub hl [1, 0, 2] rfl)
                                · skip
                                  refine lv_aload_n hx hb dX6_rounds_191 rfl (lv_at hl 0 rfl) ?_
                                  refine va_get (D := D) (ci := 5) (v := .ref (r 14)) (C := RX6) (T := TX6) (N := 27) hx hb hts hin6 hown hK hP 0 rfl rfl 14 (by decide) fl39 (fun _ h9 => h9) rfl dX6_rounds_192 ?_
                                  refine lv_iload_n hx hb dX6_rounds_195 rfl (lv_at hl 3 rfl) ?_
                                  refine lv_aload_n hx hb dX6_rounds_196 rfl (lv_at hl 0 rfl) ?_
                                  refine va_get (D := D) (ci := 5) (v := .ref (r 12)) (C := RX6) (T := TX6) (N := 27) hx hb hts hin6 hown hK hP 0 rfl rfl 12 (by decide) fl36 (fun _ h9 => h9) rfl dX6_rounds_197 ?_
                                  refine lv_iload_n hx hb dX6_rounds_200 rfl (lv_at hl 3 rfl) ?_
                                  refine wk_iald hx hb hK hP 8 0 rfl rfl (i := q) (by omega) (by omega) dX6_rounds_201 ?_
                                  refine wk_iast hx hb hK hP hD hS 9 0 rfl rfl (i := q) (by omega) (by omega) dX6_rounds_202 (fun H locs hP hD hS => ?_)
                                  have hP : va_P D vwCl (mw cI r (nI pl) (nI tr) i7 (nI i) (nI pl) (nI ((Ls i).length)) m15 i17 i18 i19 i22 i23 a1 a2 a4 a5 a6 (upd f10 i (nI (Ls i).length)) (wrN f11 (kpW f12 (Ls i).length) (1000 * i) 1000) f12 (upd (cpN f12 f14 q) q (f12 q)) a16 a20 a21 a24 f25 a26) H := hP
                                  have hD : va_D A (mw cI r (nI pl) (nI tr) i7 (nI i) (nI pl) (nI ((Ls i).length)) m15 i17 i18 i19 i22 i23 a1 a2 a4 a5 a6 (upd f10 i (nI (Ls i).length)) (wrN f11 (kpW f12 (Ls i).length) (1000 * i) 1000) f12 (upd (cpN f12 f14 q) q (f12 q)) a16 a20 a21 a24 f25 a26) := hD
                                  refine lv_iinc (v := (nI (q + 1))) (lv' := [(3, .int (nI (q + 1))), (0, .ref (r 0)), (1, .int (nI i)), (2, .int (nI 2))]) hx hb dX6_rounds_203 hl (k := 3) rfl (by exact nI_1 _) (by decide) rfl (fun ls hl => ?_)
                                  refine lv_goto (tgt := 181) hx hb dX6_rounds_206 (by decide) ?_
                                  have hP : va_P D vwCl (mw cI r (nI pl) (nI tr) i7 (nI i) (nI pl) (nI ((Ls i).length)) m15 i17 i18 i19 i22 i23 a1 a2 a4 a5 a6 (upd f10 i (nI (Ls i).length)) (wrN f11 (kpW f12 (Ls i).length) (1000 * i) 1000) f12 (cpN f12 f14 (q + 1)) a16 a20 a21 a24 f25 a26) H := by rw [← cpN_s]; exact hP
                                  have hD : va_D A (mw cI r (nI pl) (nI tr) i7 (nI i) (nI pl) (nI ((Ls i).length)) m15 i17 i18 i19 i22 i23 a1 a2 a4 a5 a6 (upd f10 i (nI (Ls i).length)) (wrN f11 (kpW f12 (Ls i).length) (1000 * i) 1000) f12 (cpN f12 f14 (q + 1)) a16 a20 a21 a24 f25 a26) := by rw [← cpN_s]; exact hD
                                  exact ih181 (q + 1) m15 (by omega) (by omega) _ _ _ hP hD hS (lv_sub hl [1, 2, 3, 0] rfl)
                            have hP : va_P D vwCl (mw cI r (nI pl) (nI tr) i7 (nI i) (nI pl) (nI ((Ls i).length)) (nI ((Ls (i - 1)).length)) i17 i18 i19 i22 i23 a1 a2 a4 a5 a6 (upd f10 i (nI (Ls i).length)) (wrN f11 (kpW f12 (Ls i).length) (1000 * i) 1000) f12 (cpN f12 f14 0) a16 a20 a21 a24 f25 a26) H := by rw [cpN_0]; exact hP
                            have hD : va_D A (mw cI r (nI pl) (nI tr) i7 (nI i) (nI pl) (nI ((Ls i).length)) (nI ((Ls (i - 1)).length)) i17 i18 i19 i22 i23 a1 a2 a4 a5 a6 (upd f10 i (nI (Ls i).length)) (wrN f11 (kpW f12 (Ls i).length) (1000 * i) 1000) f12 (cpN f12 f14 0) a16 a20 a21 a24 f25 a26) := by rw [cpN_0]; exact hD
                            exact lp181 _ 0 (nI ((Ls (i - 1)).length)) (Nat.lt_succ_self _) (by omega) _ _ _ hP hD hS (lv_sub hl [1, 2, 3, 0] rfl)
                          · skip
                            have he : endM Ls a1 i = (-1) := endM_4 c129 c144 (Or.inr c160) c171
                            have hila : i = la := by
                              rcases Nat.lt_or_eq_of_le hi with h | h
                              · have h9 := hgo i h
                                rw [he] at h9
                                exact absurd h9 (by decide)
                              · exact h
                            subst hila
                            refine lv_iconst (v := -1) hx hb dX6_rounds_174 (by decide) ?_
                            refine lv_istore_n (lv' := [(2, .int (-1)), (0, .ref (r 0)), (1, .int (nI i)), (3, .int (nI 1000))]) hx hb dX6_rounds_175 rfl hl (by decide) rfl (fun ls hl => ?_)
                            refine lv_goto (tgt := 58) hx hb dX6_rounds_176 (by decide) ?_
                            refine lv_iload_n hx hb dX6_rounds_58 rfl (lv_at hl 0 rfl) ?_
                            refine lv_iconst (v := nI 2) hx hb dX6_rounds_59 (by decide) ?_
                            refine lv_icmp_ne (tgt := 227) hx hb dX6_rounds_60 (by decide) (fun c60 => ?_) (fun c60 => absurd c60 (by decide))
                            refine lv_aload_n hx hb dX6_rounds_227 rfl (lv_at hl 1 rfl) ?_
                            refine lv_iload_n hx hb dX6_rounds_228 rfl (lv_at hl 0 rfl) ?_
                            refine va_put (D := D) (ci := 5) (v := .int (-1)) (ty := .int) (C := RX6) (T := TX6) (N := 27) hx hb hts hin6 tyX6 tyX6_ok nmX6 hown hK hP hD hS 0 rfl rfl 7 (by decide) fl25 (fun _ h9 => h9) rfl (by decide +kernel) rfl rfl (Nat.le_of_ble_eq_true rfl) dX6_rounds_229 (fun H locs hP hD hS => ?_)
                            have hP : va_P D vwCl (mw cI r (nI pl) (nI tr) (-1) (nI i) (nI pl) (nI ((Ls i).length)) (nI ((Ls (i - 1)).length)) i17 i18 i19 i22 i23 a1 a2 a4 a5 a6 (upd f10 i (nI (Ls i).length)) (wrN f11 (kpW f12 (Ls i).length) (1000 * i) 1000) f12 f14 a16 a20 a21 a24 f25 a26) H := hP
                            have hD : va_D A (mw cI r (nI pl) (nI tr) (-1) (nI i) (nI pl) (nI ((Ls i).length)) (nI ((Ls (i - 1)).length)) i17 i18 i19 i22 i23 a1 a2 a4 a5 a6 (upd f10 i (nI (Ls i).length)) (wrN f11 (kpW f12 (Ls i).length) (1000 * i) 1000) f12 f14 a16 a20 a21 a24 f25 a26) := hD
                            refine lv_aload_n hx hb dX6_rounds_232 rfl (lv_at hl 1 rfl) ?_
                            refine va_get (D := D) (ci := 5) (v := .int (-1)) (C := RX6) (T := TX6) (N := 27) hx hb hts hin6 hown hK hP 0 rfl rfl 7 (by decide) fl25 (fun _ h9 => h9) rfl dX6_rounds_233 ?_
                            refine lv_iconst (v := nI 1) hx hb dX6_rounds_236 (by decide) ?_
                            refine lv_icmp_ne (tgt := 244) hx hb dX6_rounds_237 (by decide) (fun c237 => ?_) (fun c237 => absurd c237 (by decide))
                            refine lv_aload_n hx hb dX6_rounds_244 rfl (lv_at hl 1 rfl) ?_
                            refine va_get (D := D) (ci := 5) (v := .int (-1)) (C := RX6) (T := TX6) (N := 27) hx hb hts hin6 hown hK hP 0 rfl rfl 7 (by decide) fl25 (fun _ h9 => h9) rfl dX6_rounds_245 ?_
                            exact hret _ ((nI ((Ls i).length)), (nI ((Ls (i - 1)).length)), (upd f10 i (nI (Ls i).length)), (wrN f11 (kpW f12 (Ls i).length) (1000 * i) 1000), f12, f14, a16, f25, a26) _ _ _ _ _ _ rfl ⟨he.symm, h10n, (fun h => absurd h (by rw [he]; decide))⟩ (by rw [he]; exact hP) (by rw [he]; exact hD) dX6_rounds_248 hS (Nat.zero_le _) (Nat.zero_le _)
                        · skip
                          have he : endM Ls a1 i = nI 0 := endM_3 c129 c144 c153 c160
                          have hila : i = la := by
                            rcases Nat.lt_or_eq_of_le hi with h | h
                            · have h9 := hgo i h
                              rw [he] at h9
                              exact absurd h9 (by decide)
                            · exact h
                          subst hila
                          refine lv_iconst (v := nI 0) hx hb dX6_rounds_163 (by decide) ?_
                          refine lv_istore_n (lv' := [(2, .int (nI 0)), (0, .ref (r 0)), (1, .int (nI i)), (3, .int (nI 1000))]) hx hb dX6_rounds_164 rfl hl (by decide) rfl (fun ls hl => ?_)
                          refine lv_goto (tgt := 58) hx hb dX6_rounds_165 (by decide) ?_
                          refine lv_iload_n hx hb dX6_rounds_58 rfl (lv_at hl 0 rfl) ?_
                          refine lv_iconst (v := nI 2) hx hb dX6_rounds_59 (by decide) ?_
                          refine lv_icmp_ne (tgt := 227) hx hb dX6_rounds_60 (by decide) (fun c60 => ?_) (fun c60 => absurd c60 (by decide))
                          refine lv_aload_n hx hb dX6_rounds_227 rfl (lv_at hl 1 rfl) ?_
                          refine lv_iload_n hx hb dX6_rounds_228 rfl (lv_at hl 0 rfl) ?_
                          refine va_put (D := D) (ci := 5) (v := .int (nI 0)) (ty := .int) (C := RX6) (T := TX6) (N := 27) hx hb hts hin6 tyX6 tyX6_ok nmX6 hown hK hP hD hS 0 rfl rfl 7 (by decide) fl25 (fun _ h9 => h9) rfl (by decide +kernel) rfl rfl (Nat.le_of_ble_eq_true rfl) dX6_rounds_229 (fun H locs hP hD hS => ?_)
                          have hP : va_P D vwCl (mw cI r (nI pl) (nI tr) (nI 0) (nI i) (nI pl) (nI ((Ls i).length)) (nI ((Ls (i - 1)).length)) i17 i18 i19 i22 i23 a1 a2 a4 a5 a6 (upd f10 i (nI (Ls i).length)) (wrN f11 (kpW f12 (Ls i).length) (1000 * i) 1000) f12 f14 a16 a20 a21 a24 f25 a26) H := hP
                          have hD : va_D A (mw cI r (nI pl) (nI tr) (nI 0) (nI i) (nI pl) (nI ((Ls i).length)) (nI ((Ls (i - 1)).length)) i17 i18 i19 i22 i23 a1 a2 a4 a5 a6 (upd f10 i (nI (Ls i).length)) (wrN f11 (kpW f12 (Ls i).length) (1000 * i) 1000) f12 f14 a16 a20 a21 a24 f25 a26) := hD
                          refine lv_aload_n hx hb dX6_rounds_232 rfl (lv_at hl 1 rfl) ?_
                          refine va_get (D := D) (ci := 5) (v := .int (nI 0)) (C := RX6) (T := TX6) (N := 27) hx hb hts hin6 hown hK hP 0 rfl rfl 7 (by decide) fl25 (fun _ h9 => h9) rfl dX6_rounds_233 ?_
                          refine lv_iconst (v := nI 1) hx hb dX6_rounds_236 (by decide) ?_
                          refine lv_icmp_ne (tgt := 244) hx hb dX6_rounds_237 (by decide) (fun c237 => ?_) (fun c237 => absurd c237 (by decide))
                          refine lv_aload_n hx hb dX6_rounds_244 rfl (lv_at hl 1 rfl) ?_
                          refine va_get (D := D) (ci := 5) (v := .int (nI 0)) (C := RX6) (T := TX6) (N := 27) hx hb hts hin6 hown hK hP 0 rfl rfl 7 (by decide) fl25 (fun _ h9 => h9) rfl dX6_rounds_245 ?_
                          exact hret _ ((nI ((Ls i).length)), (nI ((Ls (i - 1)).length)), (upd f10 i (nI (Ls i).length)), (wrN f11 (kpW f12 (Ls i).length) (1000 * i) 1000), f12, f14, a16, f25, a26) _ _ _ _ _ _ rfl ⟨he.symm, h10n, (fun h => absurd h (by rw [he]; decide))⟩ (by rw [he]; exact hP) (by rw [he]; exact hD) dX6_rounds_248 hS (Nat.zero_le _) (Nat.zero_le _)
                    · skip
                      have he : endM Ls a1 i = (-1) := endM_2 c129 c144
                      have hila : i = la := by
                        rcases Nat.lt_or_eq_of_le hi with h | h
                        · have h9 := hgo i h
                          rw [he] at h9
                          exact absurd h9 (by decide)
                        · exact h
                      subst hila
                      refine lv_iconst (v := -1) hx hb dX6_rounds_147 (by decide) ?_
                      refine lv_istore_n (lv' := [(2, .int (-1)), (0, .ref (r 0)), (1, .int (nI i)), (3, .int (nI 1000))]) hx hb dX6_rounds_148 rfl hl (by decide) rfl (fun ls hl => ?_)
                      refine lv_goto (tgt := 58) hx hb dX6_rounds_149 (by decide) ?_
                      refine lv_iload_n hx hb dX6_rounds_58 rfl (lv_at hl 0 rfl) ?_
                      refine lv_iconst (v := nI 2) hx hb dX6_rounds_59 (by decide) ?_
                      refine lv_icmp_ne (tgt := 227) hx hb dX6_rounds_60 (by decide) (fun c60 => ?_) (fun c60 => absurd c60 (by decide))
                      refine lv_aload_n hx hb dX6_rounds_227 rfl (lv_at hl 1 rfl) ?_
                      refine lv_iload_n hx hb dX6_rounds_228 rfl (lv_at hl 0 rfl) ?_
                      refine va_put (D := D) (ci := 5) (v := .int (-1)) (ty := .int) (C := RX6) (T := TX6) (N := 27) hx hb hts hin6 tyX6 tyX6_ok nmX6 hown hK hP hD hS 0 rfl rfl 7 (by decide) fl25 (fun _ h9 => h9) rfl (by decide +kernel) rfl rfl (Nat.le_of_ble_eq_true rfl) dX6_rounds_229 (fun H locs hP hD hS => ?_)
                      have hP : va_P D vwCl (mw cI r (nI pl) (nI tr) (-1) (nI i) (nI pl) (nI ((Ls i).length)) l15 i17 i18 i19 i22 i23 a1 a2 a4 a5 a6 (upd f10 i (nI (Ls i).length)) (wrN f11 (kpW f12 (Ls i).length) (1000 * i) 1000) f12 f14 a16 a20 a21 a24 f25 a26) H := hP
                      have hD : va_D A (mw cI r (nI pl) (nI tr) (-1) (nI i) (nI pl) (nI ((Ls i).length)) l15 i17 i18 i19 i22 i23 a1 a2 a4 a5 a6 (upd f10 i (nI (Ls i).length)) (wrN f11 (kpW f12 (Ls i).length) (1000 * i) 1000) f12 f14 a16 a20 a21 a24 f25 a26) := hD
                      refine lv_aload_n hx hb dX6_rounds_232 rfl (lv_at hl 1 rfl) ?_
                      refine va_get (D := D) (ci := 5) (v := .int (-1)) (C := RX6) (T := TX6) (N := 27) hx hb hts hin6 hown hK hP 0 rfl rfl 7 (by decide) fl25 (fun _ h9 => h9) rfl dX6_rounds_233 ?_
                      refine lv_iconst (v := nI 1) hx hb dX6_rounds_236 (by decide) ?_
                      refine lv_icmp_ne (tgt := 244) hx hb dX6_rounds_237 (by decide) (fun c237 => ?_) (fun c237 => absurd c237 (by decide))
                      refine lv_aload_n hx hb dX6_rounds_244 rfl (lv_at hl 1 rfl) ?_
                      refine va_get (D := D) (ci := 5) (v := .int (-1)) (C := RX6) (T := TX6) (N := 27) hx hb hts hin6 hown hK hP 0 rfl rfl 7 (by decide) fl25 (fun _ h9 => h9) rfl dX6_rounds_245 ?_
                      exact hret _ ((nI ((Ls i).length)), l15, (upd f10 i (nI (Ls i).length)), (wrN f11 (kpW f12 (Ls i).length) (1000 * i) 1000), f12, f14, a16, f25, a26) _ _ _ _ _ _ rfl ⟨he.symm, h10n, (fun h => absurd h (by rw [he]; decide))⟩ (by rw [he]; exact hP) (by rw [he]; exact hD) dX6_rounds_248 hS (Nat.zero_le _) (Nat.zero_le _)
                  · skip
                    have he : endM Ls a1 i = nI 1 := endM_1 c129
                    have hila : i = la := by
                      rcases Nat.lt_or_eq_of_le hi with h | h
                      · have h9 := hgo i h
                        rw [he] at h9
                        exact absurd h9 (by decide)
                      · exact h
                    subst hila
                    have hKs9 : ∀ j, j < i → rowsV (wrN f11 (kpW f12 (Ls i).length) (1000 * i) 1000) (1000 * j) (Ls j) ∧ (Ls j).length ≤ 200 ∧ (upd f10 i (nI (Ls i).length)) j = nI (Ls j).length := fun j hj => ⟨kp_old (h11 j hj).1 (h11 j hj).2 hj, (h11 j hj).2, h10n j (Nat.le_of_lt hj)⟩
                    refine lv_iconst (v := nI 1) hx hb dX6_rounds_132 (by decide) ?_
                    refine lv_istore_n (lv' := [(2, .int (nI 1)), (0, .ref (r 0)), (1, .int (nI i)), (3, .int (nI 1000))]) hx hb dX6_rounds_133 rfl hl (by decide) rfl (fun ls hl => ?_)
                    refine lv_goto (tgt := 58) hx hb dX6_rounds_134 (by decide) ?_
                    refine lv_iload_n hx hb dX6_rounds_58 rfl (lv_at hl 0 rfl) ?_
                    refine lv_iconst (v := nI 2) hx hb dX6_rounds_59 (by decide) ?_
                    refine lv_icmp_ne (tgt := 227) hx hb dX6_rounds_60 (by decide) (fun c60 => ?_) (fun c60 => absurd c60 (by decide))
                    refine lv_aload_n hx hb dX6_rounds_227 rfl (lv_at hl 1 rfl) ?_
                    refine lv_iload_n hx hb dX6_rounds_228 rfl (lv_at hl 0 rfl) ?_
                    refine va_put (D := D) (ci := 5) (v := .int (nI 1)) (ty := .int) (C := RX6) (T := TX6) (N := 27) hx hb hts hin6 tyX6 tyX6_ok nmX6 hown hK hP hD hS 0 rfl rfl 7 (by decide) fl25 (fun _ h9 => h9) rfl (by decide +kernel) rfl rfl (Nat.le_of_ble_eq_true rfl) dX6_rounds_229 (fun H locs hP hD hS => ?_)
                    have hP : va_P D vwCl (mw cI r (nI pl) (nI tr) (nI 1) (nI i) (nI pl) (nI ((Ls i).length)) l15 i17 i18 i19 i22 i23 a1 a2 a4 a5 a6 (upd f10 i (nI (Ls i).length)) (wrN f11 (kpW f12 (Ls i).length) (1000 * i) 1000) f12 f14 a16 a20 a21 a24 f25 a26) H := hP
                    have hD : va_D A (mw cI r (nI pl) (nI tr) (nI 1) (nI i) (nI pl) (nI ((Ls i).length)) l15 i17 i18 i19 i22 i23 a1 a2 a4 a5 a6 (upd f10 i (nI (Ls i).length)) (wrN f11 (kpW f12 (Ls i).length) (1000 * i) 1000) f12 f14 a16 a20 a21 a24 f25 a26) := hD
                    refine lv_aload_n hx hb dX6_rounds_232 rfl (lv_at hl 1 rfl) ?_
                    refine va_get (D := D) (ci := 5) (v := .int (nI 1)) (C := RX6) (T := TX6) (N := 27) hx hb hts hin6 hown hK hP 0 rfl rfl 7 (by decide) fl25 (fun _ h9 => h9) rfl dX6_rounds_233 ?_
                    refine lv_iconst (v := nI 1) hx hb dX6_rounds_236 (by decide) ?_
                    refine lv_icmp_ne (tgt := 244) hx hb dX6_rounds_237 (by decide) (fun c237 => absurd c237 (by decide)) (fun c237 => ?_)
                    refine lv_aload_n hx hb dX6_rounds_240 rfl (lv_at hl 1 rfl) ?_
                    refine wk_VvW (As := []) (rest := []) (wr := []) ⟨hx, hb, hml, hown, hts⟩ (c_X6_tellRow l D cI cJ cZ cA r (nI pl) (nI 1) (nI pl) (nI ((Ls i).length)) l15 i17 i18 i19 i22 i23 a1 a2 a4 a5 a6 (upd f10 i (nI (Ls i).length)) (wrN f11 (kpW f12 (Ls i).length) (1000 * i) 1000) f12 f14 a16 a20 a21 a24 f25 a26 H.size tr i Ls gt htr (by omega) hKs9 (hg he)) (cwV 0 hts gX6_rounds_X6_tellRow rfl rfl rfl (by decide +kernel) ⟨Nat.le_of_ble_eq_true rfl, Nat.le_of_ble_eq_true rfl⟩) hK hP hD hA [0, 1, 2, 3, 4, 5, 6, 7, 8, 9, 10, 11, 12, 13, 14, 15] rfl (by decide) [] rfl (by decide) (by decide) 0 5 rfl rfl hS rfl hl.1 rfl (Nat.le_of_ble_eq_true rfl) dX6_rounds_241 ⟨Nat.le_of_ble_eq_true rfl, Nat.le_of_ble_eq_true rfl⟩ (fun u9 H locs hu hP hD hS => ?_)
                    have hP : va_P D vwCl (mw cI r (nI pl) (nI tr) (nI 1) (nI i) (nI pl) (nI ((Ls i).length)) l15 i17 i18 i19 i22 i23 a1 a2 a4 a5 a6 (upd f10 i (nI (Ls i).length)) (wrN f11 (kpW f12 (Ls i).length) (1000 * i) 1000) f12 f14 u9.1 a20 a21 a24 u9.2.1 u9.2.2) H := hP
                    have hD : va_D A (mw cI r (nI pl) (nI tr) (nI 1) (nI i) (nI pl) (nI ((Ls i).length)) l15 i17 i18 i19 i22 i23 a1 a2 a4 a5 a6 (upd f10 i (nI (Ls i).length)) (wrN f11 (kpW f12 (Ls i).length) (1000 * i) 1000) f12 f14 u9.1 a20 a21 a24 u9.2.1 u9.2.2) := hD
                    refine lv_aload_n hx hb dX6_rounds_244 rfl (lv_at hl 1 rfl) ?_
                    refine va_get (D := D) (ci := 5) (v := .int (nI 1)) (C := RX6) (T := TX6) (N := 27) hx hb hts hin6 hown hK hP 0 rfl rfl 7 (by decide) fl25 (fun _ h9 => h9) rfl dX6_rounds_245 ?_
                    exact hret _ ((nI ((Ls i).length)), l15, (upd f10 i (nI (Ls i).length)), (wrN f11 (kpW f12 (Ls i).length) (1000 * i) 1000), f12, f14, u9.1, u9.2.1, u9.2.2) _ _ _ _ _ _ rfl ⟨he.symm, h10n, fun _ => hu⟩ (by rw [he]; exact hP) (by rw [he]; exact hD) dX6_rounds_248 hS (Nat.zero_le _) (Nat.zero_le _)
                · skip
                  refine lv_aload_n hx hb dX6_rounds_82 rfl (lv_at hl 0 rfl) ?_
                  refine va_get (D := D) (ci := 5) (v := .ref (r 11)) (C := RX6) (T := TX6) (N := 27) hx hb hts hin6 hown hK hP 0 rfl rfl 11 (by decide) fl33 (fun _ h9 => h9) rfl dX6_rounds_83 ?_
                  refine lv_sipush (v := nI 1000) hx hb dX6_rounds_86 (by decide) ?_
                  refine lv_iload_n hx hb dX6_rounds_89 rfl (lv_at hl 1 rfl) ?_
                  refine wk_imul hx hb dX6_rounds_90 ?_
                  refine lv_iload_n hx hb dX6_rounds_91 rfl (lv_at hl 3 rfl) ?_
                  refine wk_iadd hx hb dX6_rounds_92 ?_
                  refine lv_iload_n hx hb dX6_rounds_93 rfl (lv_at hl 3 rfl) ?_
                  refine lv_iconst (v := nI 5) hx hb dX6_rounds_94 (by decide) ?_
                  refine lv_aload_n hx hb dX6_rounds_95 rfl (lv_at hl 0 rfl) ?_
                  refine va_get (D := D) (ci := 5) (v := .int (nI ((Ls i).length))) (C := RX6) (T := TX6) (N := 27) hx hb hts hin6 hown hK hP 0 rfl rfl 13 (by decide) fl80 (fun _ h9 => h9) rfl dX6_rounds_96 ?_
                  refine wk_imul hx hb dX6_rounds_99 ?_
                  refine wk_icmp_ge (tgt := 112) hx hb (by omega) (by omega) dX6_rounds_100 (by decide) (fun c100 => ?_) (fun c100 => ?_)
                  · skip
                    refine lv_iconst (v := nI 0) hx hb dX6_rounds_112 (by decide) ?_
                    refine wk_iast hx hb hK hP hD hS 7 0 rfl rfl (i := (1000 * i) + q) (by omega) (by omega) dX6_rounds_113 (fun H locs hP hD hS => ?_)
                    have hP : va_P D vwCl (mw cI r (nI pl) (nI tr) i7 l8 (nI pl) (nI ((Ls i).length)) l15 i17 i18 i19 i22 i23 a1 a2 a4 a5 a6 (upd f10 i (nI (Ls i).length)) (upd (wrN f11 (kpW f12 (Ls i).length) (1000 * i) q) ((1000 * i) + q) (nI 0)) f12 f14 a16 a20 a21 a24 f25 a26) H := hP
                    have hD : va_D A (mw cI r (nI pl) (nI tr) i7 l8 (nI pl) (nI ((Ls i).length)) l15 i17 i18 i19 i22 i23 a1 a2 a4 a5 a6 (upd f10 i (nI (Ls i).length)) (upd (wrN f11 (kpW f12 (Ls i).length) (1000 * i) q) ((1000 * i) + q) (nI 0)) f12 f14 a16 a20 a21 a24 f25 a26) := hD
                    refine lv_iinc (v := (nI (q + 1))) (lv' := [(3, .int (nI (q + 1))), (0, .ref (r 0)), (1, .int (nI i)), (2, .int (nI 2))]) hx hb dX6_rounds_114 hl (k := 3) rfl (by exact nI_1 _) (by decide) rfl (fun ls hl => ?_)
                    refine lv_goto (tgt := 75) hx hb dX6_rounds_117 (by decide) ?_
                    have hP : va_P D vwCl (mw cI r (nI pl) (nI tr) i7 l8 (nI pl) (nI ((Ls i).length)) l15 i17 i18 i19 i22 i23 a1 a2 a4 a5 a6 (upd f10 i (nI (Ls i).length)) (wrN f11 (kpW f12 (Ls i).length) (1000 * i) (q + 1)) f12 f14 a16 a20 a21 a24 f25 a26) H := by rw [← wrN_s, kpW_ge c100]; exact hP
                    have hD : va_D A (mw cI r (nI pl) (nI tr) i7 l8 (nI pl) (nI ((Ls i).length)) l15 i17 i18 i19 i22 i23 a1 a2 a4 a5 a6 (upd f10 i (nI (Ls i).length)) (wrN f11 (kpW f12 (Ls i).length) (1000 * i) (q + 1)) f12 f14 a16 a20 a21 a24 f25 a26) := by rw [← wrN_s, kpW_ge c100]; exact hD
                    exact ih75 (q + 1) (by omega) (by omega) _ _ _ hP hD hS (lv_sub hl [1, 2, 3, 0] rfl)
                  · skip
                    refine lv_aload_n hx hb dX6_rounds_103 rfl (lv_at hl 0 rfl) ?_
                    refine va_get (D := D) (ci := 5) (v := .ref (r 12)) (C := RX6) (T := TX6) (N := 27) hx hb hts hin6 hown hK hP 0 rfl rfl 12 (by decide) fl36 (fun _ h9 => h9) rfl dX6_rounds_104 ?_
                    refine lv_iload_n hx hb dX6_rounds_107 rfl (lv_at hl 3 rfl) ?_
                    refine wk_iald hx hb hK hP 8 0 rfl rfl (i := q) (by omega) (by omega) dX6_rounds_108 ?_
                    refine lv_goto (tgt := 113) hx hb dX6_rounds_109 (by decide) ?_
                    refine wk_iast hx hb hK hP hD hS 7 0 rfl rfl (i := (1000 * i) + q) (by omega) (by omega) dX6_rounds_113 (fun H locs hP hD hS => ?_)
                    have hP : va_P D vwCl (mw cI r (nI pl) (nI tr) i7 l8 (nI pl) (nI ((Ls i).length)) l15 i17 i18 i19 i22 i23 a1 a2 a4 a5 a6 (upd f10 i (nI (Ls i).length)) (upd (wrN f11 (kpW f12 (Ls i).length) (1000 * i) q) ((1000 * i) + q) (f12 q)) f12 f14 a16 a20 a21 a24 f25 a26) H := hP
                    have hD : va_D A (mw cI r (nI pl) (nI tr) i7 l8 (nI pl) (nI ((Ls i).length)) l15 i17 i18 i19 i22 i23 a1 a2 a4 a5 a6 (upd f10 i (nI (Ls i).length)) (upd (wrN f11 (kpW f12 (Ls i).length) (1000 * i) q) ((1000 * i) + q) (f12 q)) f12 f14 a16 a20 a21 a24 f25 a26) := hD
                    refine lv_iinc (v := (nI (q + 1))) (lv' := [(3, .int (nI (q + 1))), (0, .ref (r 0)), (1, .int (nI i)), (2, .int (nI 2))]) hx hb dX6_rounds_114 hl (k := 3) rfl (by exact nI_1 _) (by decide) rfl (fun ls hl => ?_)
                    refine lv_goto (tgt := 75) hx hb dX6_rounds_117 (by decide) ?_
                    have hP : va_P D vwCl (mw cI r (nI pl) (nI tr) i7 l8 (nI pl) (nI ((Ls i).length)) l15 i17 i18 i19 i22 i23 a1 a2 a4 a5 a6 (upd f10 i (nI (Ls i).length)) (wrN f11 (kpW f12 (Ls i).length) (1000 * i) (q + 1)) f12 f14 a16 a20 a21 a24 f25 a26) H := by rw [← wrN_s, kpW_lt c100]; exact hP
                    have hD : va_D A (mw cI r (nI pl) (nI tr) i7 l8 (nI pl) (nI ((Ls i).length)) l15 i17 i18 i19 i22 i23 a1 a2 a4 a5 a6 (upd f10 i (nI (Ls i).length)) (wrN f11 (kpW f12 (Ls i).length) (1000 * i) (q + 1)) f12 f14 a16 a20 a21 a24 f25 a26) := by rw [← wrN_s, kpW_lt c100]; exact hD
                    exact ih75 (q + 1) (by omega) (by omega) _ _ _ hP hD hS (lv_sub hl [1, 2, 3, 0] rfl)
            have hP : va_P D vwCl (mw cI r (nI pl) (nI tr) i7 l8 (nI pl) (nI ((Ls i).length)) l15 i17 i18 i19 i22 i23 a1 a2 a4 a5 a6 (upd f10 i (nI (Ls i).length)) (wrN f11 (kpW f12 (Ls i).length) (1000 * i) 0) f12 f14 a16 a20 a21 a24 f25 a26) H := by rw [wrN_0]; exact hP
            have hD : va_D A (mw cI r (nI pl) (nI tr) i7 l8 (nI pl) (nI ((Ls i).length)) l15 i17 i18 i19 i22 i23 a1 a2 a4 a5 a6 (upd f10 i (nI (Ls i).length)) (wrN f11 (kpW f12 (Ls i).length) (1000 * i) 0) f12 f14 a16 a20 a21 a24 f25 a26) := by rw [wrN_0]; exact hD
            exact lp75 _ 0 (Nat.lt_succ_self _) (by omega) _ _ _ hP hD hS (lv_sub hl [1, 2, 3, 0] rfl)
        have hP : va_P D vwCl (mw cI r (nI pl) (nI tr) i7 i8 (nI pl) (nI ((Ls 0).length)) i15 i17 i18 i19 i22 i23 a1 a2 a4 a5 a6 a10 a11 v9 a14 a16 a20 a21 a24 (cpN (tgM pl a2) a25 5) a26) H := by rw [hL0]; exact hP
        have hD : va_D A (mw cI r (nI pl) (nI tr) i7 i8 (nI pl) (nI ((Ls 0).length)) i15 i17 i18 i19 i22 i23 a1 a2 a4 a5 a6 a10 a11 v9 a14 a16 a20 a21 a24 (cpN (tgM pl a2) a25 5) a26) := by rw [hL0]; exact hD
        exact lp58 _ 0 i8 i15 a10 a11 v9 a14 (cpN (tgM pl a2) a25 5) (Nat.lt_succ_self _) (Nat.zero_le _) (by rw [hL0]; exact hu) (by rw [hL0]; exact Nat.le_trans (tkIn_len [] _) (by decide)) (fun j h => absurd h (Nat.not_lt_zero j)) (fun j h => absurd h (Nat.not_lt_zero j)) (fun h => absurd h (Nat.lt_irrefl 0)) _ _ _ hP hD hS (lv_sub hl [2, 1, 0] rfl)
      · skip
        refine lv_aload_n hx hb dX6_rounds_20 rfl (lv_at hl 0 rfl) ?_
        refine va_get (D := D) (ci := 5) (v := .ref (r 25)) (C := RX6) (T := TX6) (N := 27) hx hb hts hin6 hown hK hP 0 rfl rfl 25 (by decide) fl54 (fun _ h9 => h9) rfl dX6_rounds_21 ?_
        refine lv_iload_n hx hb dX6_rounds_24 rfl (lv_at hl 1 rfl) ?_
        refine lv_iload_n hx hb dX6_rounds_25 rfl (lv_at hl 1 rfl) ?_
        refine lv_aload_n hx hb dX6_rounds_26 rfl (lv_at hl 0 rfl) ?_
        refine va_get (D := D) (ci := 5) (v := .int (nI pl)) (C := RX6) (T := TX6) (N := 27) hx hb hts hin6 hown hK hP 0 rfl rfl 0 (by decide) fl60 (fun _ h9 => h9) rfl dX6_rounds_27 ?_
        refine wk_icmp_ge (tgt := 42) hx hb (by omega) (by omega) dX6_rounds_30 (by decide) (fun c30 => ?_) (fun c30 => ?_)
        · skip
          refine lv_iconst (v := nI 0) hx hb dX6_rounds_42 (by decide) ?_
          refine wk_iast hx hb hK hP hD hS 14 0 rfl rfl (i := q) (by omega) (by omega) dX6_rounds_43 (fun H locs hP hD hS => ?_)
          have hP : va_P D vwCl (mw cI r (nI pl) (nI tr) i7 i8 (nI pl) (nI 0) i15 i17 i18 i19 i22 i23 a1 a2 a4 a5 a6 a10 a11 a12 a14 a16 a20 a21 a24 (upd (cpN (tgM pl a2) a25 q) q (nI 0)) a26) H := hP
          have hD : va_D A (mw cI r (nI pl) (nI tr) i7 i8 (nI pl) (nI 0) i15 i17 i18 i19 i22 i23 a1 a2 a4 a5 a6 a10 a11 a12 a14 a16 a20 a21 a24 (upd (cpN (tgM pl a2) a25 q) q (nI 0)) a26) := hD
          refine lv_iinc (v := (nI (q + 1))) (lv' := [(1, .int (nI (q + 1))), (0, .ref (r 0))]) hx hb dX6_rounds_44 hl (k := 1) rfl (by exact nI_1 _) (by decide) rfl (fun ls hl => ?_)
          refine lv_goto (tgt := 15) hx hb dX6_rounds_47 (by decide) ?_
          have hP : va_P D vwCl (mw cI r (nI pl) (nI tr) i7 i8 (nI pl) (nI 0) i15 i17 i18 i19 i22 i23 a1 a2 a4 a5 a6 a10 a11 a12 a14 a16 a20 a21 a24 (cpN (tgM pl a2) a25 (q + 1)) a26) H := by rw [← cpN_s, tgM_ge c30]; exact hP
          have hD : va_D A (mw cI r (nI pl) (nI tr) i7 i8 (nI pl) (nI 0) i15 i17 i18 i19 i22 i23 a1 a2 a4 a5 a6 a10 a11 a12 a14 a16 a20 a21 a24 (cpN (tgM pl a2) a25 (q + 1)) a26) := by rw [← cpN_s, tgM_ge c30]; exact hD
          exact ih15 (q + 1) (by omega) (by omega) _ _ _ hP hD hS (lv_sub hl [1, 0] rfl)
        · skip
          refine lv_aload_n hx hb dX6_rounds_33 rfl (lv_at hl 0 rfl) ?_
          refine va_get (D := D) (ci := 5) (v := .ref (r 2)) (C := RX6) (T := TX6) (N := 27) hx hb hts hin6 hown hK hP 0 rfl rfl 2 (by decide) fl13 (fun _ h9 => h9) rfl dX6_rounds_34 ?_
          refine lv_iload_n hx hb dX6_rounds_37 rfl (lv_at hl 1 rfl) ?_
          refine wk_iald hx hb hK hP 2 0 rfl rfl (i := q) (by omega) (by omega) dX6_rounds_38 ?_
          refine lv_goto (tgt := 43) hx hb dX6_rounds_39 (by decide) ?_
          refine wk_iast hx hb hK hP hD hS 14 0 rfl rfl (i := q) (by omega) (by omega) dX6_rounds_43 (fun H locs hP hD hS => ?_)
          have hP : va_P D vwCl (mw cI r (nI pl) (nI tr) i7 i8 (nI pl) (nI 0) i15 i17 i18 i19 i22 i23 a1 a2 a4 a5 a6 a10 a11 a12 a14 a16 a20 a21 a24 (upd (cpN (tgM pl a2) a25 q) q (a2 q)) a26) H := hP
          have hD : va_D A (mw cI r (nI pl) (nI tr) i7 i8 (nI pl) (nI 0) i15 i17 i18 i19 i22 i23 a1 a2 a4 a5 a6 a10 a11 a12 a14 a16 a20 a21 a24 (upd (cpN (tgM pl a2) a25 q) q (a2 q)) a26) := hD
          refine lv_iinc (v := (nI (q + 1))) (lv' := [(1, .int (nI (q + 1))), (0, .ref (r 0))]) hx hb dX6_rounds_44 hl (k := 1) rfl (by exact nI_1 _) (by decide) rfl (fun ls hl => ?_)
          refine lv_goto (tgt := 15) hx hb dX6_rounds_47 (by decide) ?_
          have hP : va_P D vwCl (mw cI r (nI pl) (nI tr) i7 i8 (nI pl) (nI 0) i15 i17 i18 i19 i22 i23 a1 a2 a4 a5 a6 a10 a11 a12 a14 a16 a20 a21 a24 (cpN (tgM pl a2) a25 (q + 1)) a26) H := by rw [← cpN_s, tgM_lt c30]; exact hP
          have hD : va_D A (mw cI r (nI pl) (nI tr) i7 i8 (nI pl) (nI 0) i15 i17 i18 i19 i22 i23 a1 a2 a4 a5 a6 a10 a11 a12 a14 a16 a20 a21 a24 (cpN (tgM pl a2) a25 (q + 1)) a26) := by rw [← cpN_s, tgM_lt c30]; exact hD
          exact ih15 (q + 1) (by omega) (by omega) _ _ _ hP hD hS (lv_sub hl [1, 0] rfl)
  have hP : va_P D vwCl (mw cI r (nI pl) (nI tr) i7 i8 (nI pl) (nI 0) i15 i17 i18 i19 i22 i23 a1 a2 a4 a5 a6 a10 a11 a12 a14 a16 a20 a21 a24 (cpN (tgM pl a2) a25 0) a26) H := by rw [cpN_0]; exact hP
  have hD : va_D A (mw cI r (nI pl) (nI tr) i7 i8 (nI pl) (nI 0) i15 i17 i18 i19 i22 i23 a1 a2 a4 a5 a6 a10 a11 a12 a14 a16 a20 a21 a24 (cpN (tgM pl a2) a25 0) a26) := by rw [cpN_0]; exact hD
  exact lp15 _ 0 (Nat.lt_succ_self _) (by omega) _ _ _ hP hD hS (lv_sub hl [1, 0] rfl)
