set_option maxHeartbeats 4000000 in
set_option maxRecDepth 100000 in
theorem c_X3_addToLeast (l : Launch) (D : va_G) (cI cJ cZ cA : ClassId) (sa : Nat → Nat) (e0 e1 e5 e12 n10 : Int32) (e4 : Int64) (c2 c3 c11 : Nat → Int32) (t6 t7 p8 p10 : Nat → Int64) (q8 l8 q10 l10 : Nat) (sz old : Nat) (X : List Int64) (x : Int64) (hX : listV p8 X) (hXl : X.length ≤ l8) (hl8 : l8 ≤ 25000) (h0 : 0 < l8) (ho : old ≤ X.length) : Met l yX3_addToLeast wsX3_addToLeast ({ frames := 3, cells := dC9 (adL X l8 x) l8, slots := dS9 (adL X l8 x) l8, locals := 84 } : Room) (wr_P D (tysC cI cJ cZ cA) [.ref (sa 0), .long x] (sw cI cJ sa e0 e1 e4 e5 (nI old) e12 c2 c3 t6 t7 c11 (nI X.length) q8 l8 p8 n10 q10 l10 p10) sz) (wr_Qv D (S := Nat × (Nat → Int64)) (sw cI cJ sa e0 e1 e4 e5 (nI old) e12 c2 c3 t6 t7 c11 (nI X.length) q8 l8 p8 n10 q10 l10 p10) sz (fun u => listV u.2 (adX X x)) (fun u => (sw cI cJ sa e0 e1 e4 e5 (nI (adO X old x)) e12 c2 c3 t6 t7 c11 (nI ((adX X x).length)) u.1 (adL X l8 x) u.2 n10 q10 l10 p10))) (dC9 (adL X l8 x) l8) (dS9 (adL X l8 x) l8) (va_A (sw cI cJ sa e0 e1 e4 e5 (nI old) e12 c2 c3 t6 t7 c11 (nI X.length) q8 l8 p8 n10 q10 l10 p10) sz) := by
  refine met_wv (cc := cX3_addToLeast) (maxL := 6) (by decide) rfl (Nat.le_of_ble_eq_true rfl) ?_
  intro p e s m args below meth c Q A hx hb hml hown hts hP hK hD hA hret ls hl
  obtain ⟨H, hH9⟩ : ∃ H : Heap, H = s.heap := ⟨_, rfl⟩
  have hP : va_P D vwCl (sw cI cJ sa e0 e1 e4 e5 (nI old) e12 c2 c3 t6 t7 c11 (nI X.length) q8 l8 p8 n10 q10 l10 p10) H := by rw [hH9]; exact hP
  have hS : va_S A s.heap H [] := by rw [hH9]; exact va_S.rf
  rw [← hH9]
  have hown : s.vm.findClass RX3 = some m.cls := hown
  have hin3 : ∀ w ∈ wsX30, w ∈ wsX3_addToLeast := by decide +kernel
  have hin2 : ∀ w ∈ wsX20, w ∈ wsX3_addToLeast := by decide +kernel
  have fl42 := hts (.fieldLink RX3 42 "CoverRounds$Search" "least" "LCoverRounds$Pile;") (by decide +kernel)
  have fl65 := hts (.fieldLink RX3 65 "CoverRounds$Pile" "size" "I") (by decide +kernel)
  have fl106 := hts (.fieldLink RX3 106 "CoverRounds$Pile" "rows" "[J") (by decide +kernel)
  have fl46 := hts (.fieldLink RX3 46 "CoverRounds$Search" "oldCount" "I") (by decide +kernel)
  have hl : lv_has ls 6 [(0, .ref (sa 0)), (1, .long x)] := hl
  refine lv_aload_n hx hb dX3_addToLeast_0 rfl (lv_at hl 0 rfl) ?_
  refine va_get (D := D) (ci := 2) (v := .ref (sa 8)) (C := RX3) (T := TX3) (N := 13) hx hb hts hin3 hown hK hP 0 rfl rfl 8 (by decide) fl42 (fun _ h9 => h9) rfl dX3_addToLeast_1 ?_
  refine lv_lload_n hx hb dX3_addToLeast_4 rfl (lv_at hl 1 rfl) ?_
  refine lv_aload_n hx hb dX3_addToLeast_5 rfl (lv_at hl 0 rfl) ?_
  refine va_get (D := D) (ci := 2) (v := .ref (sa 8)) (C := RX3) (T := TX3) (N := 13) hx hb hts hin3 hown hK hP 0 rfl rfl 8 (by decide) fl42 (fun _ h9 => h9) rfl dX3_addToLeast_6 ?_
  refine va_get (D := D) (ci := 1) (v := .int (nI X.length)) (C := RX2) (T := TX2) (N := 2) hx hb hts hin2 hown hK hP 6 rfl rfl 1 (by decide) fl65 (fun _ h9 => h9) rfl dX3_addToLeast_9 ?_
  refine wk_Vi (As := [.long x, .int (nI X.length)]) (rest := []) ⟨hx, hb, hml, hown, hts⟩ (c_X2_hasOneBelow l D cI cJ cZ cA (sa 8) q8 l8 p8 X hX hXl (by omega) x X.length (by omega)) (cwV 2 hts gX3_addToLeast_X2_hasOneBelow rfl rfl rfl (by decide +kernel) ⟨Nat.le_of_ble_eq_true rfl, Nat.le_of_ble_eq_true rfl⟩) hK hP [6, 7] rfl 0 1 rfl rfl hS rfl hl.1 rfl (Nat.le_of_ble_eq_true rfl) dX3_addToLeast_12 ⟨Nat.zero_le _, Nat.zero_le _⟩ (fun H locs hP hS => ?_)
  refine wk_if_eqb (tgt := 19) hx hb dX3_addToLeast_15 (by decide) (fun c15 => ?_) (fun c15 => ?_)
  · skip
    have hT : ¬ adT X x = true := by unfold adT; rw [← take_all (X := X), c15]; exact Bool.false_ne_true
    have haL : adL X l8 x = grL (X.filter (adF x)).length l8 := if_neg hT
    refine lv_iconst (v := nI 0) hx hb dX3_addToLeast_19 (by decide) ?_
    refine lv_istore_n (lv' := [(3, .int (nI 0)), (0, .ref (sa 0)), (1, .long x)]) hx hb dX3_addToLeast_20 rfl hl (by decide) rfl (fun ls hl => ?_)
    refine lv_iconst (v := nI 0) hx hb dX3_addToLeast_21 (by decide) ?_
    refine lv_istore (lv' := [(4, .int (nI 0)), (3, .int (nI 0)), (0, .ref (sa 0)), (1, .long x)]) hx hb dX3_addToLeast_22 hl (by decide) rfl (fun ls hl => ?_)
    refine lv_iconst (v := nI 0) hx hb dX3_addToLeast_24 (by decide) ?_
    refine lv_istore (lv' := [(5, .int (nI 0)), (4, .int (nI 0)), (3, .int (nI 0)), (0, .ref (sa 0)), (1, .long x)]) hx hb dX3_addToLeast_25 hl (by decide) rfl (fun ls hl => ?_)
    have lp27 : ∀ (n9 : Nat) (k : Nat) (kp : Nat) (ok : Nat) (f : Nat → Int64), X.length - k < n9 → k ≤ X.length → al2 f X old x k kp ok → ∀ (H : Heap) (locs : List Loc) (ls : Array Slot), va_P D vwCl (sw cI cJ sa e0 e1 e4 e5 (nI old) e12 c2 c3 t6 t7 c11 (nI X.length) q8 l8 f n10 q10 l10 p10) H → va_D A (sw cI cJ sa e0 e1 e4 e5 (nI old) e12 c2 c3 t6 t7 c11 (nI X.length) q8 l8 f n10 q10 l10 p10) → va_S A s.heap H locs → lv_has ls 6 [(0, .ref (sa 0)), (1, .long x), (3, .int (nI kp)), (4, .int (nI ok)), (5, .int (nI k))] → W p l e ({ frames := 3, cells := dC9 (adL X l8 x) l8, slots := dS9 (adL X l8 x) l8, locals := 84 } : Room) s m args below meth c H locs 0 0 Q (F0 m 27 ls []) := by
      intro n9
      induction n9 with
      | zero => intro k kp ok f hm27; exact absurd hm27 (Nat.not_lt_zero _)
      | succ n9 ih27 =>
        intro k kp ok f hm27 hk ha H locs ls hP hD hS hl
        have hle9 := al2_le ha
        refine lv_iload hx hb dX3_addToLeast_27 (lv_at hl 4 rfl) ?_
        refine lv_aload_n hx hb dX3_addToLeast_29 rfl (lv_at hl 0 rfl) ?_
        refine va_get (D := D) (ci := 2) (v := .ref (sa 8)) (C := RX3) (T := TX3) (N := 13) hx hb hts hin3 hown hK hP 0 rfl rfl 8 (by decide) fl42 (fun _ h9 => h9) rfl dX3_addToLeast_30 ?_
        refine va_get (D := D) (ci := 1) (v := .int (nI X.length)) (C := RX2) (T := TX2) (N := 2) hx hb hts hin2 hown hK hP 6 rfl rfl 1 (by decide) fl65 (fun _ h9 => h9) rfl dX3_addToLeast_33 ?_
        refine wk_icmp_ge (tgt := 103) hx hb (by omega) (by omega) dX3_addToLeast_36 (by decide) (fun c36 => ?_) (fun c36 => ?_)
        · skip
          have hkX : k = X.length := by omega
          subst hkX
          obtain ⟨rfl, rfl, hl9⟩ := al2_end ha ho
          have hfl := List.length_filter_le (adF x) X
          refine lv_aload_n hx hb dX3_addToLeast_103 rfl (lv_at hl 0 rfl) ?_
          refine va_get (D := D) (ci := 2) (v := .ref (sa 8)) (C := RX3) (T := TX3) (N := 13) hx hb hts hin3 hown hK hP 0 rfl rfl 8 (by decide) fl42 (fun _ h9 => h9) rfl dX3_addToLeast_104 ?_
          refine lv_iload_n hx hb dX3_addToLeast_107 rfl (lv_at hl 2 rfl) ?_
          refine va_put (D := D) (ci := 1) (v := .int (nI ((X.filter (adF x)).length))) (ty := .int) (C := RX2) (T := TX2) (N := 2) hx hb hts hin2 tyX2 tyX2_ok nmX2 hown hK hP hD hS 6 rfl rfl 1 (by decide) fl65 (fun _ h9 => h9) rfl (by decide +kernel) rfl rfl (Nat.le_of_ble_eq_true rfl) dX3_addToLeast_108 (fun H locs hP hD hS => ?_)
          have hP : va_P D vwCl (sw cI cJ sa e0 e1 e4 e5 (nI old) e12 c2 c3 t6 t7 c11 (nI ((X.filter (adF x)).length)) q8 l8 f n10 q10 l10 p10) H := hP
          have hD : va_D A (sw cI cJ sa e0 e1 e4 e5 (nI old) e12 c2 c3 t6 t7 c11 (nI ((X.filter (adF x)).length)) q8 l8 f n10 q10 l10 p10) := hD
          refine lv_aload_n hx hb dX3_addToLeast_111 rfl (lv_at hl 0 rfl) ?_
          refine lv_iload hx hb dX3_addToLeast_112 (lv_at hl 3 rfl) ?_
          refine va_put (D := D) (ci := 2) (v := .int (nI (((X.take old).filter (adF x)).length))) (ty := .int) (C := RX3) (T := TX3) (N := 13) hx hb hts hin3 tyX3 tyX3_ok nmX3 hown hK hP hD hS 0 rfl rfl 9 (by decide) fl46 (fun _ h9 => h9) rfl (by decide +kernel) rfl rfl (Nat.le_of_ble_eq_true rfl) dX3_addToLeast_114 (fun H locs hP hD hS => ?_)
          have hP : va_P D vwCl (sw cI cJ sa e0 e1 e4 e5 (nI (((X.take old).filter (adF x)).length)) e12 c2 c3 t6 t7 c11 (nI ((X.filter (adF x)).length)) q8 l8 f n10 q10 l10 p10) H := hP
          have hD : va_D A (sw cI cJ sa e0 e1 e4 e5 (nI (((X.take old).filter (adF x)).length)) e12 c2 c3 t6 t7 c11 (nI ((X.filter (adF x)).length)) q8 l8 f n10 q10 l10 p10) := hD
          refine lv_aload_n hx hb dX3_addToLeast_117 rfl (lv_at hl 0 rfl) ?_
          refine va_get (D := D) (ci := 2) (v := .ref (sa 8)) (C := RX3) (T := TX3) (N := 13) hx hb hts hin3 hown hK hP 0 rfl rfl 8 (by decide) fl42 (fun _ h9 => h9) rfl dX3_addToLeast_118 ?_
          refine lv_lload_n hx hb dX3_addToLeast_121 rfl (lv_at hl 1 rfl) ?_
          refine wk_VvW (As := [.long x]) (rest := []) (wr := [((sa 0), .inr (2, [.int e0, .int e1, .ref (sa 2), .ref (sa 3), .long e4, .int e5, .ref (sa 6), .ref (sa 7), .ref (sa 8), .int (nI (((X.take old).filter (adF x)).length)), .ref (sa 10), .ref (sa 11), .int e12])), ((sa 2), .inl (cI, 61, .inl c2)), ((sa 3), .inl (cI, 60, .inl c3)), ((sa 6), .inl (cJ, 6, .inr (.inl t6))), ((sa 7), .inl (cJ, 6, .inr (.inl t7))), ((sa 11), .inl (cI, 61, .inl c11)), ((sa 10), .inr (1, [.ref q10, .int n10])), (q10, .inl (cJ, l10, .inr (.inl p10)))]) ⟨hx, hb, hml, hown, hts⟩ (c_X2_add l D cI cJ cZ cA H.size (sa 8) q8 l8 f (X.filter (adF x)) x hl9 (by omega) (by omega) h0) (cwV 1 hts gX3_addToLeast_X2_add rfl rfl rfl (by decide +kernel) ⟨Nat.le_of_ble_eq_true rfl, Nat.le_of_ble_eq_true rfl⟩) hK hP hD hA [6, 7] rfl (by decide) [0, 1, 2, 3, 4, 5, 8, 9] rfl (by decide) (by decide) 0 1 rfl rfl hS rfl hl.1 rfl (Nat.le_of_ble_eq_true rfl) dX3_addToLeast_122 ⟨by show 0 + dC9 _ _ ≤ dC9 _ _; rw [haL]; omega, by show 0 + dS9 _ _ ≤ dS9 _ _; rw [haL]; omega⟩ (fun u9 H locs hu hP hD hS => ?_)
          have hP : va_P D vwCl (sw cI cJ sa e0 e1 e4 e5 (nI (((X.take old).filter (adF x)).length)) e12 c2 c3 t6 t7 c11 (nI ((X.filter (adF x)).length + 1)) u9.1 (grL (X.filter (adF x)).length l8) u9.2 n10 q10 l10 p10) H := hP.sub [0, 1, 2, 3, 4, 5, 8, 9, 6, 7] rfl
          have hD : va_D A (sw cI cJ sa e0 e1 e4 e5 (nI (((X.take old).filter (adF x)).length)) e12 c2 c3 t6 t7 c11 (nI ((X.filter (adF x)).length + 1)) u9.1 (grL (X.filter (adF x)).length l8) u9.2 n10 q10 l10 p10) := hD.sub [0, 1, 2, 3, 4, 5, 8, 9, 6, 7] (by decide) rfl
          exact hret u9 _ _ _ _ _ _ (by rw [adX, if_neg hT]; exact hu) (by rw [adX, adO, adL, if_neg hT, if_neg hT, if_neg hT, List.length_append]; exact hP) (by rw [adX, adO, adL, if_neg hT, if_neg hT, if_neg hT, List.length_append]; exact hD) dX3_addToLeast_125 hS (by rw [haL]; omega) (by rw [haL]; omega)
        · skip
          obtain ⟨y, hy9⟩ : ∃ y, X[k]? = some y := ⟨_, List.getElem?_eq_getElem (by omega)⟩
          refine lv_aload_n hx hb dX3_addToLeast_39 rfl (lv_at hl 0 rfl) ?_
          refine va_get (D := D) (ci := 2) (v := .ref (sa 8)) (C := RX3) (T := TX3) (N := 13) hx hb hts hin3 hown hK hP 0 rfl rfl 8 (by decide) fl42 (fun _ h9 => h9) rfl dX3_addToLeast_40 ?_
          refine va_get (D := D) (ci := 1) (v := .ref q8) (C := RX2) (T := TX2) (N := 2) hx hb hts hin2 hown hK hP 6 rfl rfl 0 (by decide) fl106 (fun _ h9 => h9) rfl dX3_addToLeast_43 ?_
          refine lv_iload hx hb dX3_addToLeast_46 (lv_at hl 4 rfl) ?_
          refine wk_lald hx hb hK hP 7 1 rfl rfl (i := k) (by omega) (by omega) dX3_addToLeast_48 ?_
          rw [show (f k) = y from (ha.2.2.2 k y (Nat.le_refl k) hy9)]
          refine lv_lload_n hx hb dX3_addToLeast_49 rfl (lv_at hl 1 rfl) ?_
          refine wk_Si (As := [.long y, .long x]) (rest := []) ⟨hx, hb, hml, hown, hts⟩ (c_X1_isAtLeast l D cI cJ cZ cA y x) (va_cwS 2 hts gX3_addToLeast_X1_isAtLeast rfl rfl rfl (by decide +kernel) ⟨Nat.le_of_ble_eq_true rfl, Nat.le_of_ble_eq_true rfl⟩) hK hP [] rfl hS rfl hl.1 rfl (Nat.le_of_ble_eq_true rfl) dX3_addToLeast_50 ⟨Nat.zero_le _, Nat.zero_le _⟩ (fun H locs hP hS => ?_)
          refine wk_if_neb (tgt := 97) hx hb dX3_addToLeast_53 (by decide) (fun c53 => ?_) (fun c53 => ?_)
          · skip
            refine lv_iinc (v := (nI (k + 1))) (lv' := [(5, .int (nI (k + 1))), (0, .ref (sa 0)), (1, .long x), (3, .int (nI kp)), (4, .int (nI ok))]) hx hb dX3_addToLeast_97 hl (k := 4) rfl (by exact nI_1 _) (by decide) rfl (fun ls hl => ?_)
            refine lv_goto (tgt := 27) hx hb dX3_addToLeast_100 (by decide) ?_
            exact ih27 (k + 1) kp ok f (by omega) (by omega) (al2_skip ha hy9 c53) _ _ _ hP hD hS (lv_sub hl [1, 2, 3, 4, 0] rfl)
          · skip
            refine lv_aload_n hx hb dX3_addToLeast_56 rfl (lv_at hl 0 rfl) ?_
            refine va_get (D := D) (ci := 2) (v := .ref (sa 8)) (C := RX3) (T := TX3) (N := 13) hx hb hts hin3 hown hK hP 0 rfl rfl 8 (by decide) fl42 (fun _ h9 => h9) rfl dX3_addToLeast_57 ?_
            refine va_get (D := D) (ci := 1) (v := .ref q8) (C := RX2) (T := TX2) (N := 2) hx hb hts hin2 hown hK hP 6 rfl rfl 0 (by decide) fl106 (fun _ h9 => h9) rfl dX3_addToLeast_60 ?_
            refine lv_iload_n hx hb dX3_addToLeast_63 rfl (lv_at hl 2 rfl) ?_
            refine lv_aload_n hx hb dX3_addToLeast_64 rfl (lv_at hl 0 rfl) ?_
            refine va_get (D := D) (ci := 2) (v := .ref (sa 8)) (C := RX3) (T := TX3) (N := 13) hx hb hts hin3 hown hK hP 0 rfl rfl 8 (by decide) fl42 (fun _ h9 => h9) rfl dX3_addToLeast_65 ?_
            refine va_get (D := D) (ci := 1) (v := .ref q8) (C := RX2) (T := TX2) (N := 2) hx hb hts hin2 hown hK hP 6 rfl rfl 0 (by decide) fl106 (fun _ h9 => h9) rfl dX3_addToLeast_68 ?_
            refine lv_iload hx hb dX3_addToLeast_71 (lv_at hl 4 rfl) ?_
            refine wk_lald hx hb hK hP 7 1 rfl rfl (i := k) (by omega) (by omega) dX3_addToLeast_73 ?_
            rw [show (f k) = y from (ha.2.2.2 k y (Nat.le_refl k) hy9)]
            refine wk_last hx hb hK hP hD hS 7 1 rfl rfl (i := kp) (by omega) (by omega) dX3_addToLeast_74 (fun H locs hP hD hS => ?_)
            have hP : va_P D vwCl (sw cI cJ sa e0 e1 e4 e5 (nI old) e12 c2 c3 t6 t7 c11 (nI X.length) q8 l8 (vp_updL f kp y) n10 q10 l10 p10) H := hP
            have hD : va_D A (sw cI cJ sa e0 e1 e4 e5 (nI old) e12 c2 c3 t6 t7 c11 (nI X.length) q8 l8 (vp_updL f kp y) n10 q10 l10 p10) := hD
            refine lv_iinc (v := (nI (kp + 1))) (lv' := [(3, .int (nI (kp + 1))), (0, .ref (sa 0)), (1, .long x), (4, .int (nI ok)), (5, .int (nI k))]) hx hb dX3_addToLeast_75 hl (k := 2) rfl (by exact nI_1 _) (by decide) rfl (fun ls hl => ?_)
            refine lv_iload hx hb dX3_addToLeast_78 (lv_at hl 3 rfl) ?_
            refine lv_iload hx hb dX3_addToLeast_80 (lv_at hl 4 rfl) ?_
            refine lv_aload_n hx hb dX3_addToLeast_82 rfl (lv_at hl 1 rfl) ?_
            refine va_get (D := D) (ci := 2) (v := .int (nI old)) (C := RX3) (T := TX3) (N := 13) hx hb hts hin3 hown hK hP 0 rfl rfl 9 (by decide) fl46 (fun _ h9 => h9) rfl dX3_addToLeast_83 ?_
            refine wk_icmp_ge (tgt := 93) hx hb (by omega) (by omega) dX3_addToLeast_86 (by decide) (fun c86 => ?_) (fun c86 => ?_)
            · skip
              refine lv_iconst (v := nI 0) hx hb dX3_addToLeast_93 (by decide) ?_
              refine wk_iadd hx hb dX3_addToLeast_94 ?_
              refine lv_istore (lv' := [(4, .int (nI (ok + 0))), (3, .int (nI (kp + 1))), (0, .ref (sa 0)), (1, .long x), (5, .int (nI k))]) hx hb dX3_addToLeast_95 hl (by decide) rfl (fun ls hl => ?_)
              refine lv_iinc (v := (nI (k + 1))) (lv' := [(5, .int (nI (k + 1))), (4, .int (nI (ok + 0))), (3, .int (nI (kp + 1))), (0, .ref (sa 0)), (1, .long x)]) hx hb dX3_addToLeast_97 hl (k := 4) rfl (by exact nI_1 _) (by decide) rfl (fun ls hl => ?_)
              refine lv_goto (tgt := 27) hx hb dX3_addToLeast_100 (by decide) ?_
              exact ih27 (k + 1) (kp + 1) (ok + 0) (vp_updL f kp y) (by omega) (by omega) (by have h9 := al2_keep ha hy9 c53; rw [if_neg (show ¬ k < old by omega)] at h9; exact h9) _ _ _ hP hD hS (lv_sub hl [3, 4, 2, 1, 0] rfl)
            · skip
              refine lv_iconst (v := nI 1) hx hb dX3_addToLeast_89 (by decide) ?_
              refine lv_goto (tgt := 94) hx hb dX3_addToLeast_90 (by decide) ?_
              refine wk_iadd hx hb dX3_addToLeast_94 ?_
              refine lv_istore (lv' := [(4, .int (nI (ok + 1))), (3, .int (nI (kp + 1))), (0, .ref (sa 0)), (1, .long x), (5, .int (nI k))]) hx hb dX3_addToLeast_95 hl (by decide) rfl (fun ls hl => ?_)
              refine lv_iinc (v := (nI (k + 1))) (lv' := [(5, .int (nI (k + 1))), (4, .int (nI (ok + 1))), (3, .int (nI (kp + 1))), (0, .ref (sa 0)), (1, .long x)]) hx hb dX3_addToLeast_97 hl (k := 4) rfl (by exact nI_1 _) (by decide) rfl (fun ls hl => ?_)
              refine lv_goto (tgt := 27) hx hb dX3_addToLeast_100 (by decide) ?_
              exact ih27 (k + 1) (kp + 1) (ok + 1) (vp_updL f kp y) (by omega) (by omega) (by have h9 := al2_keep ha hy9 c53; rw [if_pos (show k < old by omega)] at h9; exact h9) _ _ _ hP hD hS (lv_sub hl [3, 4, 2, 1, 0] rfl)
    exact lp27 _ 0 0 0 p8 (Nat.lt_succ_self _) (by omega) (al2_0 hX) _ _ _ hP hD hS (lv_sub hl [3, 4, 2, 1, 0] rfl)
  · skip
    have hT : adT X x = true := by unfold adT; rw [← take_all (X := X)]; exact c15
    exact hret (q8, p8) _ _ _ _ _ _ (by rw [adX, if_pos hT]; exact hX) (by rw [adX, adO, adL, if_pos hT, if_pos hT, if_pos hT]; exact hP) (by rw [adX, adO, adL, if_pos hT, if_pos hT, if_pos hT]; exact hD) dX3_addToLeast_18 hS (Nat.zero_le _) (Nat.zero_le _)

set_option maxHeartbeats 4000000 in
set_option maxRecDepth 100000 in
theorem c_X3_endingOf (l : Launch) (D : va_G) (cI cJ cZ cA : ClassId) (sa : Nat → Nat) (e0 e1 e5 e12 n10 : Int32) (e4 : Int64) (c2 c3 c11 : Nat → Int32) (t6 t7 p8 p10 : Nat → Int64) (q8 l8 q10 l10 : Nat) (old ii : Nat) (X : List Int64) (hX : listV p8 X) (hXl : X.length ≤ l8) (hl8 : l8 ≤ 25000) (ho : old ≤ X.length) (hii : ii ≤ 60) : Met l yX3_endingOf wsX3_endingOf ({ frames := 2, cells := 0, slots := 0, locals := 47 } : Room) (ro_P D (tysC cI cJ cZ cA) [.ref (sa 0), .int (nI ii)] (sw cI cJ sa e0 e1 e4 e5 (nI old) e12 c2 c3 t6 t7 c11 (nI X.length) q8 l8 p8 n10 q10 l10 p10)) (ro_Q (endC X old e4 ii)) 0 0 (fun _ => False) := by
  refine met_ro (cc := cX3_endingOf) (maxL := 2) (ty := .int) (by decide) rfl (Nat.le_of_ble_eq_true rfl) rfl ?_
  intro p e s m args below meth c Q hx hb hml hown hts hP hK hret ls hl
  obtain ⟨H, hH9⟩ : ∃ H : Heap, H = s.heap := ⟨_, rfl⟩
  have hP : va_P D vwCl (sw cI cJ sa e0 e1 e4 e5 (nI old) e12 c2 c3 t6 t7 c11 (nI X.length) q8 l8 p8 n10 q10 l10 p10) H := by rw [hH9]; exact hP
  have hS : va_S (fun _ => False) s.heap H [] := by rw [hH9]; exact va_S.rf
  rw [← hH9]
  have hown : s.vm.findClass RX3 = some m.cls := hown
  have hin3 : ∀ w ∈ wsX30, w ∈ wsX3_endingOf := by decide +kernel
  have hin2 : ∀ w ∈ wsX20, w ∈ wsX3_endingOf := by decide +kernel
  have fl42 := hts (.fieldLink RX3 42 "CoverRounds$Search" "least" "LCoverRounds$Pile;") (by decide +kernel)
  have fl25 := hts (.fieldLink RX3 25 "CoverRounds$Search" "first" "J") (by decide +kernel)
  have fl65 := hts (.fieldLink RX3 65 "CoverRounds$Pile" "size" "I") (by decide +kernel)
  have fl46 := hts (.fieldLink RX3 46 "CoverRounds$Search" "oldCount" "I") (by decide +kernel)
  have hl : lv_has ls 2 [(0, .ref (sa 0)), (1, .int (nI ii))] := hl
  refine lv_aload_n hx hb dX3_endingOf_0 rfl (lv_at hl 0 rfl) ?_
  refine va_get (D := D) (ci := 2) (v := .ref (sa 8)) (C := RX3) (T := TX3) (N := 13) hx hb hts hin3 hown hK hP 0 rfl rfl 8 (by decide) fl42 (fun _ h9 => h9) rfl dX3_endingOf_1 ?_
  refine lv_aload_n hx hb dX3_endingOf_4 rfl (lv_at hl 0 rfl) ?_
  refine va_get (D := D) (ci := 2) (v := .long e4) (C := RX3) (T := TX3) (N := 13) hx hb hts hin3 hown hK hP 0 rfl rfl 4 (by decide) fl25 (fun _ h9 => h9) rfl dX3_endingOf_5 ?_
  refine lv_aload_n hx hb dX3_endingOf_8 rfl (lv_at hl 0 rfl) ?_
  refine va_get (D := D) (ci := 2) (v := .ref (sa 8)) (C := RX3) (T := TX3) (N := 13) hx hb hts hin3 hown hK hP 0 rfl rfl 8 (by decide) fl42 (fun _ h9 => h9) rfl dX3_endingOf_9 ?_
  refine va_get (D := D) (ci := 1) (v := .int (nI X.length)) (C := RX2) (T := TX2) (N := 2) hx hb hts hin2 hown hK hP 6 rfl rfl 1 (by decide) fl65 (fun _ h9 => h9) rfl dX3_endingOf_12 ?_
  refine wk_Vi (As := [.long e4, .int (nI X.length)]) (rest := []) ⟨hx, hb, hml, hown, hts⟩ (c_X2_hasOneBelow l D cI cJ cZ cA (sa 8) q8 l8 p8 X hX hXl (by omega) e4 X.length (by omega)) (cwV 2 hts gX3_endingOf_X2_hasOneBelow rfl rfl rfl (by decide +kernel) ⟨Nat.le_of_ble_eq_true rfl, Nat.le_of_ble_eq_true rfl⟩) hK hP [6, 7] rfl 0 1 rfl rfl hS rfl hl.1 rfl (Nat.le_of_ble_eq_true rfl) dX3_endingOf_15 ⟨Nat.zero_le _, Nat.zero_le _⟩ (fun H locs hP hS => ?_)
  refine wk_if_eqb (tgt := 23) hx hb dX3_endingOf_18 (by decide) (fun c18 => ?_) (fun c18 => ?_)
  · skip
    have hT : ¬ adT X e4 = true := by unfold adT; rw [← take_all (X := X), c18]; exact Bool.false_ne_true
    refine lv_aload_n hx hb dX3_endingOf_23 rfl (lv_at hl 0 rfl) ?_
    refine va_get (D := D) (ci := 2) (v := .ref (sa 8)) (C := RX3) (T := TX3) (N := 13) hx hb hts hin3 hown hK hP 0 rfl rfl 8 (by decide) fl42 (fun _ h9 => h9) rfl dX3_endingOf_24 ?_
    refine va_get (D := D) (ci := 1) (v := .int (nI X.length)) (C := RX2) (T := TX2) (N := 2) hx hb hts hin2 hown hK hP 6 rfl rfl 1 (by decide) fl65 (fun _ h9 => h9) rfl dX3_endingOf_27 ?_
    refine lv_sipush (v := nI 200) hx hb dX3_endingOf_30 (by decide) ?_
    refine wk_icmp_le (tgt := 38) hx hb (by omega) (by omega) dX3_endingOf_33 (by decide) (fun c33 => ?_) (fun c33 => ?_)
    · skip
      refine lv_aload_n hx hb dX3_endingOf_38 rfl (lv_at hl 0 rfl) ?_
      refine va_get (D := D) (ci := 2) (v := .int (nI old)) (C := RX3) (T := TX3) (N := 13) hx hb hts hin3 hown hK hP 0 rfl rfl 9 (by decide) fl46 (fun _ h9 => h9) rfl dX3_endingOf_39 ?_
      refine lv_aload_n hx hb dX3_endingOf_42 rfl (lv_at hl 0 rfl) ?_
      refine va_get (D := D) (ci := 2) (v := .ref (sa 8)) (C := RX3) (T := TX3) (N := 13) hx hb hts hin3 hown hK hP 0 rfl rfl 8 (by decide) fl42 (fun _ h9 => h9) rfl dX3_endingOf_43 ?_
      refine va_get (D := D) (ci := 1) (v := .int (nI X.length)) (C := RX2) (T := TX2) (N := 2) hx hb hts hin2 hown hK hP 6 rfl rfl 1 (by decide) fl65 (fun _ h9 => h9) rfl dX3_endingOf_46 ?_
      refine wk_icmp_ne (tgt := 54) hx hb (by omega) (by omega) dX3_endingOf_49 (by decide) (fun c49 => ?_) (fun c49 => ?_)
      · skip
        refine lv_iload_n hx hb dX3_endingOf_54 rfl (lv_at hl 1 rfl) ?_
        refine lv_bipush (v := nI 60) hx hb dX3_endingOf_55 (by decide) ?_
        refine wk_icmp_ne (tgt := 64) hx hb (by omega) (by omega) dX3_endingOf_57 (by decide) (fun c57 => ?_) (fun c57 => ?_)
        · skip
          refine lv_iconst (v := nI 2) hx hb dX3_endingOf_64 (by decide) ?_
          exact hret _ _ _ _ _ (by rw [endC, if_neg hT, if_neg (by omega), if_neg (by omega), if_neg (by omega)]) dX3_endingOf_65 hS
        · skip
          refine lv_iconst (v := -1) hx hb dX3_endingOf_60 (by decide) ?_
          refine lv_goto (tgt := 65) hx hb dX3_endingOf_61 (by decide) ?_
          exact hret _ _ _ _ _ (by rw [endC, if_neg hT, if_neg (by omega), if_neg (by omega), if_pos (by omega)]) dX3_endingOf_65 hS
      · skip
        refine lv_iconst (v := nI 0) hx hb dX3_endingOf_52 (by decide) ?_
        exact hret _ _ _ _ _ (by rw [endC, if_neg hT, if_neg (by omega), if_pos (by omega)]) dX3_endingOf_53 hS
    · skip
      refine lv_iconst (v := -1) hx hb dX3_endingOf_36 (by decide) ?_
      exact hret _ _ _ _ _ (by rw [endC, if_neg hT, if_pos (by omega)]) dX3_endingOf_37 hS
  · skip
    have hT : adT X e4 = true := by unfold adT; rw [← take_all (X := X)]; exact c18
    refine lv_iconst (v := nI 1) hx hb dX3_endingOf_21 (by decide) ?_
    exact hret _ _ _ _ _ (by rw [endC, if_pos hT]) dX3_endingOf_22 hS
