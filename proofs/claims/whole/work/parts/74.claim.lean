/-! THE CLAIM OUT OF ONE WALK OF THE LAW'S BODY. Your part is whole_start (and what it stands on); all else here is the same for every law, but numbers. -/
def R_law : String := "CoverRoundsLaw"
def lw_P (b : Addr) (xs : List Int32) (args : Array Value) (s : State) : Prop := args = #[.ref b] ∧ s.IntsAt b xs ∧ xs.length ≤ 2560 ∧ (Jvm.Cond.and given_1 narrow_1).before args s = true
def lw_Q (_ : Array Value) (s : State) (o : Outcome) (t : State) : Prop := o = .returned (some (.int 1)) ∧ Framed s o t [] 600000 7302250
def lw_Z (below : List Frame) (a : Array Value) (s : State) : State → Prop := fun t => ∃ o, t.status = .running ∧ Ended t below o ∧ lw_Q a s o t
/-- the law's own end, with 1 on the stack, nothing written that was there before, its room as the claim has it -/
theorem lw_ret {p : Program} {l : Launch} {e : Env} {s : State} {m : MethodId} {below : List Frame} {meth : Method} {c : Code} {b : Nat} (hx : p.tables.exec = Jvm.exec) (hb : c.code = code) (hr : meth.sig.returnType = ret) (hlocks : meth.locks = false) {pc : Nat} {H : Heap} {ls : Array Slot} (hdg : decode code pc = .ok (.ireturn, 1)) : W p l e room_1 s m #[Value.ref b] below meth c H [] 600000 7302250 (lw_Z below #[Value.ref b] s) (F0 m pc ls [.int 1]) := by
  intro T hT X
  obtain ⟨fs, hret, hrun, hended, hW, hframe⟩ := X.leave (v := some (.int 1)) (hlocks := hlocks) (fun h => by rw [hr] at h; cases h)
  have hmeth' : T.vm.method? m = some meth := X.method'
  refine ⟨T.setFrames fs, ?_, .returned (some (.int 1)), hrun, hended, rfl, ⟨_, rfl⟩, hW, hframe⟩
  jvm_step X.here [X.here.top, hx, hb, hdg, hmeth', hr, ret, narrow_b1]
  (try refine ⟨rfl, ?_⟩); (try refine ⟨rfl, ?_⟩)
  first | (intro acts; rw [hret _ acts rfl rfl rfl]) | rw [hret _ _ rfl rfl rfl]
  exact Steps.refl _
/-- what holds at the law's entry: the machine, the code, the tables' words (any of lw_tbl by 'hts w (by decide +kernel)'), the script of L ints xs at the cell b, what the Statement gives of the start (any of its parts by flat_of_before) -/
def lw_At (p : Program) (s : State) (m : MethodId) (meth : Method) (c : Code) (b L : Nat) (xs : Nat → Int32) : Prop :=
  p.tables.exec = Jvm.exec ∧ c.code = code ∧ meth.sig.returnType = ret ∧ c.maxLocals = 4 ∧ s.vm.findClass R_law = some m.cls ∧ (∀ w ∈ lw_tbl, w.before #[Value.ref b] s = true) ∧ va_X b L xs s s.heap ∧ b < s.heap.size ∧ meth.locks = false ∧ (Jvm.Cond.and given_1 narrow_1).before #[Value.ref b] s = true
set_option maxHeartbeats 4000000 in
set_option maxRecDepth 100000 in
theorem whole_start {p : Program} {e : Env} {s : State} {m : MethodId} {below : List Frame} {meth : Method} {c : Code} (l : Launch) {b L : Nat} {xs : Nat → Int32} (hL : L ≤ 2560) (C0 : lw_At p s m meth c b L xs) : W p l e room_1 s m #[Value.ref b] below meth c s.heap [] 0 0 (lw_Z below #[Value.ref b] s) (entryFrame m ([Value.ref b] : List Value).toArray 4) := by
  obtain ⟨hx, hb, hr, hml, hown, hts0, hX, hbl, hlocks, hgv⟩ := id C0
  have hb : c.code = cL_law := hb
  have hown : s.vm.findClass RL = some m.cls := hown
  have hts : ∀ w ∈ wsL_law, w.before #[Value.ref b] s = true := fun w hw => hts0 w (wsL_law_in w hw)
  obtain ⟨A, hAe⟩ : ∃ A : Nat → Prop, A = fun q : Nat => s.heap.size ≤ q := ⟨_, rfl⟩
  have hA : ∀ q : Nat, s.heap.size ≤ q → A q := fun q h => by rw [hAe]; exact h
  have hbA : ¬ A b := by rw [hAe]; exact Nat.not_le.mpr hbl
  obtain ⟨dc0, iS0, hKn0⟩ := u_known (C := RX0) (T := TX0) (N := 6) (n := 6) hts0 inX0 (hts0 (.instantiable RX0 6) (by decide +kernel))
  obtain ⟨dc1, iS1, hKn1⟩ := u_known (C := RX2) (T := TX2) (N := 2) (n := 2) hts0 inX2 (hts0 (.instantiable RX2 2) (by decide +kernel))
  obtain ⟨dc2, iS2, hKn2⟩ := u_known (C := RX3) (T := TX3) (N := 13) (n := 13) hts0 inX3 (hts0 (.instantiable RX3 13) (by decide +kernel))
  obtain ⟨dc3, iS3, hKn3⟩ := u_known (C := RX4) (T := TX4) (N := 9) (n := 9) hts0 inX4 (hts0 (.instantiable RX4 9) (by decide +kernel))
  obtain ⟨dc4, iS4, hKn4⟩ := u_known (C := RX5) (T := TX5) (N := 4) (n := 4) hts0 inX5 (hts0 (.instantiable RX5 4) (by decide +kernel))
  obtain ⟨dc5, iS5, hKn5⟩ := u_known (C := RX6) (T := TX6) (N := 27) (n := 27) hts0 inX6 (hts0 (.instantiable RX6 27) (by decide +kernel))
  obtain ⟨D, hKc⟩ : ∃ D : va_G, ∀ (k : Nat) (q : vw_C), vwCl[k]? = some q → u_Kn s q.1 q.2.1 q.2.2 (D.1 k) (D.2 k) := by
    refine ⟨(fun k => if k = 0 then dc0 else if k = 1 then dc1 else if k = 2 then dc2 else if k = 3 then dc3 else if k = 4 then dc4 else dc5, fun k => if k = 0 then iS0 else if k = 1 then iS1 else if k = 2 then iS2 else if k = 3 then iS3 else if k = 4 then iS4 else iS5), ?_⟩
    intro k q hq
    match k, hq with
    | 0, hq => cases hq; exact hKn0
    | 1, hq => cases hq; exact hKn1
    | 2, hq => cases hq; exact hKn2
    | 3, hq => cases hq; exact hKn3
    | 4, hq => cases hq; exact hKn4
    | 5, hq => cases hq; exact hKn5
    | k + 6, hq => simp [vwCl] at hq
  obtain ⟨cI, hfI, haI⟩ := arr_of (hts0 (.arrayClass .int) (by decide +kernel))
  obtain ⟨cJ, hfJ, haJ⟩ := arr_of (hts0 (.arrayClass .long) (by decide +kernel))
  obtain ⟨cZ, hfZ, haZ⟩ := arr_of (hts0 (.arrayClass .boolean) (by decide +kernel))
  obtain ⟨cA, hfA, haA, hEg⟩ := grid_of (hts0 (.arrayOver (.array .int)) (by decide +kernel)) hfI
  have hK : va_K D vwCl (tysC cI cJ cZ cA) s := by
    refine ⟨hKc, fun k q h => ?_⟩
    match k, h with
    | 0, h => cases h; exact ⟨haI, hfI⟩
    | 1, h => cases h; exact ⟨haJ, hfJ⟩
    | 2, h => cases h; exact ⟨haZ, hfZ⟩
    | 3, h => cases h; exact ⟨haA, hfA⟩
    | k + 4, h => simp at h
  have hE : E_all cI cA s := ⟨hEg, va_Nw.of rfl (hts0 (.methodLinkNest RX3 41 yX2_init RX5) (by decide +kernel)), va_Nw.of rfl (hts0 (.methodLinkNest RX5 11 yX0_init RX5) (by decide +kernel)), va_Nw.of rfl (hts0 (.methodLinkNest RX5 22 yX3_init RX5) (by decide +kernel)), va_Nw.of rfl (hts0 (.methodLinkNest RX5 29 yX4_init RX5) (by decide +kernel))⟩
  have hC : LC p s m c #[Value.ref b] A D cI cJ cZ cA b L xs := ⟨hx, hb, hml, hown, hts, hK, hX, hbl, hbA, hA, hL⟩
  have hS : va_S A s.heap s.heap [] := va_S.rf
  have hP : va_P D vwCl [] s.heap := va_nil
  have hD : va_D A [] := ⟨fun i j p q h => by simp at h, fun k q h => by simp at h⟩
  have hl := lv_entry ([.ref b]) (n := 4) (Nat.le_of_ble_eq_true rfl)
  rw [lg_entry_eq]
  generalize (lg_sl ([.ref b]) ++ List.replicate (4 - (lg_sl ([.ref b])).length) Slot.unset).toArray = ls at hl ⊢
  have hl : lv_has ls 4 [(0, .ref b)] := hl
  obtain ⟨H, hH9⟩ : ∃ H : Heap, H = s.heap := ⟨_, rfl⟩
  have hP : va_P D vwCl [] H := by rw [hH9]; exact hP
  have hS : va_S A s.heap H [] := by rw [hH9]; exact hS
  rw [← hH9]
  refine va_new (ci := 4) (fs := [.null, .null, .null, .null]) (C := RX5) (T := TX5) (N := 4) hx hb hts inlX5 tyX5 tyX5_ok hown (hts (.classLink RL 7 RX5) (by decide +kernel)) (hts (.instantiable RX5 4) (by decide +kernel)) (hts (.initialized RX5) (by decide +kernel)) hK hP hD hS hA rfl (by decide) (Nat.le_of_ble_eq_true rfl) (Nat.le_of_ble_eq_true rfl) dL_law_0 (fun x0 H hP hD hS => ?_)
  have hP : va_P D vwCl [(x0, .inr (4, [.null, .null, .null, .null]))] H := hP
  have hD : va_D A [(x0, .inr (4, [.null, .null, .null, .null]))] := hD
  refine lv_dup hx hb dL_law_3 rfl ?_
  refine wk_Iv (As := []) (rest := [.ref x0]) (wr := []) ⟨hx, hb, hml, hown, hts⟩ (c_X5_init l D cI cJ cZ cA H.size x0) (cwI 0 hts gL_law_X5_init rfl rfl rfl (hts (.initialized RX5) (by decide +kernel)) (hts (.methodLink RL 9 yX5_init) (by decide +kernel)) (hts (.instanceMethod yX5_init) (by decide +kernel)) rfl (by decide +kernel) ⟨Nat.le_of_ble_eq_true rfl, Nat.le_of_ble_eq_true rfl⟩) E_all_same (fun _ hW9 => E_all_warm hW9 hE) hK hP hD hA [0] rfl (by decide) [] rfl (by decide) (by decide) hS rfl hl.1 rfl (Nat.le_of_ble_eq_true rfl) dL_law_4 ⟨Nat.le_of_ble_eq_true rfl, Nat.le_of_ble_eq_true rfl⟩ (fun u H locs _ hP hD hS => ?_)
  obtain ⟨bb, rt, rg, x1, sa, q8, q10, ta⟩ := u
  have hP : va_P D vwCl (nw cI cA bb rt rg (nI 0) (nI 0) (fun _ => 0) (fun _ => 0) (fun _ _ => 0) (fun _ _ => 0) ++ ([(x0, .inr (4, [.ref (bb 0), .ref x1, .ref (sa 0), .ref (ta 0)])), (x1, .inl (cI, 5, .inl (fun _ => 0)))] ++ (sw cI cJ sa (nI 2) (-1) 0 (nI 0) (nI 0) (nI 0) (fun _ => 0) (fun _ => 0) (fun _ => 0) (fun _ => 0) (fun _ => 0) (nI 0) q8 64 (fun _ => 0) (nI 0) q10 64 (fun _ => 0) ++ tw cI cZ ta (bI false) (nI 0) (nI 0) (nI 0) (fun _ => 0) (fun _ => 0) (fun _ => 0) (fun _ => 0) (fun _ => 0)))) H := hP
  have hD : va_D A (nw cI cA bb rt rg (nI 0) (nI 0) (fun _ => 0) (fun _ => 0) (fun _ _ => 0) (fun _ _ => 0) ++ ([(x0, .inr (4, [.ref (bb 0), .ref x1, .ref (sa 0), .ref (ta 0)])), (x1, .inl (cI, 5, .inl (fun _ => 0)))] ++ (sw cI cJ sa (nI 2) (-1) 0 (nI 0) (nI 0) (nI 0) (fun _ => 0) (fun _ => 0) (fun _ => 0) (fun _ => 0) (fun _ => 0) (nI 0) q8 64 (fun _ => 0) (nI 0) q10 64 (fun _ => 0) ++ tw cI cZ ta (bI false) (nI 0) (nI 0) (nI 0) (fun _ => 0) (fun _ => 0) (fun _ => 0) (fun _ => 0) (fun _ => 0)))) := hD
  refine lv_astore_n (lv' := [(1, .ref x0), (0, .ref b)]) hx hb dL_law_7 rfl hl (by decide) rfl (fun ls hl => ?_)
  refine va_new (ci := 5) (fs := [.int 0, .null, .null, .int 0, .null, .null, .null, .int 0, .int 0, .int 0, .null, .null, .null, .int 0, .null, .int 0, .null, .int 0, .int 0, .int 0, .null, .null, .int 0, .int 0, .null, .null, .null]) (C := RX6) (T := TX6) (N := 27) hx hb hts inlX6 tyX6 tyX6_ok hown (hts (.classLink RL 10 RX6) (by decide +kernel)) (hts (.instantiable RX6 27) (by decide +kernel)) (hts (.initialized RX6) (by decide +kernel)) hK hP hD hS hA rfl (by decide) (Nat.le_of_ble_eq_true rfl) (Nat.le_of_ble_eq_true rfl) dL_law_8 (fun m0 H hP hD hS => ?_)
  refine lv_dup hx hb dL_law_11 rfl ?_
  refine wk_Iv (As := []) (rest := [.ref m0]) (wr := [((bb 0), .inr (0, [.int (nI 0), .int (nI 0), .ref (bb 2), .ref (bb 3), .ref (bb 4), .ref (bb 5)])), ((bb 2), .inl (cI, 5, .inl (fun _ => 0))), ((bb 3), .inl (cI, 5, .inl (fun _ => 0))), ((bb 4), .inl (cA, 6, .inr (.inr (.inr (.inr (rfA rt)))))), ((bb 5), .inl (cA, 6, .inr (.inr (.inr (.inr (rfA rg)))))), ((rt 0), .inl (cI, 5, .inl ((fun _ _ => 0) 0))), ((rt 1), .inl (cI, 5, .inl ((fun _ _ => 0) 1))), ((rt 2), .inl (cI, 5, .inl ((fun _ _ => 0) 2))), ((rt 3), .inl (cI, 5, .inl ((fun _ _ => 0) 3))), ((rt 4), .inl (cI, 5, .inl ((fun _ _ => 0) 4))), ((rt 5), .inl (cI, 5, .inl ((fun _ _ => 0) 5))), ((rg 0), .inl (cI, 5, .inl ((fun _ _ => 0) 0))), ((rg 1), .inl (cI, 5, .inl ((fun _ _ => 0) 1))), ((rg 2), .inl (cI, 5, .inl ((fun _ _ => 0) 2))), ((rg 3), .inl (cI, 5, .inl ((fun _ _ => 0) 3))), ((rg 4), .inl (cI, 5, .inl ((fun _ _ => 0) 4))), ((rg 5), .inl (cI, 5, .inl ((fun _ _ => 0) 5))), (x0, .inr (4, [.ref (bb 0), .ref x1, .ref (sa 0), .ref (ta 0)])), (x1, .inl (cI, 5, .inl (fun _ => 0))), ((sa 0), .inr (2, [.int (nI 2), .int (-1), .ref (sa 2), .ref (sa 3), .long 0, .int (nI 0), .ref (sa 6), .ref (sa 7), .ref (sa 8), .int (nI 0), .ref (sa 10), .ref (sa 11), .int (nI 0)])), ((sa 2), .inl (cI, 61, .inl (fun _ => 0))), ((sa 3), .inl (cI, 60, .inl (fun _ => 0))), ((sa 6), .inl (cJ, 6, .inr (.inl (fun _ => 0)))), ((sa 7), .inl (cJ, 6, .inr (.inl (fun _ => 0)))), ((sa 11), .inl (cI, 61, .inl (fun _ => 0))), ((sa 8), .inr (1, [.ref q8, .int (nI 0)])), (q8, .inl (cJ, 64, .inr (.inl (fun _ => 0)))), ((sa 10), .inr (1, [.ref q10, .int (nI 0)])), (q10, .inl (cJ, 64, .inr (.inl (fun _ => 0)))), ((ta 0), .inr (3, [.int (bI false), .int (nI 0), .int (nI 0), .int (nI 0), .ref (ta 4), .ref (ta 5), .ref (ta 6), .ref (ta 7), .ref (ta 8)])), ((ta 4), .inl (cZ, 6, .inl (fun _ => 0))), ((ta 5), .inl (cI, 5000, .inl (fun _ => 0))), ((ta 6), .inl (cI, 1000, .inl (fun _ => 0))), ((ta 7), .inl (cI, 1000, .inl (fun _ => 0))), ((ta 8), .inl (cI, 1000, .inl (fun _ => 0)))]) ⟨hx, hb, hml, hown, hts⟩ (c_X6_init l D cI cJ cZ cA H.size m0) (cwI 0 hts gL_law_X6_init rfl rfl rfl (hts (.initialized RX6) (by decide +kernel)) (hts (.methodLink RL 12 yX6_init) (by decide +kernel)) (hts (.instanceMethod yX6_init) (by decide +kernel)) rfl (by decide +kernel) ⟨Nat.le_of_ble_eq_true rfl, Nat.le_of_ble_eq_true rfl⟩) (fun _ _ _ h => h) (fun _ _ => trivial) hK hP hD hA [35] rfl (by decide) [0, 1, 2, 3, 4, 5, 6, 7, 8, 9, 10, 11, 12, 13, 14, 15, 16, 17, 18, 19, 20, 21, 22, 23, 24, 25, 26, 27, 28, 29, 30, 31, 32, 33, 34] rfl (by decide) (by decide) hS rfl hl.1 rfl (Nat.le_of_ble_eq_true rfl) dL_law_12 ⟨Nat.le_of_ble_eq_true rfl, Nat.le_of_ble_eq_true rfl⟩ (fun r H2 locs2 hr0 hP2 hD2 hS2 => ?_)
  subst hr0
  refine lv_astore_n (lv' := [(2, .ref (r 0)), (1, .ref x0), (0, .ref b)]) hx hb dL_law_15 rfl hl (by decide) rfl (fun ls hl => ?_)
  refine lv_iconst (v := nI 0) hx hb dL_law_16 (by decide) ?_
  refine lv_istore_n (lv' := [(3, .int (nI 0)), (2, .ref (r 0)), (1, .ref x0), (0, .ref b)]) hx hb dL_law_17 rfl hl (by decide) rfl (fun ls hl => ?_)
  have hP2 : va_P D vwCl (nw cI cA bb rt rg (nI 0) (nI 0) (fun _ => 0) (fun _ => 0) (fun _ _ => 0) (fun _ _ => 0) ++ ([(x0, .inr (4, [.ref (bb 0), .ref x1, .ref (sa 0), .ref (ta 0)])), (x1, .inl (cI, 5, .inl (fun _ => 0)))] ++ (sw cI cJ sa (nI 2) (-1) 0 (nI 0) (nI 0) (nI 0) (fun _ => 0) (fun _ => 0) (fun _ => 0) (fun _ => 0) (fun _ => 0) (nI 0) q8 64 (fun _ => 0) (nI 0) q10 64 (fun _ => 0) ++ (tw cI cZ ta (bI false) (nI 0) (nI 0) (nI 0) (fun _ => 0) (fun _ => 0) (fun _ => 0) (fun _ => 0) (fun _ => 0) ++ (mw cI r 0 0 (nI 2) 0 0 0 0 (bI false) 0 0 0 0 (fun _ => 0) (fun _ => 0) (fun _ => 0) (fun _ => 0) (fun _ => 0) (fun _ => 0) (fun _ => 0) (fun _ => 0) (fun _ => 0) (fun _ => 0) (fun _ => 0) (fun _ => 0) (fun _ => 0) (fun _ => 0) (fun _ => 0)))))) H2 := hP2
  have hD2 : va_D A (nw cI cA bb rt rg (nI 0) (nI 0) (fun _ => 0) (fun _ => 0) (fun _ _ => 0) (fun _ _ => 0) ++ ([(x0, .inr (4, [.ref (bb 0), .ref x1, .ref (sa 0), .ref (ta 0)])), (x1, .inl (cI, 5, .inl (fun _ => 0)))] ++ (sw cI cJ sa (nI 2) (-1) 0 (nI 0) (nI 0) (nI 0) (fun _ => 0) (fun _ => 0) (fun _ => 0) (fun _ => 0) (fun _ => 0) (nI 0) q8 64 (fun _ => 0) (nI 0) q10 64 (fun _ => 0) ++ (tw cI cZ ta (bI false) (nI 0) (nI 0) (nI 0) (fun _ => 0) (fun _ => 0) (fun _ => 0) (fun _ => 0) (fun _ => 0) ++ (mw cI r 0 0 (nI 2) 0 0 0 0 (bI false) 0 0 0 0 (fun _ => 0) (fun _ => 0) (fun _ => 0) (fun _ => 0) (fun _ => 0) (fun _ => 0) (fun _ => 0) (fun _ => 0) (fun _ => 0) (fun _ => 0) (fun _ => 0) (fun _ => 0) (fun _ => 0) (fun _ => 0) (fun _ => 0)))))) := hD2
  have hI : LI D A cI cJ cZ cA s bb rt rg sa ta r x0 x1 0 H2 locs2 51 91691 := ⟨q8, q10, 0, 0, 64, 64, (fun _ => 0), (fun _ => 0), (fun _ => 0), (fun _ _ => 0), (fun _ _ => 0), (nI 2), (-1), (nI 0), (nI 0), (nI 0), (nI 0), (nI 0), 0, (fun _ => 0), (fun _ => 0), (fun _ => 0), (fun _ => 0), (fun _ => 0), (fun _ => 0), (fun _ => 0), false, (nI 0), (nI 0), (nI 0), (fun _ => 0), (fun _ => 0), (fun _ => 0), (fun _ => 0), (fun _ => 0), (nI 2), 0, 0, 0, 0, 0, 0, 0, 0, (fun _ => 0), (fun _ => 0), (fun _ => 0), (fun _ => 0), (fun _ => 0), (fun _ => 0), (fun _ => 0), (fun _ => 0), (fun _ => 0), (fun _ => 0), (fun _ => 0), (fun _ => 0), (fun _ => 0), (fun _ => 0), (fun _ => 0), hP2, hD2, hS2, ⟨by omega, by omega, vecR_0 _ _, vecR_0 _ _, fun _ _ => 0, fun _ _ => 0, fun t ht q hq => ⟨rfl, rfl, rfl, rfl, Nat.zero_le _, Nat.zero_le _, fun _ => ⟨rfl, rfl⟩⟩⟩, vecR_0 _ _, Or.inl ⟨rfl, rfl, rfl, rfl⟩, treR_f, ⟨by omega, by omega, by omega, by omega, dbl_r (by omega), dbl_r (by omega), by decide, by decide⟩⟩
  refine law_loop (cn := 0) hC (fun H locs k n ls hS hk hn => ?_) (L + 6) 0 (by omega) (by omega) H2 locs2 _ _ ls hI (lv_sub hl [3, 2, 1, 0] rfl)
  refine lv_iconst (v := 1) hx hb dL_law_476 (by decide) ?_
  refine W.widen (k := 600000) (n := 7302250) (by omega) (by omega) ?_
  refine va_forget (fun q hq => by have h9 := hS.2.2 q hq; rw [hAe] at h9; exact h9) ?_
  exact lw_ret hx hb hr hlocks dL_law_477
set_option maxHeartbeats 4000000 in
theorem lw_walk (l : Launch) (b : Addr) (xs : List Int32) : MetFree l x (headSpec (Jvm.Cond.code x code maxLocals ret :: tables_1) room_1) (lw_P b xs) (fun _ _ _ _ _ => True) lw_Q := by
  refine MetFree.of_bodyS (code := code) (maxLocals := maxLocals) (ret := ret) (by decide) ?_ ?_
  · intro args s m h hn
    obtain ⟨meth, c, h1, h2, h3, h4, h5, h6, -, -⟩ := Cond.code_spec hn (atoms_spec (ws := Jvm.Cond.code x code maxLocals ret :: tables_1) h _ List.mem_cons_self)
    exact ⟨meth, c, h1, h2, h3, h4, h5, h6⟩
  · intro p e s m args below meth c s₁ B hml0 hP _
    obtain ⟨rfl, hx, hbd, hgv⟩ := hP
    obtain ⟨scr, harrAt, hlist, hof, hsmall⟩ := hx
    obtain ⟨hcb, hkn, -, -⟩ := State.arrayAt?_spec harrAt
    have hown : s.vm.findClass R_law = some m.cls := findClass_of_methodNamed B.named
    have hts0 : ∀ c ∈ (Jvm.Cond.code x code maxLocals ret :: tables_1), c.before #[Value.ref b] s = true := atoms_spec (ws := Jvm.Cond.code x code maxLocals ret :: tables_1) B.pre
    have hts : ∀ w ∈ lw_tbl, w.before #[Value.ref b] s = true := k2_hts_sels lw_privs (fun w hw => hts0 w (List.mem_cons_of_mem _ hw)) lw_privs_ok
    have hml : c.maxLocals = 4 := B.maxLocals_eq (hts0 _ List.mem_cons_self)
    have X₀ : Stand p l e room_1 s m #[Value.ref b] below meth c s₁ [] 0 0 := Stand.of_body B
    have hh0 : s₁.heap = s.heap := by rw [B.state]; rfl
    have hsz : scr.slots.size = xs.length := by rw [← Array.length_toList, hlist, List.length_map]
    have hval : ∀ j : Nat, j < xs.length → scr.slots[j]? = some (.int (xs.getD j 0)) := fun j hj => by
      rw [← Array.getElem?_toList, hlist]
      simp [hj]
    have hbl : b < s.heap.size := (Array.getElem?_eq_some_iff.mp hcb).1
    have hX : va_X b xs.length (fun j => xs.getD j 0) s s.heap := ⟨scr, hcb, hof, hkn, hsz, hval⟩
    have K : W p l e room_1 s m #[Value.ref b] below meth c s₁.heap [] 0 0 (lw_Z below #[Value.ref b] s) (entryFrame m ([Value.ref b] : List Value).toArray 4) := by
      rw [hh0]
      exact whole_start l hbd ⟨B.exec, B.bytes, B.returns, hml, hown, hts, hX, hbl, B.notSynchronized, hgv⟩
    obtain ⟨t, a1, o, b1, b2, b3⟩ := K s₁ rfl X₀
    exact ⟨t, o, a1, b1, b2, b3⟩
theorem lw_pre_spec {args : Array Value} {s : State} (h : (Jvm.Cond.and given_1 narrow_1).before args s = true) (hr : rest_1_c.before args s = true) : ∃ (b : Addr) (xs : List Int32), lw_P b xs args s := by
  have hs := flat_of_before _ h
  have hq := flat_of_before _ hr
  have hc : (Cond.count 1).before args s = true := hs _ (by decide +kernel)
  have harr : (Cond.arrayOf (.arg 0) .int).before args s = true := hs _ (by decide +kernel)
  have hle : (Cond.le (.length (.arg 0)) (.int 2560)).before args s = true := hs _ (by decide +kernel)
  have hlen : (Cond.isInt (.length (.arg 0))).before args s = true := hq _ (by decide +kernel)
  have hall : (Cond.all (.arg 0) (.isInt (.elem (.arg 0) (.index 0)))).before args s = true := hq _ (by decide +kernel)
  obtain ⟨b, xs, hb, hx⟩ := State.ints_of_pre rfl harr hlen hall
  have hsm : xs.length < 2 ^ 31 := hx.choose_spec.2.2.2
  have hev : (Term.length (.arg 0)).eval args s none [] s = some (.int xs.length.toInt32) := hx.length_eval hb
  have hv := Cond.le_ints hev (show (Term.int 2560).eval args s none [] s = some (.int 2560) from rfl)
  have hd : xs.length.toInt32 ≤ 2560 := by
    simpa [Cond.before, Cond.holds, hv] using hle
  have hN : xs.length ≤ 2560 := (Int32.ofNat_le_ofNat hsm (by decide)).mp (show Int32.ofNat xs.length ≤ Int32.ofNat 2560 from hd)
  exact ⟨b, xs, Cond.one_arg hc (show args[0]? = some (.ref b) from hb), hx, hN, h⟩
theorem lw_comes (l : Launch) : Comes l x (Jvm.Cond.code x code maxLocals ret :: tables_1) room_1 (fun tb e args s => Calls_1 tb e args s ∧ rest_1 tb e args s ∧ Pre_1 tb e args s)
    (fun _ _ args s o t => lw_Q args s o t) := by
  intro p e ha hc hk s m args below hf hfit hheap happ hpre
  obtain ⟨b, xs, hP⟩ := lw_pre_spec hpre.2.2 hpre.2.1
  obtain ⟨k, o, h1, h2, h3, hQ⟩ := lw_walk l b xs p e ha hc hk s m args below hf ((Spec.applies_iff_loose hf).mp happ).1 hP trivial
  exact ⟨k, o, h1, h2, h3, hQ⟩
theorem lw_frame {s t : State} {o : Outcome} {args : Array Value} (h : Framed s o t [] 600000 7302250) :
    Framed s o t (fieldLocs frame_1_writes args s ++ arrayLocs frame_1_arrays args s ++ staticLocs frame_1_statics s) 600000 7302250 := h
theorem lw_limb (L : Cond) (hL : ∀ (args : Array Value) (s t : State), L.after args s (.returned (some (.int 1))) t = true) :
    ArmFor flags0 classFile x code maxLocals ret World_1 tables_1 room_1 Calls_1 rest_1 Pre_1
      (fun tb e a s o t => postC L tb e a s o t ∧ Framed s o t (fieldLocs frame_1_writes a s ++ arrayLocs frame_1_arrays a s ++ staticLocs frame_1_statics s) 600000 7302250) := by
  intro l _ _ _ p e ha hc hk s m args below hf hfit hheap happ hpre
  obtain ⟨k, o, h1, h2, h3, rfl, hF⟩ := lw_comes l p e ha hc hk s m args below hf hfit hheap happ hpre
  exact ⟨k, _, h1, h2, h3, hL args s _, lw_frame hF⟩
theorem i_vc : Claimed_1_1 ∧ Claimed_1_2 := ⟨lw_limb limb_1_1 (fun args s t => by simp [limb_1_1, Cond.after, Cond.holds, Cond.value]), lw_limb limb_1_2 (fun args s t => Cond.after_iff.mpr (by
  first | (rw [show limb_1_2 = Cond.eq .result (.int 1) from rfl, Cond.eq_ints (x := 1) (y := 1) rfl rfl]; simp; done) | (simp [limb_1_2, Cond.value, Term.eval]; done)))⟩

