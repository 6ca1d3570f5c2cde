/-! CALLS OF MY OWN: a callee that writes nothing (ro_), a callee that writes its own cells (wr_) -/
abbrev tysC (cI cJ cZ cA : ClassId) : List (ClassId × FieldType) := [(cI, .int), (cJ, .long), (cZ, .boolean), (cA, .array .int)]
abbrev ro_P (D : va_G) (tys : List (ClassId × FieldType)) (av : List Value) (ws : va_W) : Array Value → State → Prop := va_Pc av (fun U => va_P D vwCl ws U.heap ∧ va_K D vwCl tys U)
abbrev ro_Q (ans : Int32) : Array Value → State → Outcome → State → Prop := va_Qi (fun (r : Int32) (_ : Unit) => r = ans) (fun _ _ => True) (fun _ => False)
abbrev ro_QL (ans : Int64) : Array Value → State → Outcome → State → Prop := va_Ql (fun (r : Int64) (_ : Unit) => r = ans) (fun _ _ => True) (fun _ => False)
abbrev wr_P (D : va_G) (tys : List (ClassId × FieldType)) (av : List Value) (ws : va_W) (sz : Nat) : Array Value → State → Prop := va_Pc av (fun U => U.heap.size = sz ∧ va_P D vwCl ws U.heap ∧ va_K D vwCl tys U ∧ va_D (fun _ => True) ws)
abbrev wr_Qv (D : va_G) {S : Type} (ws : va_W) (sz : Nat) (post : S → Prop) (w1 : S → va_W) : Array Value → State → Outcome → State → Prop := va_Qv post (fun u t => va_P D vwCl (w1 u) t.heap ∧ va_D (va_A ws sz) (w1 u)) (va_A ws sz)
abbrev wr_Qi (D : va_G) {S : Type} (ws : va_W) (sz : Nat) (post : Int32 → S → Prop) (w1 : S → va_W) : Array Value → State → Outcome → State → Prop := va_Qi post (fun u t => va_P D vwCl (w1 u) t.heap ∧ va_D (va_A ws sz) (w1 u)) (va_A ws sz)
theorem ro_blind {D : va_G} {tys : List (ClassId × FieldType)} {av : List Value} {ws : va_W} : FrameBlind (ro_P D tys av ws) := fun a U g mk q => by
  obtain ⟨q0, qP, qK⟩ := q
  exact ⟨q0, qP, va_K.moved (u := U) (U := U.calling g mk a) (Vm.Alike.refl U.vm) qK⟩
theorem wr_blind {D : va_G} {tys : List (ClassId × FieldType)} {av : List Value} {ws : va_W} {sz : Nat} : FrameBlind (wr_P D tys av ws sz) := fun a U g mk q => by
  obtain ⟨q0, q1, qP, qK, qD⟩ := q
  exact ⟨q0, q1, qP, va_K.moved (u := U) (U := U.calling g mk a) (Vm.Alike.refl U.vm) qK, qD⟩
section WC
variable {p : Program} {l : Launch} {e : Env} {R : Room} {s : State} {m : MethodId} {args : Array Value} {below : List Frame} {meth : Method} {c : Code} {H : Heap} {locs : List Loc} {cells slots : Nat} {Q : State → Prop}
variable {cc : ByteArray} {pc : Nat} {ls : Array Slot} {rest : List Value} {D : va_G} {A : Nat → Prop} {tys : List (ClassId × FieldType)} {ws : va_W} {H0 : Heap}
variable {y : MethodName} {bytes : ByteArray} {maxL nL n index : Nat} {ret : Option FieldType} {wsy : List Cond} {rm : Room} {Ts : List Cond} {own C : String} {b : Nat} {As : List Value} {wc wr : va_W} {st : List Value} {fs : List Value} {qc : u_T × Nat}
theorem wk_Vi {ans : Int32} (S : CallFix p m c cc nL s args Ts own)
    (hM : Met l y wsy rm (ro_P D tys (.ref b :: As) wc) (ro_Q ans) 0 0 (fun _ => False)) (cw : CallW R s args own C index y bytes maxL ret wsy rm 0 0 n)
    (hK : va_K D vwCl tys s) (hP : va_P D vwCl ws H) (is : List Nat) (hs : is.filterMap (fun i => ws[i]?) = wc) (q0 ci : Nat) (hc : vwCl[ci]? = some (C, qc)) (he : wc[q0]? = some (b, .inr (ci, fs)))
    (hS : va_S A H0 H locs) (hn : As.length = n) (hsize : ls.size = nL) (hstack : st = As.reverse ++ .ref b :: rest) (hW : (rest.map fun v => v.category).sum ≤ 8) (hdg : decode cc pc = .ok (.invokevirtual index, 3)) (hf : cells ≤ R.cells ∧ slots ≤ R.slots)
    (kk : ∀ (H1 : Heap) (locs1 : List Loc), va_P D vwCl ws H1 → va_S A H0 H1 locs1 → W p l e R s m args below meth c H1 locs1 cells slots Q (F0 m (pc + 3) ls (.int ans :: rest))) : W p l e R s m args below meth c H locs cells slots Q (F0 m pc ls st) := by
  refine va_calli (va_runV S hM cw ⟨ro_blind, va_recv hK (hP.sub is hs) hc he, fun U hU hW9 => ⟨rfl, by rw [hU]; exact hP.sub is hs, va_K.moved hW9.alike hK⟩⟩ rfl hn hsize hstack (lv_room hW) hdg hf) hS (fun q _ h => absurd h id) (fun q h => absurd h id) (fun r u t H1 locs1 ht hvm hw hB hz hk hS1 => ?_)
  subst hw
  exact kk H1 locs1 (wk_same hP hk) hS1
theorem wk_Si {ans : Int32} (S : CallFix p m c cc nL s args Ts own)
    (hM : Met l y wsy rm (ro_P D tys As wc) (ro_Q ans) 0 0 (fun _ => False)) (cw : CallB R s args own index y bytes maxL ret wsy rm 0 0 n ∧ (Cond.static y).before args s = true)
    (hK : va_K D vwCl tys s) (hP : va_P D vwCl ws H) (is : List Nat) (hs : is.filterMap (fun i => ws[i]?) = wc)
    (hS : va_S A H0 H locs) (hn : As.length = n) (hsize : ls.size = nL) (hstack : st = As.reverse ++ rest) (hW : (rest.map fun v => v.category).sum ≤ 8) (hdg : decode cc pc = .ok (.invokestatic index, 3)) (hf : cells ≤ R.cells ∧ slots ≤ R.slots)
    (kk : ∀ (H1 : Heap) (locs1 : List Loc), va_P D vwCl ws H1 → va_S A H0 H1 locs1 → W p l e R s m args below meth c H1 locs1 cells slots Q (F0 m (pc + 3) ls (.int ans :: rest))) : W p l e R s m args below meth c H locs cells slots Q (F0 m pc ls st) := by
  refine va_calli (va_runS S hM cw ⟨ro_blind, fun U hU hW9 => ⟨rfl, by rw [hU]; exact hP.sub is hs, va_K.moved hW9.alike hK⟩⟩ rfl hn hsize hstack (lv_room hW) hdg hf) hS (fun q _ h => absurd h id) (fun q h => absurd h id) (fun r u t H1 locs1 ht hvm hw hB hz hk hS1 => ?_)
  subst hw
  exact kk H1 locs1 (wk_same hP hk) hS1
theorem wk_Sl {ans : Int64} (S : CallFix p m c cc nL s args Ts own)
    (hM : Met l y wsy rm (ro_P D tys As wc) (ro_QL ans) 0 0 (fun _ => False)) (cw : CallB R s args own index y bytes maxL ret wsy rm 0 0 n ∧ (Cond.static y).before args s = true)
    (hK : va_K D vwCl tys s) (hP : va_P D vwCl ws H) (is : List Nat) (hs : is.filterMap (fun i => ws[i]?) = wc)
    (hS : va_S A H0 H locs) (hn : As.length = n) (hsize : ls.size = nL) (hstack : st = As.reverse ++ rest) (hW : (rest.map fun v => v.category).sum ≤ 8) (hdg : decode cc pc = .ok (.invokestatic index, 3)) (hf : cells ≤ R.cells ∧ slots ≤ R.slots)
    (kk : ∀ (H1 : Heap) (locs1 : List Loc), va_P D vwCl ws H1 → va_S A H0 H1 locs1 → W p l e R s m args below meth c H1 locs1 cells slots Q (F0 m (pc + 3) ls (.long ans :: rest))) : W p l e R s m args below meth c H locs cells slots Q (F0 m pc ls st) := by
  refine va_calll (va_runS S hM cw ⟨ro_blind, fun U hU hW9 => ⟨rfl, by rw [hU]; exact hP.sub is hs, va_K.moved hW9.alike hK⟩⟩ rfl hn hsize hstack (lv_room hW) hdg hf) hS (fun q _ h => absurd h id) (fun q h => absurd h id) (fun r u t H1 locs1 ht hvm hw hB hz hk hS1 => ?_)
  subst hw
  exact kk H1 locs1 (wk_same hP hk) hS1
theorem wk_VvW {S9 : Type} {post : S9 → Prop} {w1 : S9 → va_W} {mc ms : Nat} (S : CallFix p m c cc nL s args Ts own)
    (hM : Met l y wsy rm (wr_P D tys (.ref b :: As) wc H.size) (wr_Qv D wc H.size post w1) mc ms (va_A wc H.size)) (cw : CallW R s args own C index y bytes maxL ret wsy rm mc ms n)
    (hK : va_K D vwCl tys s) (hP : va_P D vwCl ws H) (hD : va_D A ws) (hA : ∀ q, H0.size ≤ q → A q) (is : List Nat) (hs : is.map (fun i => ws[i]?) = wc.map some) (hnd : va_nd is = true) (isR : List Nat) (hsR : isR.map (fun i => ws[i]?) = wr.map some) (hndR : va_nd isR = true) (hdis : ∀ i ∈ isR, i ∉ is) (q0 ci : Nat) (hc : vwCl[ci]? = some (C, qc)) (he : wc[q0]? = some (b, .inr (ci, fs)))
    (hS : va_S A H0 H locs) (hn : As.length = n) (hsize : ls.size = nL) (hstack : st = As.reverse ++ .ref b :: rest) (hW : (rest.map fun v => v.category).sum ≤ 8) (hdg : decode cc pc = .ok (.invokevirtual index, 3)) (hf : cells + mc ≤ R.cells ∧ slots + ms ≤ R.slots)
    (kk : ∀ (u : S9) (H1 : Heap) (locs1 : List Loc), post u → va_P D vwCl (wr ++ w1 u) H1 → va_D A (wr ++ w1 u) → va_S A H0 H1 locs1 → W p l e R s m args below meth c H1 locs1 (cells + mc) (slots + ms) Q (F0 m (pc + 3) ls rest)) : W p l e R s m args below meth c H locs cells slots Q (F0 m pc ls st) := by
  have hfm : is.filterMap (fun i => ws[i]?) = wc := by
    have h := congrArg (List.filterMap id) hs
    rw [List.filterMap_map, List.filterMap_map] at h
    have h2 : List.filterMap (id ∘ some) wc = wc := List.filterMap_some
    exact h.trans h2
  have hPc := hP.sub is hfm
  have hDc := hD.sub is hnd hs
  have hFc := va_free (wc := wc) hD hS hA is hs
  refine va_callv (va_runV S hM cw ⟨wr_blind, va_recv hK hPc hc he, fun U hU hW9 => ⟨rfl, by rw [hU], by rw [hU]; exact hPc, va_K.moved hW9.alike hK, hDc.weaken (fun _ _ _ _ => trivial)⟩⟩ rfl hn hsize hstack (lv_room hW) hdg hf) hS (fun q _ h => hFc q h) hFc (fun u t H1 locs1 ht hvm hw hB hz hk hS1 => ?_)
  obtain ⟨hP1, hD1⟩ := hB
  rw [ht] at hP1
  obtain ⟨hP2, hD2⟩ := va_join (wr := wr) (w1 := w1 u) hP hD is isR hs hsR hndR hdis hk hFc hP1 hD1
  exact kk u H1 locs1 hw hP2 hD2 hS1
theorem wk_ViW {S9 : Type} {post : Int32 → S9 → Prop} {w1 : S9 → va_W} {mc ms : Nat} (S : CallFix p m c cc nL s args Ts own)
    (hM : Met l y wsy rm (wr_P D tys (.ref b :: As) wc H.size) (wr_Qi D wc H.size post w1) mc ms (va_A wc H.size)) (cw : CallW R s args own C index y bytes maxL ret wsy rm mc ms n)
    (hK : va_K D vwCl tys s) (hP : va_P D vwCl ws H) (hD : va_D A ws) (hA : ∀ q, H0.size ≤ q → A q) (is : List Nat) (hs : is.map (fun i => ws[i]?) = wc.map some) (hnd : va_nd is = true) (isR : List Nat) (hsR : isR.map (fun i => ws[i]?) = wr.map some) (hndR : va_nd isR = true) (hdis : ∀ i ∈ isR, i ∉ is) (q0 ci : Nat) (hc : vwCl[ci]? = some (C, qc)) (he : wc[q0]? = some (b, .inr (ci, fs)))
    (hS : va_S A H0 H locs) (hn : As.length = n) (hsize : ls.size = nL) (hstack : st = As.reverse ++ .ref b :: rest) (hW : (rest.map fun v => v.category).sum ≤ 8) (hdg : decode cc pc = .ok (.invokevirtual index, 3)) (hf : cells + mc ≤ R.cells ∧ slots + ms ≤ R.slots)
    (kk : ∀ (r : Int32) (u : S9) (H1 : Heap) (locs1 : List Loc), post r u → va_P D vwCl (wr ++ w1 u) H1 → va_D A (wr ++ w1 u) → va_S A H0 H1 locs1 → W p l e R s m args below meth c H1 locs1 (cells + mc) (slots + ms) Q (F0 m (pc + 3) ls (.int r :: rest))) : W p l e R s m args below meth c H locs cells slots Q (F0 m pc ls st) := by
  have hfm : is.filterMap (fun i => ws[i]?) = wc := by
    have h := congrArg (List.filterMap id) hs
    rw [List.filterMap_map, List.filterMap_map] at h
    have h2 : List.filterMap (id ∘ some) wc = wc := List.filterMap_some
    exact h.trans h2
  have hPc := hP.sub is hfm
  have hDc := hD.sub is hnd hs
  have hFc := va_free (wc := wc) hD hS hA is hs
  refine va_calli (va_runV S hM cw ⟨wr_blind, va_recv hK hPc hc he, fun U hU hW9 => ⟨rfl, by rw [hU], by rw [hU]; exact hPc, va_K.moved hW9.alike hK, hDc.weaken (fun _ _ _ _ => trivial)⟩⟩ rfl hn hsize hstack (lv_room hW) hdg hf) hS (fun q _ h => hFc q h) hFc (fun r u t H1 locs1 ht hvm hw hB hz hk hS1 => ?_)
  obtain ⟨hP1, hD1⟩ := hB
  rw [ht] at hP1
  obtain ⟨hP2, hD2⟩ := va_join (wr := wr) (w1 := w1 u) hP hD is isR hs hsR hndR hdis hk hFc hP1 hD1
  exact kk r u H1 locs1 hw hP2 hD2 hS1
end WC
