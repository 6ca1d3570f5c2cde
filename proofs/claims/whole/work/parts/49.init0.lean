/-! CONSTRUCTORS: contracts with a word E on the machine's tables -/
abbrev wrx_P (D : va_G) (tys : List (ClassId × FieldType)) (av : List Value) (ws : va_W) (sz : Nat) (E : State → Prop) : Array Value → State → Prop := va_Pc av (fun U => U.heap.size = sz ∧ va_P D vwCl ws U.heap ∧ va_K D vwCl tys U ∧ va_D (fun _ => True) ws ∧ E U)
theorem wrx_blind {D : va_G} {tys : List (ClassId × FieldType)} {av : List Value} {ws : va_W} {sz : Nat} {E : State → Prop} (hE : ∀ u U : State, u.vm = U.vm → E u → E U) : FrameBlind (wrx_P D tys av ws sz E) := fun a U g mk q => by
  obtain ⟨q0, q1, qP, qK, qD, qE⟩ := q
  exact ⟨q0, q1, qP, va_K.moved (u := U) (U := U.calling g mk a) (Vm.Alike.refl U.vm) qK, qD, hE U _ rfl qE⟩
theorem met_init {l : Launch} {y : MethodName} {ws ws' : List Cond} {rm : Room} {cc : ByteArray} {maxL : Nat} {D : va_G} {tys : List (ClassId × FieldType)} {av : List Value} {wsc : va_W} {sz : Nat} {E : State → Prop} {S9 : Type} {post : S9 → Prop} {w1 : S9 → va_W} {mc ms : Nat} (hy : plainName y.cls = true) (hyn : y.name = "<init>") (hw : ws = Cond.code y cc maxL none :: ws') (hlen : (lg_sl av).length ≤ maxL)
    (body : ∀ (p : Program) (e : Env) (s : State) (m : MethodId) (args : Array Value) (below : List Frame) (meth : Method) (c : Code) (Q : State → Prop) (A : Nat → Prop), p.tables.exec = Jvm.exec → c.code = cc → c.maxLocals = maxL → s.vm.findClass y.cls = some m.cls → meth.name = "<init>" → (∀ w ∈ ws, w.before args s = true) → va_P D vwCl wsc s.heap → va_K D vwCl tys s → va_D A wsc → (∀ q : Nat, s.heap.size ≤ q → A q) → E s →
      (∀ (u : S9) (H : Heap) (locs : List Loc) (pc : Nat) (ls : Array Slot) (k n : Nat), post u → va_P D vwCl (w1 u) H → va_D A (w1 u) → decode cc pc = .ok (.return_, 1) → va_S A s.heap H locs → k ≤ mc → n ≤ ms → W p l e rm s m args below meth c H locs k n Q (F0 m pc ls [])) →
      ∀ ls : Array Slot, lv_has ls maxL (lv_args 0 av) → W p l e rm s m args below meth c s.heap [] 0 0 Q (F0 m 0 ls [])) :
    Met l y ws rm (wrx_P D tys av wsc sz E) (wr_Qv D wsc sz post w1) mc ms (va_A wsc sz) := by
  refine Met.ofW (cc := cc) (maxL := maxL) (ret := none) hy hw ?_
  intro p e s m args below meth c s₁ B hml hv
  obtain ⟨rfl, hsz, hP, hK, hD0, hE⟩ := hv
  have hx := B.exec
  have hb := B.bytes
  have hr := B.returns
  have hts := atoms_spec (ws := ws) B.pre
  have hown : s.vm.findClass y.cls = some m.cls := findClass_of_methodNamed B.named
  have hlocks := B.notSynchronized
  have hin : meth.name = "<init>" := ((name_of_methodNamed B.named B.method).1).trans hyn
  subst hsz
  have hD := hD0.self (sz := s.heap.size)
  have hl := lv_entry av (n := maxL) hlen
  rw [lg_entry_eq]
  refine body p e s m _ below meth c _ _ hx hb hml hown hin hts hP hK hD (fun q h => Or.inr h) hE ?_ _ hl
  intro u H locs pc ls k n hu hP1 hD1 hdg hS hk hn
  refine W.widen hk hn ?_
  exact W.vret hx hb hr (fun t ht hW => ⟨⟨u, rfl, hu, by rw [ht]; exact hP1, hD1⟩, hS.F ht⟩) hS.2.2 hdg
section WI
variable {p : Program} {l : Launch} {e : Env} {R : Room} {s : State} {m : MethodId} {args : Array Value} {below : List Frame} {meth : Method} {c : Code} {H : Heap} {locs : List Loc} {cells slots : Nat} {Q : State → Prop}
variable {cc : ByteArray} {pc : Nat} {ls : Array Slot} {rest : List Value} {D : va_G} {A : Nat → Prop} {tys : List (ClassId × FieldType)} {ws : va_W} {H0 : Heap}
variable {y : MethodName} {bytes : ByteArray} {maxL nL n index : Nat} {wsy : List Cond} {rm : Room} {Ts : List Cond} {own host : String} {b : Nat} {As : List Value} {wc wr : va_W} {st : List Value} {E : State → Prop}
theorem wk_IvN {S9 : Type} {post : S9 → Prop} {w1 : S9 → va_W} {mc ms : Nat} (S : CallFix p m c cc nL s args Ts own)
    (hM : Met l y wsy rm (wrx_P D tys (.ref b :: As) wc H.size E) (wr_Qv D wc H.size post w1) mc ms (va_A wc H.size)) (cw : va_CN R s args own index y host bytes maxL none wsy rm mc ms n ∧ y.name = "<init>" ∧ (Cond.instanceMethod y).before args s = true) (hE1 : ∀ u U : State, u.vm = U.vm → E u → E U) (hE2 : ∀ U : State, s.WarmedH U.vm → E U)
    (hK : va_K D vwCl tys s) (hP : va_P D vwCl ws H) (hD : va_D A ws) (hA : ∀ q, H0.size ≤ q → A q) (is : List Nat) (hs : is.map (fun i => ws[i]?) = wc.map some) (hnd : va_nd is = true) (isR : List Nat) (hsR : isR.map (fun i => ws[i]?) = wr.map some) (hndR : va_nd isR = true) (hdis : ∀ i ∈ isR, i ∉ is)
    (hS : va_S A H0 H locs) (hn : As.length = n) (hsize : ls.size = nL) (hstack : st = As.reverse ++ .ref b :: rest) (hW : (rest.map fun v => v.category).sum ≤ 8) (hdg : decode cc pc = .ok (.invokespecial index, 3)) (hf : cells + mc ≤ R.cells ∧ slots + ms ≤ R.slots)
    (kk : ∀ (u : S9) (H1 : Heap) (locs1 : List Loc), post u → va_P D vwCl (wr ++ w1 u) H1 → va_D A (wr ++ w1 u) → va_S A H0 H1 locs1 → W p l e R s m args below meth c H1 locs1 (cells + mc) (slots + ms) Q (F0 m (pc + 3) ls rest)) : W p l e R s m args below meth c H locs cells slots Q (F0 m pc ls st) := by
  have hfm : is.filterMap (fun i => ws[i]?) = wc := by
    have h := congrArg (List.filterMap id) hs
    rw [List.filterMap_map, List.filterMap_map] at h
    have h2 : List.filterMap (id ∘ some) wc = wc := List.filterMap_some
    exact h.trans h2
  have hPc := hP.sub is hfm
  have hDc := hD.sub is hnd hs
  have hFc := va_free (wc := wc) hD hS hA is hs
  refine va_callv (va_runIN S hM cw ⟨wrx_blind hE1, fun U hU hW9 => ⟨rfl, by rw [hU], by rw [hU]; exact hPc, va_K.moved hW9.alike hK, hDc.weaken (fun _ _ _ _ => trivial), hE2 U hW9⟩⟩ rfl hn hsize hstack (lv_room hW) hdg hf) hS (fun q _ h => hFc q h) hFc (fun u t H1 locs1 ht hvm hw hB hz hk hS1 => ?_)
  obtain ⟨hP1, hD1⟩ := hB
  rw [ht] at hP1
  obtain ⟨hP2, hD2⟩ := va_join (wr := wr) (w1 := w1 u) hP hD is isR hs hsR hndR hdis hk hFc hP1 hD1
  exact kk u H1 locs1 hw hP2 hD2 hS1
theorem wk_Iv {S9 : Type} {post : S9 → Prop} {w1 : S9 → va_W} {mc ms : Nat} (S : CallFix p m c cc nL s args Ts own)
    (hM : Met l y wsy rm (wrx_P D tys (.ref b :: As) wc H.size E) (wr_Qv D wc H.size post w1) mc ms (va_A wc H.size)) (cw : CallB R s args own index y bytes maxL none wsy rm mc ms n ∧ y.name = "<init>" ∧ (Cond.instanceMethod y).before args s = true) (hE1 : ∀ u U : State, u.vm = U.vm → E u → E U) (hE2 : ∀ U : State, s.WarmedH U.vm → E U)
    (hK : va_K D vwCl tys s) (hP : va_P D vwCl ws H) (hD : va_D A ws) (hA : ∀ q, H0.size ≤ q → A q) (is : List Nat) (hs : is.map (fun i => ws[i]?) = wc.map some) (hnd : va_nd is = true) (isR : List Nat) (hsR : isR.map (fun i => ws[i]?) = wr.map some) (hndR : va_nd isR = true) (hdis : ∀ i ∈ isR, i ∉ is)
    (hS : va_S A H0 H locs) (hn : As.length = n) (hsize : ls.size = nL) (hstack : st = As.reverse ++ .ref b :: rest) (hW : (rest.map fun v => v.category).sum ≤ 8) (hdg : decode cc pc = .ok (.invokespecial index, 3)) (hf : cells + mc ≤ R.cells ∧ slots + ms ≤ R.slots)
    (kk : ∀ (u : S9) (H1 : Heap) (locs1 : List Loc), post u → va_P D vwCl (wr ++ w1 u) H1 → va_D A (wr ++ w1 u) → va_S A H0 H1 locs1 → W p l e R s m args below meth c H1 locs1 (cells + mc) (slots + ms) Q (F0 m (pc + 3) ls rest)) : W p l e R s m args below meth c H locs cells slots Q (F0 m pc ls st) := by
  have hfm : is.filterMap (fun i => ws[i]?) = wc := by
    have h := congrArg (List.filterMap id) hs
    rw [List.filterMap_map, List.filterMap_map] at h
    have h2 : List.filterMap (id ∘ some) wc = wc := List.filterMap_some
    exact h.trans h2
  have hPc := hP.sub is hfm
  have hDc := hD.sub is hnd hs
  have hFc := va_free (wc := wc) hD hS hA is hs
  refine va_callv (va_runI S hM cw ⟨wrx_blind hE1, fun U hU hW9 => ⟨rfl, by rw [hU], by rw [hU]; exact hPc, va_K.moved hW9.alike hK, hDc.weaken (fun _ _ _ _ => trivial), hE2 U hW9⟩⟩ rfl hn hsize hstack (lv_room hW) hdg hf) hS (fun q _ h => hFc q h) hFc (fun u t H1 locs1 ht hvm hw hB hz hk hS1 => ?_)
  obtain ⟨hP1, hD1⟩ := hB
  rw [ht] at hP1
  obtain ⟨hP2, hD2⟩ := va_join (wr := wr) (w1 := w1 u) hP hD is isR hs hsR hndR hdis hk hFc hP1 hD1
  exact kk u H1 locs1 hw hP2 hD2 hS1
end WI
def E_grid (cI cA : ClassId) (U : State) : Prop := ∃ k : Class, U.vm.classes[cA]? = some k ∧ k.kind = .array cI (.array .int)
theorem E_grid_same {cI cA : ClassId} (u U : State) (h : u.vm = U.vm) (hE : E_grid cI cA u) : E_grid cI cA U := by unfold E_grid; rw [← h]; exact hE
theorem E_grid_warm {cI cA : ClassId} {s U : State} (hW : s.WarmedH U.vm) (hE : E_grid cI cA s) : E_grid cI cA U := by
  obtain ⟨k, h1, h2⟩ := hE
  obtain ⟨k1, h3, h4⟩ := hW.alike.2.2 _ _ h1
  exact ⟨k1, h3, by rw [h4]; exact h2⟩
def E_pile (U : State) : Prop := va_Nw (.methodLinkNest RX3 41 yX2_init RX5) U
theorem E_pile_same (u U : State) (h : u.vm = U.vm) (hE : E_pile u) : E_pile U := va_Nw.same rfl h hE
theorem E_pile_warm {s U : State} (hW : s.WarmedH U.vm) (hE : E_pile s) : E_pile U := va_Nw.warmM hW hE
def E_all (cI cA : ClassId) (U : State) : Prop := E_grid cI cA U ∧ E_pile U ∧ va_Nw (.methodLinkNest RX5 11 yX0_init RX5) U ∧ va_Nw (.methodLinkNest RX5 22 yX3_init RX5) U ∧ va_Nw (.methodLinkNest RX5 29 yX4_init RX5) U
theorem E_all_same {cI cA : ClassId} (u U : State) (h : u.vm = U.vm) (hE : E_all cI cA u) : E_all cI cA U := ⟨E_grid_same u U h hE.1, E_pile_same u U h hE.2.1, va_Nw.same rfl h hE.2.2.1, va_Nw.same rfl h hE.2.2.2.1, va_Nw.same rfl h hE.2.2.2.2⟩
theorem E_all_warm {cI cA : ClassId} {s U : State} (hW : s.WarmedH U.vm) (hE : E_all cI cA s) : E_all cI cA U := ⟨E_grid_warm hW hE.1, E_pile_warm hW hE.2.1, va_Nw.warmM hW hE.2.2.1, va_Nw.warmM hW hE.2.2.2.1, va_Nw.warmM hW hE.2.2.2.2⟩
