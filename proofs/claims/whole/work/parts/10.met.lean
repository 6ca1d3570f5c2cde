/-! CONTRACTS OF MY OWN: a contract out of a walk whose end is a hypothesis -/
theorem met_ro {l : Launch} {y : MethodName} {ws ws' : List Cond} {rm : Room} {cc : ByteArray} {maxL : Nat} {ty : FieldType} {D : va_G} {tys : List (ClassId × FieldType)} {av : List Value} {wsc : va_W} {ans : Int32} (hy : plainName y.cls = true) (hw : ws = Cond.code y cc maxL (some ty) :: ws') (hlen : (lg_sl av).length ≤ maxL) (hty : narrow ty (.int ans) = .int ans)
    (body : ∀ (p : Program) (e : Env) (s : State) (m : MethodId) (args : Array Value) (below : List Frame) (meth : Method) (c : Code) (Q : State → Prop), p.tables.exec = Jvm.exec → c.code = cc → c.maxLocals = maxL → s.vm.findClass y.cls = some m.cls → (∀ w ∈ ws, w.before args s = true) → va_P D vwCl wsc s.heap → va_K D vwCl tys s →
      (∀ (v : Int32) (H : Heap) (locs : List Loc) (pc : Nat) (ls : Array Slot), v = ans → decode cc pc = .ok (.ireturn, 1) → va_S (fun _ => False) s.heap H locs → W p l e rm s m args below meth c H locs 0 0 Q (F0 m pc ls [.int v])) →
      ∀ ls : Array Slot, lv_has ls maxL (lv_args 0 av) → W p l e rm s m args below meth c s.heap [] 0 0 Q (F0 m 0 ls [])) :
    Met l y ws rm (ro_P D tys av wsc) (ro_Q ans) 0 0 (fun _ => False) := by
  refine Met.ofW (cc := cc) (maxL := maxL) (ret := some ty) hy hw ?_
  intro p e s m args below meth c s₁ B hml hv
  obtain ⟨rfl, hP, hK⟩ := hv
  have hx := B.exec
  have hb := B.bytes
  have hr := B.returns
  have hts := atoms_spec (ws := ws) B.pre
  have hown : s.vm.findClass y.cls = some m.cls := findClass_of_methodNamed B.named
  have hlocks := B.notSynchronized
  have hl := lv_entry av (n := maxL) hlen
  rw [lg_entry_eq]
  refine body p e s m _ below meth c _ hx hb hml hown hts hP hK ?_ _ hl
  intro v H locs pc ls hv hdg hS
  subst hv
  exact W.zret (v := v) (ty := ty) hx hb hr hty (fun t ht hW => ⟨⟨v, (), rfl, rfl, trivial⟩, hS.F ht⟩) hS.2.2 hdg
theorem met_roL {l : Launch} {y : MethodName} {ws ws' : List Cond} {rm : Room} {cc : ByteArray} {maxL : Nat} {D : va_G} {tys : List (ClassId × FieldType)} {av : List Value} {wsc : va_W} {ans : Int64} (hy : plainName y.cls = true) (hw : ws = Cond.code y cc maxL (some .long) :: ws') (hlen : (lg_sl av).length ≤ maxL)
    (body : ∀ (p : Program) (e : Env) (s : State) (m : MethodId) (args : Array Value) (below : List Frame) (meth : Method) (c : Code) (Q : State → Prop), p.tables.exec = Jvm.exec → c.code = cc → c.maxLocals = maxL → s.vm.findClass y.cls = some m.cls → (∀ w ∈ ws, w.before args s = true) → va_P D vwCl wsc s.heap → va_K D vwCl tys s →
      (∀ (v : Int64) (H : Heap) (locs : List Loc) (pc : Nat) (ls : Array Slot), v = ans → decode cc pc = .ok (.lreturn, 1) → va_S (fun _ => False) s.heap H locs → W p l e rm s m args below meth c H locs 0 0 Q (F0 m pc ls [.long v])) →
      ∀ ls : Array Slot, lv_has ls maxL (lv_args 0 av) → W p l e rm s m args below meth c s.heap [] 0 0 Q (F0 m 0 ls [])) :
    Met l y ws rm (ro_P D tys av wsc) (ro_QL ans) 0 0 (fun _ => False) := by
  refine Met.ofW (cc := cc) (maxL := maxL) (ret := some .long) hy hw ?_
  intro p e s m args below meth c s₁ B hml hv
  obtain ⟨rfl, hP, hK⟩ := hv
  have hx := B.exec
  have hb := B.bytes
  have hr := B.returns
  have hts := atoms_spec (ws := ws) B.pre
  have hown : s.vm.findClass y.cls = some m.cls := findClass_of_methodNamed B.named
  have hlocks := B.notSynchronized
  have hl := lv_entry av (n := maxL) hlen
  rw [lg_entry_eq]
  refine body p e s m _ below meth c _ hx hb hml hown hts hP hK ?_ _ hl
  intro v H locs pc ls hv hdg hS
  subst hv
  exact W.lret (v := v) hx hb hr (fun t ht hW => ⟨⟨v, (), rfl, rfl, trivial⟩, hS.F ht⟩) hS.2.2 hdg
theorem met_wv {l : Launch} {y : MethodName} {ws ws' : List Cond} {rm : Room} {cc : ByteArray} {maxL : Nat} {D : va_G} {tys : List (ClassId × FieldType)} {av : List Value} {wsc : va_W} {sz : Nat} {S9 : Type} {post : S9 → Prop} {w1 : S9 → va_W} {mc ms : Nat} (hy : plainName y.cls = true) (hw : ws = Cond.code y cc maxL none :: ws') (hlen : (lg_sl av).length ≤ maxL)
    (body : ∀ (p : Program) (e : Env) (s : State) (m : MethodId) (args : Array Value) (below : List Frame) (meth : Method) (c : Code) (Q : State → Prop) (A : Nat → Prop), p.tables.exec = Jvm.exec → c.code = cc → c.maxLocals = maxL → s.vm.findClass y.cls = some m.cls → (∀ w ∈ ws, w.before args s = true) → va_P D vwCl wsc s.heap → va_K D vwCl tys s → va_D A wsc → (∀ q : Nat, s.heap.size ≤ q → A q) →
      (∀ (u : S9) (H : Heap) (locs : List Loc) (pc : Nat) (ls : Array Slot) (k n : Nat), post u → va_P D vwCl (w1 u) H → va_D A (w1 u) → decode cc pc = .ok (.return_, 1) → va_S A s.heap H locs → k ≤ mc → n ≤ ms → W p l e rm s m args below meth c H locs k n Q (F0 m pc ls [])) →
      ∀ ls : Array Slot, lv_has ls maxL (lv_args 0 av) → W p l e rm s m args below meth c s.heap [] 0 0 Q (F0 m 0 ls [])) :
    Met l y ws rm (wr_P D tys av wsc sz) (wr_Qv D wsc sz post w1) mc ms (va_A wsc sz) := by
  refine Met.ofW (cc := cc) (maxL := maxL) (ret := none) hy hw ?_
  intro p e s m args below meth c s₁ B hml hv
  obtain ⟨rfl, hsz, hP, hK, hD0⟩ := hv
  have hx := B.exec
  have hb := B.bytes
  have hr := B.returns
  have hts := atoms_spec (ws := ws) B.pre
  have hown : s.vm.findClass y.cls = some m.cls := findClass_of_methodNamed B.named
  have hlocks := B.notSynchronized
  subst hsz
  have hD := hD0.self (sz := s.heap.size)
  have hl := lv_entry av (n := maxL) hlen
  rw [lg_entry_eq]
  refine body p e s m _ below meth c _ _ hx hb hml hown hts hP hK hD (fun q h => Or.inr h) ?_ _ hl
  intro u H locs pc ls k n hu hP1 hD1 hdg hS hk hn
  refine W.widen hk hn ?_
  exact W.vret hx hb hr (fun t ht hW => ⟨⟨u, rfl, hu, by rw [ht]; exact hP1, hD1⟩, hS.F ht⟩) hS.2.2 hdg
theorem met_wi {l : Launch} {y : MethodName} {ws ws' : List Cond} {rm : Room} {cc : ByteArray} {maxL : Nat} {ty : FieldType} {D : va_G} {tys : List (ClassId × FieldType)} {av : List Value} {wsc : va_W} {sz : Nat} {S9 : Type} {post : Int32 → S9 → Prop} {w1 : S9 → va_W} {mc ms : Nat} (hy : plainName y.cls = true) (hw : ws = Cond.code y cc maxL (some ty) :: ws') (hlen : (lg_sl av).length ≤ maxL)
    (body : ∀ (p : Program) (e : Env) (s : State) (m : MethodId) (args : Array Value) (below : List Frame) (meth : Method) (c : Code) (Q : State → Prop) (A : Nat → Prop), p.tables.exec = Jvm.exec → c.code = cc → c.maxLocals = maxL → s.vm.findClass y.cls = some m.cls → (∀ w ∈ ws, w.before args s = true) → va_P D vwCl wsc s.heap → va_K D vwCl tys s → va_D A wsc → (∀ q : Nat, s.heap.size ≤ q → A q) →
      (∀ (v : Int32) (u : S9) (H : Heap) (locs : List Loc) (pc : Nat) (ls : Array Slot) (k n : Nat), narrow ty (.int v) = .int v → post v u → va_P D vwCl (w1 u) H → va_D A (w1 u) → decode cc pc = .ok (.ireturn, 1) → va_S A s.heap H locs → k ≤ mc → n ≤ ms → W p l e rm s m args below meth c H locs k n Q (F0 m pc ls [.int v])) →
      ∀ ls : Array Slot, lv_has ls maxL (lv_args 0 av) → W p l e rm s m args below meth c s.heap [] 0 0 Q (F0 m 0 ls [])) :
    Met l y ws rm (wr_P D tys av wsc sz) (wr_Qi D wsc sz post w1) mc ms (va_A wsc sz) := by
  refine Met.ofW (cc := cc) (maxL := maxL) (ret := some ty) hy hw ?_
  intro p e s m args below meth c s₁ B hml hv
  obtain ⟨rfl, hsz, hP, hK, hD0⟩ := hv
  have hx := B.exec
  have hb := B.bytes
  have hr := B.returns
  have hts := atoms_spec (ws := ws) B.pre
  have hown : s.vm.findClass y.cls = some m.cls := findClass_of_methodNamed B.named
  have hlocks := B.notSynchronized
  subst hsz
  have hD := hD0.self (sz := s.heap.size)
  have hl := lv_entry av (n := maxL) hlen
  rw [lg_entry_eq]
  refine body p e s m _ below meth c _ _ hx hb hml hown hts hP hK hD (fun q h => Or.inr h) ?_ _ hl
  intro v u H locs pc ls k n hty hu hP1 hD1 hdg hS hk hn
  refine W.widen hk hn ?_
  exact W.zret (v := v) (ty := ty) hx hb hr hty (fun t ht hW => ⟨⟨v, u, rfl, hu, by rw [ht]; exact hP1, hD1⟩, hS.F ht⟩) hS.2.2 hdg
