/-! ROWS for making arrays, for a reference as an answer -/
theorem va_nil {D : va_G} {cl : List vw_C} {H : Heap} : va_P D cl [] H := fun k q h => by cases h
section WN
variable {p : Program} {l : Launch} {e : Env} {R : Room} {s : State} {m : MethodId} {args : Array Value} {below : List Frame} {meth : Method} {c : Code} {H : Heap} {locs : List Loc} {cells slots : Nat} {Q : State → Prop}
variable {cc : ByteArray} {pc : Nat} {ls : Array Slot} {rest : List Value} {D : va_G} {A : Nat → Prop} {ws : va_W} {H0 : Heap} {cI cJ cZ cA : ClassId}
theorem wk_newaJ (hexec : p.tables.exec = Jvm.exec) (hb : c.code = cc) (harr : (Cond.arrayClass .long).before args s = true) (hK : va_K D vwCl (tysC cI cJ cZ cA) s) (hP : va_P D vwCl ws H) (hD : va_D A ws) (hS : va_S A H0 H locs) (hA : ∀ q, H0.size ≤ q → A q)
    {n : Nat} (hn : n < 2 ^ 31) (hbytes : n * 8 ≤ 536870912) (hcells : cells + 1 ≤ R.cells) (hslots : slots + n ≤ R.slots) (hdg : decode cc pc = .ok (.newarray .long, 2))
    (kk : ∀ (q : Nat) (H1 : Heap), va_P D vwCl (ws ++ [(q, .inl (cJ, n, .inr (.inl (fun _ => 0))))]) H1 → va_D A (ws ++ [(q, .inl (cJ, n, .inr (.inl (fun _ => 0))))]) → va_S A H0 H1 locs → W p l e R s m args below meth c H1 locs (cells + 1) (slots + n) Q (F0 m (pc + 2) ls (.ref q :: rest))) : W p l e R s m args below meth c H locs cells slots Q (F0 m pc ls (.int (nI n) :: rest)) := by
  refine va_newa (atype := .long) (ty := .long) (a0 := (n, .inr (.inl (fun _ => 0)))) hexec hb harr rfl hK hP hD hS hA (fun _ => rfl) (nI_pos hn) (nI_clamp hn) hbytes hcells hslots hdg ?_
  intro q c9 H1 hK1 hP1 hD1 hS1
  have h1 : s.vm.findClass ("[" ++ (FieldType.long).toString) = some c9 := (hK1.2 4 _ rfl).2
  have h2 : s.vm.findClass ("[" ++ (FieldType.long).toString) = some cJ := (hK.2 1 _ rfl).2
  have h3 : c9 = cJ := by rw [h1] at h2; cases h2; rfl
  subst h3
  exact kk q H1 hP1 hD1 hS1
theorem wk_newaI (hexec : p.tables.exec = Jvm.exec) (hb : c.code = cc) (harr : (Cond.arrayClass .int).before args s = true) (hK : va_K D vwCl (tysC cI cJ cZ cA) s) (hP : va_P D vwCl ws H) (hD : va_D A ws) (hS : va_S A H0 H locs) (hA : ∀ q, H0.size ≤ q → A q)
    {n : Nat} (hn : n < 2 ^ 31) (hbytes : n * 4 ≤ 536870912) (hcells : cells + 1 ≤ R.cells) (hslots : slots + n ≤ R.slots) (hdg : decode cc pc = .ok (.newarray .int, 2))
    (kk : ∀ (q : Nat) (H1 : Heap), va_P D vwCl (ws ++ [(q, .inl (cI, n, .inl (fun _ => 0)))]) H1 → va_D A (ws ++ [(q, .inl (cI, n, .inl (fun _ => 0)))]) → va_S A H0 H1 locs → W p l e R s m args below meth c H1 locs (cells + 1) (slots + n) Q (F0 m (pc + 2) ls (.ref q :: rest))) : W p l e R s m args below meth c H locs cells slots Q (F0 m pc ls (.int (nI n) :: rest)) := by
  refine va_newa (atype := .int) (ty := .int) (a0 := (n, .inl (fun _ => 0))) hexec hb harr rfl hK hP hD hS hA (fun _ => rfl) (nI_pos hn) (nI_clamp hn) hbytes hcells hslots hdg ?_
  intro q c9 H1 hK1 hP1 hD1 hS1
  have h1 : s.vm.findClass ("[" ++ (FieldType.int).toString) = some c9 := (hK1.2 4 _ rfl).2
  have h2 : s.vm.findClass ("[" ++ (FieldType.int).toString) = some cI := (hK.2 0 _ rfl).2
  have h3 : c9 = cI := by rw [h1] at h2; cases h2; rfl
  subst h3
  exact kk q H1 hP1 hD1 hS1
theorem wk_newaZ (hexec : p.tables.exec = Jvm.exec) (hb : c.code = cc) (harr : (Cond.arrayClass .boolean).before args s = true) (hK : va_K D vwCl (tysC cI cJ cZ cA) s) (hP : va_P D vwCl ws H) (hD : va_D A ws) (hS : va_S A H0 H locs) (hA : ∀ q, H0.size ≤ q → A q)
    {n : Nat} (hn : n < 2 ^ 31) (hbytes : n * 1 ≤ 536870912) (hcells : cells + 1 ≤ R.cells) (hslots : slots + n ≤ R.slots) (hdg : decode cc pc = .ok (.newarray .boolean, 2))
    (kk : ∀ (q : Nat) (H1 : Heap), va_P D vwCl (ws ++ [(q, .inl (cZ, n, .inl (fun _ => 0)))]) H1 → va_D A (ws ++ [(q, .inl (cZ, n, .inl (fun _ => 0)))]) → va_S A H0 H1 locs → W p l e R s m args below meth c H1 locs (cells + 1) (slots + n) Q (F0 m (pc + 2) ls (.ref q :: rest))) : W p l e R s m args below meth c H locs cells slots Q (F0 m pc ls (.int (nI n) :: rest)) := by
  refine va_newa (atype := .boolean) (ty := .boolean) (a0 := (n, .inl (fun _ => 0))) hexec hb harr rfl hK hP hD hS hA (fun _ => rfl) (nI_pos hn) (nI_clamp hn) hbytes hcells hslots hdg ?_
  intro q c9 H1 hK1 hP1 hD1 hS1
  have h1 : s.vm.findClass ("[" ++ (FieldType.boolean).toString) = some c9 := (hK1.2 4 _ rfl).2
  have h2 : s.vm.findClass ("[" ++ (FieldType.boolean).toString) = some cZ := (hK.2 2 _ rfl).2
  have h3 : c9 = cZ := by rw [h1] at h2; cases h2; rfl
  subst h3
  exact kk q H1 hP1 hD1 hS1
variable {tys : List (ClassId × FieldType)} {y : MethodName} {bytes : ByteArray} {maxL nL n index : Nat} {ret : Option FieldType} {wsy : List Cond} {rm : Room} {Ts : List Cond} {own C : String} {As : List Value} {wc wr : va_W} {st : List Value}
theorem wk_SrW {S9 : Type} {post : S9 → Prop} {w1 : S9 → Nat → va_W} {mc ms : Nat} (S : CallFix p m c cc nL s args Ts own)
    (hM : Met l y wsy rm (wr_P D tys As wc H.size) (va_Qr post (fun u a t => va_P D vwCl (w1 u a) t.heap ∧ va_D (va_A wc H.size) (w1 u a)) (va_A wc H.size)) mc ms (va_A wc H.size)) (cw : CallB R s args own index y bytes maxL ret wsy rm mc ms n ∧ (Cond.static y).before args s = true)
    (hK : va_K D vwCl tys s) (hP : va_P D vwCl ws H) (hD : va_D A ws) (hA : ∀ q, H0.size ≤ q → A q) (is : List Nat) (hs : is.map (fun i => ws[i]?) = wc.map some) (hnd : va_nd is = true) (isR : List Nat) (hsR : isR.map (fun i => ws[i]?) = wr.map some) (hndR : va_nd isR = true) (hdis : ∀ i ∈ isR, i ∉ is)
    (hS : va_S A H0 H locs) (hn : As.length = n) (hsize : ls.size = nL) (hstack : st = As.reverse ++ rest) (hW : (rest.map fun v => v.category).sum ≤ 8) (hdg : decode cc pc = .ok (.invokestatic index, 3)) (hf : cells + mc ≤ R.cells ∧ slots + ms ≤ R.slots)
    (kk : ∀ (u : S9) (a : Nat) (H1 : Heap) (locs1 : List Loc), post u → va_P D vwCl (wr ++ w1 u a) H1 → va_D A (wr ++ w1 u a) → va_S A H0 H1 locs1 → W p l e R s m args below meth c H1 locs1 (cells + mc) (slots + ms) Q (F0 m (pc + 3) ls (.ref a :: rest))) : W p l e R s m args below meth c H locs cells slots Q (F0 m pc ls st) := by
  have hfm : is.filterMap (fun i => ws[i]?) = wc := by
    have h := congrArg (List.filterMap id) hs
    rw [List.filterMap_map, List.filterMap_map] at h
    have h2 : List.filterMap (id ∘ some) wc = wc := List.filterMap_some
    exact h.trans h2
  have hPc := hP.sub is hfm
  have hDc := hD.sub is hnd hs
  have hFc := va_free (wc := wc) hD hS hA is hs
  refine va_callr (va_runS S hM cw ⟨wr_blind, fun U hU hW9 => ⟨rfl, by rw [hU], by rw [hU]; exact hPc, va_K.moved hW9.alike hK, hDc.weaken (fun _ _ _ _ => trivial)⟩⟩ rfl hn hsize hstack (lv_room hW) hdg hf) hS (fun q _ h => hFc q h) hFc (fun u a t H1 locs1 ht hvm hw hB hz hk hS1 => ?_)
  obtain ⟨hP1, hD1⟩ := hB
  rw [ht] at hP1
  obtain ⟨hP2, hD2⟩ := va_join (wr := wr) (w1 := w1 u a) hP hD is isR hs hsR hndR hdis hk hFc hP1 hD1
  exact kk u a H1 locs1 hw hP2 hD2 hS1
end WN
theorem met_wr {l : Launch} {y : MethodName} {ws ws' : List Cond} {rm : Room} {cc : ByteArray} {maxL : Nat} {ty : FieldType} {D : va_G} {tys : List (ClassId × FieldType)} {av : List Value} {wsc : va_W} {sz : Nat} {S9 : Type} {post : S9 → Prop} {w1 : S9 → Nat → va_W} {mc ms : Nat} (hy : plainName y.cls = true) (hw : ws = Cond.code y cc maxL (some ty) :: ws') (hlen : (lg_sl av).length ≤ maxL) (hrt : (∃ n, ty = .object n) ∨ ∃ t, ty = .array t)
    (body : ∀ (p : Program) (e : Env) (s : State) (m : MethodId) (args : Array Value) (below : List Frame) (meth : Method) (c : Code) (Q : State → Prop) (A : Nat → Prop), p.tables.exec = Jvm.exec → c.code = cc → c.maxLocals = maxL → s.vm.findClass y.cls = some m.cls → (∀ w ∈ ws, w.before args s = true) → va_P D vwCl wsc s.heap → va_K D vwCl tys s → va_D A wsc → (∀ q : Nat, s.heap.size ≤ q → A q) →
      (∀ (u : S9) (a : Nat) (H : Heap) (locs : List Loc) (pc : Nat) (ls : Array Slot) (k n : Nat), post u → va_P D vwCl (w1 u a) H → va_D A (w1 u a) → decode cc pc = .ok (.areturn, 1) → va_S A s.heap H locs → k ≤ mc → n ≤ ms → W p l e rm s m args below meth c H locs k n Q (F0 m pc ls [.ref a])) →
      ∀ ls : Array Slot, lv_has ls maxL (lv_args 0 av) → W p l e rm s m args below meth c s.heap [] 0 0 Q (F0 m 0 ls [])) :
    Met l y ws rm (wr_P D tys av wsc sz) (va_Qr post (fun u a t => va_P D vwCl (w1 u a) t.heap ∧ va_D (va_A wsc sz) (w1 u a)) (va_A wsc sz)) mc ms (va_A wsc sz) := by
  refine Met.ofW (cc := cc) (maxL := maxL) (ret := some ty) hy hw ?_
  intro p e s m args below meth c s₁ B hml hv
  obtain ⟨rfl, hsz, hP, hK, hD0⟩ := hv
  have hx := B.exec
  have hb := B.bytes
  have hr := B.returns
  have hts := atoms_spec (ws := ws) B.pre
  have hown : s.vm.findClass y.cls = some m.cls := findClass_of_methodNamed B.named
  have hlocks := B.notSynchronized
  subst hsz
  have hD := hD0.self (sz := s.heap.size)
  have hl := lv_entry av (n := maxL) hlen
  rw [lg_entry_eq]
  refine body p e s m _ below meth c _ _ hx hb hml hown hts hP hK hD (fun q h => Or.inr h) ?_ _ hl
  intro u a H locs pc ls k n hu hP1 hD1 hdg hS hk hn
  refine W.widen hk hn ?_
  exact W.aret (v := .ref a) hx hb hr hrt (Or.inr ⟨a, rfl⟩) (fun t ht hW => ⟨⟨u, a, rfl, hu, by rw [ht]; exact hP1, hD1⟩, hS.F ht⟩) hS.2.2 hdg
/-! the class's numbers -/
def BB : Int64 := 563500246630912
def atlR (u v : Int64) : Bool := decide (((u ||| BB) - v) &&& BB = BB)
def lssR (u v : Int64) : Int64 := ((u ||| BB) - v) &&& ((((u ||| BB) - v) &&& BB) - ((((u ||| BB) - v) &&& BB).toUInt64 >>> ((nI 9).toInt64.toUInt64 &&& Int64.toUInt64 63)).toInt64)
def pkO (f : Nat → Int32) : Nat → Int64
  | 0 => 0
  | k + 1 => (pkO f k <<< ((nI 10).toInt64 &&& 63)) ||| (f (4 - k)).toInt64
def listV (f : Nat → Int64) (X : List Int64) : Prop := ∀ k x, X[k]? = some x → f k = x
theorem pk_end {k : Nat} {pv : Int32} (h : (k = 5 ∧ pv = -1) ∨ (k < 5 ∧ pv = nI (4 - k))) (c : pv < 0) : k = 5 := by
  rcases h with h | ⟨h1, h2⟩
  · exact h.1
  · subst h2; exact absurd c (nI_pos (by omega))
theorem pk_in9 {k : Nat} {pv : Int32} (h : (k = 5 ∧ pv = -1) ∨ (k < 5 ∧ pv = nI (4 - k))) (c : ¬ pv < 0) : k < 5 ∧ pv = nI (4 - k) := by
  rcases h with h | h
  · rw [h.2] at c; exact absurd (by decide) c
  · exact h
theorem pk_dec {k : Nat} (h : k < 5) : (k + 1 = 5 ∧ nI (4 - k) + Int32.ofInt (-1) = -1) ∨ (k + 1 < 5 ∧ nI (4 - k) + Int32.ofInt (-1) = nI (4 - (k + 1))) := by
  rcases (show k = 0 ∨ k = 1 ∨ k = 2 ∨ k = 3 ∨ k = 4 by omega) with rfl | rfl | rfl | rfl | rfl <;> decide
