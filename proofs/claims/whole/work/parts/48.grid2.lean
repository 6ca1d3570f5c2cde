def mnW (cA cI : ClassId) (q : Nat) (rr : Nat → Nat) : va_W := [(q, .inl (cA, 6, .inr (.inr (.inr (.inr (rfA rr)))))), (rr 0, .inl (cI, 5, .inl (fun _ => 0))), (rr 1, .inl (cI, 5, .inl (fun _ => 0))), (rr 2, .inl (cI, 5, .inl (fun _ => 0))), (rr 3, .inl (cI, 5, .inl (fun _ => 0))), (rr 4, .inl (cI, 5, .inl (fun _ => 0))), (rr 5, .inl (cI, 5, .inl (fun _ => 0)))]
theorem mnW_get {cA cI : ClassId} {q : Nat} {k : Nat} {x : Nat × va_E} (h : (mnW cA cI q (fun i => q + 1 + i))[k]? = some x) : x.1 = q + k ∧ k < 7 ∧ (k = 0 → x.2 = .inl (cA, 6, .inr (.inr (.inr (.inr (rfA (fun i => q + 1 + i))))))) ∧ (0 < k → x.2 = .inl (cI, 5, .inl (fun _ => 0))) := by
  have hk : k < 7 := lt_of_some h
  rcases (show k = 0 ∨ k = 1 ∨ k = 2 ∨ k = 3 ∨ k = 4 ∨ k = 5 ∨ k = 6 by omega) with rfl | rfl | rfl | rfl | rfl | rfl | rfl <;> (cases h; refine ⟨rfl, hk, fun h9 => ?_, fun h9 => ?_⟩ <;> first | rfl | omega)
section MNZ
variable {p : Program} {l : Launch} {e : Env} {R : Room} {s : State} {m : MethodId} {args : Array Value} {below : List Frame} {meth : Method} {c : Code} {H : Heap} {locs : List Loc} {cells slots : Nat} {Q : State → Prop}
variable {cc : ByteArray} {pc : Nat} {ls : Array Slot} {rest : List Value} {D : va_G} {A : Nat → Prop} {ws : va_W} {H0 : Heap} {cI cJ cZ cA : ClassId}
theorem wk_mna (hexec : p.tables.exec = Jvm.exec) (hb : c.code = cc) {own : String} {index : Nat} (hown : s.vm.findClass own = some m.cls) (hclink : (Cond.classLink own index "[[I").before args s = true) (hK : va_K D vwCl (tysC cI cJ cZ cA) s) (hE : ∃ k : Class, s.vm.classes[cA]? = some k ∧ k.kind = .array cI (.array .int)) (hP : va_P D vwCl ws H) (hD : va_D A ws) (hS : va_S A H0 H locs) (hA : ∀ q, H0.size ≤ q → A q)
    (hcells : cells + 7 ≤ R.cells) (hslots : slots + 36 ≤ R.slots) (hdg : decode cc pc = .ok (.multianewarray index 2, 4))
    (kk : ∀ (q : Nat) (rr : Nat → Nat) (H1 : Heap) (locs1 : List Loc), va_P D vwCl (ws ++ mnW cA cI q rr) H1 → va_D A (ws ++ mnW cA cI q rr) → va_S A H0 H1 locs1 → W p l e R s m args below meth c H1 locs1 (cells + 7) (slots + 36) Q (F0 m (pc + 4) ls (.ref q :: rest))) : W p l e R s m args below meth c H locs cells slots Q (F0 m pc ls (.int (nI 5) :: .int (nI 6) :: rest)) := by
  intro T hT X
  subst hT; subst hb
  have hpl : e.platform.magicAccessors = ({} : Platform).magicAccessors := by rw [X.admits.platform]
  have e1 : ("[" ++ (FieldType.array .int).toString) = "[[I" := by decide +kernel
  have hnameA : s.vm.findClass ("[" ++ (FieldType.array .int).toString) = some cA := (hK.2 3 _ rfl).2
  rw [e1] at hnameA
  obtain ⟨kA, hkA, hkindA⟩ := hE
  obtain ⟨-, kC, hkC, cc9, hkindC⟩ := (hK.2 0 _ rfl).1 0 (fun _ => .int 0)
  obtain ⟨c0, hfc0, hcl⟩ := Cond.classLink_spec hown hclink e.platform hpl
  cases hnameA.symm.trans hfc0
  obtain ⟨hg₁, hwarm₁, hready₁⟩ := State.classEntry (e := e) X.warmed hcl
  generalize T.vm.noted m.cls index (.cls cA) = vm₁ at hg₁ hwarm₁ hready₁
  have hal : s.vm.Alike vm₁ := hwarm₁.alike
  obtain ⟨kA₁, hkA₁, heA⟩ := hal.2.2 _ _ hkA
  obtain ⟨kC₁, hkC₁, heC⟩ := hal.2.2 _ _ hkC
  have hkindA₁ : kA₁.kind = .array cI (.array .int) := by rw [heA]; exact hkindA
  have hkindC₁ : kC₁.kind = .array cc9 .int := by rw [heC]; exact hkindC
  have X₁ := X.noted hwarm₁
  obtain ⟨hr1, hr2⟩ := X.roomAbove hcells hslots
  have XF := mn_stand X₁ cA cI 6 5 6
  obtain ⟨f1, f2, f3, f4⟩ := mnS_is (T.setVm vm₁) cA cI 6 5 6
  have fo := fun (a : Nat) (ha : a < T.heap.size) => mnS_old (T.setVm vm₁) cA cI 6 5 (a := a) ha 6
  have fr := fun (j : Nat) (hj : j < 6) => mnS_row (T.setVm vm₁) cA cI 6 5 6 j hj
  have hcell0 : mnO cA 6 T.heap.size 6 = vp_cell cA (6, .inr (.inr (.inr (.inr (rfA (fun i => T.heap.size + 1 + i)))))) := by
    show arrV cA 6 (fun j => if j < 6 then Value.ref (T.heap.size + 1 + j) else Value.null) = arrV cA 6 (fun j => va_rf (rfA (fun i => T.heap.size + 1 + i) j))
    refine congrArg (arrV cA 6) (funext fun j => ?_)
    unfold rfA
    by_cases h : j < 6
    · rw [if_pos h, if_pos h]; rfl
    · rw [if_neg h, if_neg h]; rfl
  have hP2 : va_P D vwCl (ws ++ mnW cA cI T.heap.size (fun i => T.heap.size + 1 + i)) (mnS (T.setVm vm₁) cA cI 6 5 6).heap := by
    refine va_P.app (hP.kept (fun k9 x hx => fo x.1 ((hP k9 x hx).lt))) ?_
    intro k x hx
    obtain ⟨h1, h2, h3, h4⟩ := mnW_get hx
    obtain ⟨x1, x2⟩ := x
    rcases Nat.eq_zero_or_pos k with h0 | h0
    · have h5 : x2 = _ := h3 h0
      subst h5
      show (mnS (T.setVm vm₁) cA cI 6 5 6).heap[x1]? = some (vp_cell cA (6, _))
      rw [show x1 = T.heap.size from by have h6 : x1 = T.heap.size + k := h1; omega, ← hcell0]
      exact f2
    · have h5 : x2 = _ := h4 h0
      subst h5
      show (mnS (T.setVm vm₁) cA cI 6 5 6).heap[x1]? = some (vp_cell cI (5, .inl (fun _ => 0)))
      rw [show x1 = T.heap.size + 1 + (k - 1) from by have h6 : x1 = T.heap.size + k := h1; omega]
      exact fr (k - 1) (by omega)
  have hD2 : va_D A (ws ++ mnW cA cI T.heap.size (fun i => T.heap.size + 1 + i)) := by
    refine va_D.app hD ⟨fun i j x y hx hy hxy => ?_, fun k x hx => ?_⟩ (fun i j x y hx hy hxy => ?_)
    · have a := (mnW_get hx).1
      have b := (mnW_get hy).1
      omega
    · have a := (mnW_get hx).1
      exact hA _ (by have := hS.1; omega)
    · have a := (hP i x hx).lt
      have b := (mnW_get hy).1
      omega
  have hS2 : va_S A H0 (mnS (T.setVm vm₁) cA cI 6 5 6).heap (locs ++ (List.range 6).map fun j => ⟨(T.setVm vm₁).heap.size, j⟩) := by
    refine ⟨by rw [f1]; have := hS.1; show H0.size ≤ T.heap.size + 1 + 6; omega, fun q h1 h2 => (fo q (Nat.lt_of_lt_of_le h1 hS.1)).trans (hS.2.1 q h1 h2), fun x hx => ?_⟩
    rcases List.mem_append.mp hx with h | h
    · exact hS.2.2 x h
    · obtain ⟨j, -, rfl⟩ := List.mem_map.mp h
      exact hA _ hS.1
  obtain ⟨t, a1, b1⟩ := kk T.heap.size (fun i => T.heap.size + 1 + i) _ _ hP2 hD2 hS2 _ rfl XF
  refine ⟨t, ?_, b1⟩
  have hcl6 : (nI 6).toNatClampNeg = 6 := by decide
  have hcl5 : (nI 5).toNatClampNeg = 5 := by decide
  jvm_step X.here [hexec, hdg]
  simp only [multianewarray.sem, wp_bind', Jvm.W.resolveClassAt_links (State.method?_setTop (F0 m pc ls (.int (nI 5) :: .int (nI 6) :: rest)) X.here.top) hg₁]
  rw [Jvm.W.popN, if_neg (by decide)]
  refine ⟨F0 m pc ls (.int (nI 5) :: .int (nI 6) :: rest), State.topJava?_setTop' (s := T.setVm vm₁) _ X.here.top, [.int (nI 6), .int (nI 5)], rest, rfl, rfl, ?_⟩
  simp only [List.mapM_cons, List.mapM_nil, wp_bind', wp_pure']
  refine mn_all (k := kA₁) (kc := kC₁) (cc := cc9) (n := nI 6) (m := nI 5) hkA₁ hkindA₁ hkC₁ hkindC₁ (by decide) (by decide) (by rw [hcl6, Launch.admits_arrayLengthLimit X.admits]; omega) (by rw [hcl6, Launch.admits_maxHeapBytes X.admits]; show ¬ 6 * 4 > 536870912; omega) (by rw [hcl5, Launch.admits_arrayLengthLimit X.admits]; omega) (by rw [hcl5, Launch.admits_maxHeapBytes X.admits]; show ¬ 5 * 4 > 536870912; omega) (by rw [hcl6]; show T.heap.size + 1 + 6 ≤ _; omega) (by rw [hcl6, hcl5]; show T.slotsUsed + 6 + 6 * 5 ≤ _; omega) (fun d' acts' => ?_)
  rw [hcl6, hcl5]
  have eS : ((T.setTop (F0 m pc ls (.int (nI 5) :: .int (nI 6) :: rest))).setVm vm₁).setTop { (F0 m pc ls (.int (nI 5) :: .int (nI 6) :: rest)) with stack := rest } = (T.setVm vm₁).setTop { (F0 m pc ls (.int (nI 5) :: .int (nI 6) :: rest)) with stack := rest } := by
    show ((T.setVm vm₁).setTop _).setTop _ = _
    rw [State.setTop_setTop]
  rw [eS, mnS_top]
  simp only [wp_bind', Jvm.W.mark, Jvm.W.pushRef, State.topJava?_setTop' _ XF.here.top, Option.some.injEq, exists_eq_left', State.setTop_setTop, State.heap_setTop]
  intro acts
  simp [jvm, XF.here.top]
  exact a1
end MNZ
