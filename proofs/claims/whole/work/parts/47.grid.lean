/-! new int[n][m]: the rows one behind the other, the outer array ahead of them -/
def mnO (cA : ClassId) (n h0 i : Nat) : Cell := arrV cA n (fun j => if j < i then .ref (h0 + 1 + j) else .null)
def mnI (cI : ClassId) (m : Nat) : Cell := arrV cI m (fun _ => .int 0)
theorem mnO_set (cA : ClassId) (n h0 i : Nat) : (mnO cA n h0 i).setSlot i (.ref (h0 + 1 + i)) = mnO cA n h0 (i + 1) := by
  unfold mnO
  rw [arrV_store]
  refine congrArg (arrV cA n) (funext fun j => ?_)
  unfold updV
  by_cases e : j = i
  · subst e; rw [if_pos rfl, if_pos (Nat.lt_succ_self j)]
  · rw [if_neg e]
    dsimp only
    by_cases h : j < i
    · rw [if_pos h, if_pos (by omega)]
    · rw [if_neg h, if_neg (by omega)]
def mnS (T : State) (cA cI : ClassId) (n m : Nat) : Nat → State
  | 0 => T.pushCell (mnO cA n T.heap.size 0)
  | i + 1 => ((mnS T cA cI n m i).pushCell (mnI cI m)).setCell T.heap.size (mnO cA n T.heap.size (i + 1))
theorem mnS_is (T : State) (cA cI : ClassId) (n m : Nat) : ∀ i, (mnS T cA cI n m i).heap.size = T.heap.size + 1 + i ∧ (mnS T cA cI n m i).heap[T.heap.size]? = some (mnO cA n T.heap.size i) ∧ (mnS T cA cI n m i).vm = T.vm ∧ (mnS T cA cI n m i).slotsUsed = T.slotsUsed + n + i * m := by
  intro i
  induction i with
  | zero =>
    refine ⟨by simp [mnS], by simp [mnS], rfl, ?_⟩
    show (T.pushCell (mnO cA n T.heap.size 0)).slotsUsed = _
    simp [mnO, arrV_size]
  | succ i ih =>
    obtain ⟨a, b, c, d⟩ := ih
    have hlt : T.heap.size < (mnS T cA cI n m i).heap.size := by omega
    have hb : ((mnS T cA cI n m i).pushCell (mnI cI m)).heap[T.heap.size]? = some (mnO cA n T.heap.size i) := by rw [State.heap_pushCell_of_lt (h := hlt)]; exact b
    refine ⟨?_, State.heap_setCell_self hb, by simp [mnS, c], ?_⟩
    · simp [mnS, State.setCell, a]; omega
    · simp [mnS, d, mnI, arrV_size, Nat.succ_mul]; omega
theorem mnS_old (T : State) (cA cI : ClassId) (n m : Nat) {a : Nat} (ha : a < T.heap.size) : ∀ i, (mnS T cA cI n m i).heap[a]? = T.heap[a]? := by
  intro i
  induction i with
  | zero => exact State.heap_pushCell_of_lt _ _ ha
  | succ i ih =>
    have h1 := (mnS_is T cA cI n m i).1
    show (((mnS T cA cI n m i).pushCell (mnI cI m)).setCell T.heap.size _).heap[a]? = _
    have hlt : a < (mnS T cA cI n m i).heap.size := by rw [h1]; omega
    rw [State.heap_setCell_other (Nat.ne_of_gt ha), State.heap_pushCell_of_lt (h := hlt)]
    exact ih
theorem mnS_row (T : State) (cA cI : ClassId) (n m : Nat) : ∀ i j, j < i → (mnS T cA cI n m i).heap[T.heap.size + 1 + j]? = some (mnI cI m) := by
  intro i
  induction i with
  | zero => intro j h; exact absurd h (Nat.not_lt_zero j)
  | succ i ih =>
    intro j h
    have h1 := (mnS_is T cA cI n m i).1
    show (((mnS T cA cI n m i).pushCell (mnI cI m)).setCell T.heap.size _).heap[T.heap.size + 1 + j]? = _
    rw [State.heap_setCell_other (show T.heap.size ≠ T.heap.size + 1 + j by omega)]
    rcases Nat.lt_or_ge j i with hj | hj
    · have hlt : T.heap.size + 1 + j < (mnS T cA cI n m i).heap.size := by rw [h1]; omega
      rw [State.heap_pushCell_of_lt (h := hlt)]
      exact ih j hj
    · rw [show j = i by omega, ← h1]
      exact State.heap_pushCell_size _ _
theorem mnS_top (T : State) (f : JFrame) (cA cI : ClassId) (n m : Nat) : ∀ i, mnS (T.setTop f) cA cI n m i = (mnS T cA cI n m i).setTop f := by
  intro i
  induction i with
  | zero => rfl
  | succ i ih => simp only [mnS, ih, State.heap_setTop, State.pushCell_setTop, State.setCell_setTop]
section MNW
variable {E : CtlPost} {e : Env} {d : Bool} {acts : List Action} {s : State}
theorem mn_new {c comp : ClassId} {k : Class} {ty : FieldType} {len : Nat} {init : Value} (hk : s.vm.classes[c]? = some k) (hkind : k.kind = .array comp ty)
    (hl : ¬ len > e.platform.arrayLengthLimit) (hh : ¬ len * componentBytes ty > e.platform.maxHeapBytes) (hfit : fits ty init = true) (hdef : init.isDefault = true) {Q : Addr → Pre}
    (h1 : s.heap.size < e.platform.maxCells) (h2 : s.slotsUsed + len ≤ e.platform.maxSlots) (hq : Q s.heap.size d acts (s.pushCell (arrV c len (fun _ => init)))) : wp (Jvm.newArray c len init) Q E e d acts s := by
  rw [← arrV_new] at hq
  have hfits : ∀ i v, (Array.replicate len init)[i]? = some v → s.fitsSlot c .none i v = true := by
    intro i v hv
    simp only [Array.getElem?_replicate] at hv
    split at hv
    · cases hv; simp [State.fitsSlot, State.slotType?, hk, hkind, hfit]
    · cases hv
  have hda : allocActs (Array.replicate len init) s.heap.size acts = acts := by
    have hall : ((Array.replicate len init).all (·.isDefault)) = true := by
      rw [Array.all_replicate]; split <;> simp [hdef]
    unfold allocActs; rw [if_pos hall]
  simp only [Jvm.newArray, Jvm.arrayFits, wp_bind', Jvm.W.ask, Jvm.W.ite, hl, if_false, wp_pure', Jvm.W.theClass, hk, hkind, hh, Jvm.W.alloc, Jvm.W.stop, Option.some.injEq, exists_eq_left', Array.size_replicate, hda]
  rw [if_neg (by omega)]
  exact ⟨h1, h2, hfits, hq⟩
theorem mn_row {cI cc : ClassId} {kc : Class} {m : Int32} (hkc : s.vm.classes[cI]? = some kc) (hkindc : kc.kind = .array cc .int) (hm : ¬ m < 0)
    (hl : ¬ m.toNatClampNeg > e.platform.arrayLengthLimit) (hh : ¬ m.toNatClampNeg * componentBytes .int > e.platform.maxHeapBytes)
    (h1 : s.heap.size < e.platform.maxCells) (h2 : s.slotsUsed + m.toNatClampNeg ≤ e.platform.maxSlots)
    {Q : Addr → Pre} (hq : Q s.heap.size d acts (s.pushCell (mnI cI m.toNatClampNeg))) : wp (multianewarray.make cI [m]) Q E e d acts s := by
  rw [multianewarray.make]
  simp only [wp_bind', Jvm.W.ite, hm, if_false, wp_pure', Jvm.W.theClass, hkc, hkindc, Option.some.injEq, exists_eq_left']
  exact mn_new hkc hkindc hl hh rfl rfl h1 h2 hq
theorem mn_all {cA cI cc : ClassId} {k kc : Class} {n m : Int32} (hk : s.vm.classes[cA]? = some k) (hkind : k.kind = .array cI (.array .int)) (hkc : s.vm.classes[cI]? = some kc) (hkindc : kc.kind = .array cc .int) (hn : ¬ n < 0) (hm : ¬ m < 0)
    (hl1 : ¬ n.toNatClampNeg > e.platform.arrayLengthLimit) (hh1 : ¬ n.toNatClampNeg * componentBytes (.array .int) > e.platform.maxHeapBytes)
    (hl2 : ¬ m.toNatClampNeg > e.platform.arrayLengthLimit) (hh2 : ¬ m.toNatClampNeg * componentBytes .int > e.platform.maxHeapBytes)
    (hc : s.heap.size + 1 + n.toNatClampNeg ≤ e.platform.maxCells) (hs : s.slotsUsed + n.toNatClampNeg + n.toNatClampNeg * m.toNatClampNeg ≤ e.platform.maxSlots)
    {Q : Addr → Pre} (hq : ∀ d' acts', Q s.heap.size d' acts' (mnS s cA cI n.toNatClampNeg m.toNatClampNeg n.toNatClampNeg)) : wp (multianewarray.make cA [n, m]) Q E e d acts s := by
  generalize hN : n.toNatClampNeg = N at *
  have hfind : ([m].find? (· < 0)) = none := by simp [hm]
  rw [multianewarray.make]
  simp only [wp_bind', Jvm.W.ite, hn, if_false, wp_pure', Jvm.W.theClass, hk, hkind, Option.some.injEq, exists_eq_left', hN]
  have hz : (arrV cA N (fun _ => Value.null)) = mnO cA N s.heap.size 0 := by
    unfold mnO
    exact congrArg (arrV cA N) (funext fun j => (if_neg (Nat.not_lt_zero j)).symm)
  refine mn_new hk hkind hl1 hh1 rfl rfl (by omega) (by have := Nat.zero_le (N * m.toNatClampNeg); omega) ?_
  rw [hz]
  simp only [hfind]
  rw [ite_self, wp_bind', Std.Legacy.Range.forIn_eq_forIn_range']
  have hsz : ([:N] : Std.Legacy.Range).size = N := by simp [Std.Legacy.Range.size]
  rw [hsz]
  show wp (forIn (List.range' 0 N 1) PUnit.unit _) _ E e d acts _
  refine wp_forIn_inv (fun rest s' => ∃ i, i ≤ N ∧ rest = List.range' i (N - i) ∧ s' = mnS s cA cI N m.toNatClampNeg i) _ _ ⟨0, Nat.zero_le _, rfl, rfl⟩ ?_ ?_
  · rintro x rest s' d' acts' Q' ⟨i, hi, hr, rfl⟩ hnext
    have hlt : i < N := by
      rcases Nat.lt_or_ge i N with h | h
      · exact h
      · rw [show N - i = 0 from by omega] at hr; simp at hr
    rw [show N - i = (N - (i + 1)) + 1 from by omega, List.range'_succ] at hr
    obtain ⟨rfl, hrest⟩ := List.cons.inj hr
    obtain ⟨f1, f2, f3, f4⟩ := mnS_is s cA cI N m.toNatClampNeg x
    have hmul : x * m.toNatClampNeg + m.toNatClampNeg ≤ N * m.toNatClampNeg := by
      have := Nat.mul_le_mul_right m.toNatClampNeg (show x + 1 ≤ N from hlt)
      rw [Nat.succ_mul] at this; exact this
    simp only [wp_bind']
    refine mn_row (by rw [f3]; exact hkc) hkindc hm hl2 hh2 (by rw [f1]; omega) (by rw [f4]; omega) ?_
    have hlt0 : s.heap.size < (mnS s cA cI N m.toNatClampNeg x).heap.size := by rw [f1]; omega
    simp only [wp_bind', Jvm.W.writeLoc, wp_pure']
    refine ⟨mnO cA N s.heap.size x, by rw [State.heap_pushCell_of_lt (h := hlt0)]; exact f2, (fun q => by cases q), by unfold mnO; rw [arrV_size]; exact hlt, ?_, hnext _ _ _ ⟨x + 1, hlt, hrest, ?_⟩⟩
    · show State.fitsSlot _ cA .none x _ = true
      simp [State.fitsSlot, State.slotType?, f3, hk, hkind]
      rfl
    · rw [f1, mnO_set]; rfl
  · rintro s' d' acts' ⟨i, hi, hr, rfl⟩
    have hiN : i = N := by
      rcases Nat.lt_or_ge i N with h | h
      · rw [show N - i = (N - (i + 1)) + 1 from by omega, List.range'_succ] at hr; cases hr
      · omega
    subst hiN
    simp only [wp_pure']
    exact hq _ _
end MNW
section MNX
variable {p : Program} {l : Launch} {e : Env} {R : Room} {s : State} {m : MethodId} {args : Array Value} {below : List Frame} {meth : Method} {c : Code} {T : State} {locs : List Loc} {cells slots : Nat}
theorem mn_stand (X : Stand p l e R s m args below meth c T locs cells slots) (cA cI : ClassId) (n k : Nat) : ∀ i, Stand p l e R s m args below meth c (mnS T cA cI n k i) (locs ++ (List.range i).map fun j => ⟨T.heap.size, j⟩) (cells + 1 + i) (slots + n + i * k) := by
  intro i
  induction i with
  | zero =>
    have h := X.pushed (mnO cA n T.heap.size 0)
    unfold mnO at h
    rw [arrV_size] at h
    simpa [mnS, mnO] using h
  | succ i ih =>
    obtain ⟨f1, f2, f3, f4⟩ := mnS_is T cA cI n k i
    have hcell : ((mnS T cA cI n k i).pushCell (mnI cI k)).heap[T.heap.size]? = some (mnO cA n T.heap.size i) := by
      have hlt : T.heap.size < (mnS T cA cI n k i).heap.size := by rw [f1]; omega
      rw [State.heap_pushCell_of_lt (h := hlt)]; exact f2
    have h := (ih.pushed (mnI cI k)).stored hcell i (.ref (T.heap.size + 1 + i))
    rw [mnO_set] at h
    unfold mnI at h
    rw [arrV_size] at h
    rw [show (locs ++ (List.range (i + 1)).map fun j => (⟨T.heap.size, j⟩ : Loc)) = (locs ++ (List.range i).map fun j => (⟨T.heap.size, j⟩ : Loc)) ++ [⟨T.heap.size, i⟩] by simp [List.range_succ, List.append_assoc], show slots + n + (i + 1) * k = slots + n + i * k + k by rw [Nat.succ_mul]; omega]
    exact h
end MNX
