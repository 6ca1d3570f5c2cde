/-! THE CLASS'S TREE: its cells; what is read off it -/
abbrev tw (cI cZ : ClassId) (ta : Nat → Nat) (g0 g1 g2 g3 : Int32) (h4 h5 h6 h7 h8 : Nat → Int32) : va_W := [(ta 0, .inr (3, [.int g0, .int g1, .int g2, .int g3, .ref (ta 4), .ref (ta 5), .ref (ta 6), .ref (ta 7), .ref (ta 8)])), (ta 4, .inl (cZ, 6, .inl h4)), (ta 5, .inl (cI, 5000, .inl h5)), (ta 6, .inl (cI, 1000, .inl h6)), (ta 7, .inl (cI, 1000, .inl h7)), (ta 8, .inl (cI, 1000, .inl h8))]
section WM
variable {p : Program} {l : Launch} {e : Env} {R : Room} {s : State} {m : MethodId} {args : Array Value} {below : List Frame} {meth : Method} {c : Code} {H : Heap} {locs : List Loc} {cells slots : Nat} {Q : State → Prop} {cc : ByteArray} {pc : Nat} {ls : Array Slot} {rest : List Value}
theorem wk_imulC (hexec : p.tables.exec = Jvm.exec) (hb : c.code = cc) {x y : Nat} (hdg : decode cc pc = .ok (.imul, 1))
    (k : W p l e R s m args below meth c H locs cells slots Q (F0 m (pc + 1) ls (.int (nI (y * x)) :: rest))) : W p l e R s m args below meth c H locs cells slots Q (F0 m pc ls (.int (nI y) :: .int (nI x) :: rest)) :=
  wk_imul hexec hb hdg (by rw [Nat.mul_comm]; exact k)
end WM
def tpP (pl : Nat) (x y : Rw) : Bool := (List.range pl).all (fun q => decide (y q ≤ x q))
theorem tpP_iff {pl : Nat} {x y : Rw} : tpP pl x y = true ↔ ∀ q, q < pl → y q ≤ x q := by
  unfold tpP
  rw [List.all_eq_true]
  exact ⟨fun h q hq => of_decide_eq_true (h q (List.mem_range.mpr hq)), fun h q hq => decide_eq_true (h q (List.mem_range.mp hq))⟩
theorem tpP_t {pl : Nat} {x y : Rw} (h : ∀ q, q < pl → y q ≤ x q) : tpP pl x y = true := tpP_iff.mpr h
theorem tpP_f {pl k : Nat} {x y : Rw} (hk : k < pl) (h : ¬ y k ≤ x k) : tpP pl x y = false := by
  cases h2 : tpP pl x y with
  | false => rfl
  | true => exact absurd (tpP_iff.mp h2 k hk) h
def befP (pl : Nat) (x y : Rw) : Bool := match (List.range pl).find? (fun q => decide (¬ x q = y q)) with
  | some q => decide (x q < y q)
  | none => false
theorem befP_hit {pl : Nat} {x y : Rw} {q : Nat} (hq : q < pl) (h0 : ∀ j, j < q → x j = y j) (h1 : ¬ x q = y q) : befP pl x y = decide (x q < y q) := by
  unfold befP
  have : (List.range pl).find? (fun q => decide (¬ x q = y q)) = some q := by
    rw [List.find?_range_eq_some]
    exact ⟨decide_eq_true h1, List.mem_range.mpr hq, fun j hj => by rw [h0 j hj]; simp⟩
  rw [this]
theorem befP_none {pl : Nat} {x y : Rw} (h0 : ∀ j, j < pl → x j = y j) : befP pl x y = false := by
  unfold befP
  have : (List.range pl).find? (fun q => decide (¬ x q = y q)) = none := by
    rw [List.find?_eq_none]
    intro j hj
    rw [h0 j (List.mem_range.mp hj)]
    simp
  rw [this]
def mxC (Ms : List Rw) (C : List Nat) (j : Nat) : Int32 := C.foldl (fun a v => if a < (Ms.getD v zR) j then (Ms.getD v zR) j else a) (nI 0)
theorem mxC_s {Ms : List Rw} {C : List Nat} {k j v : Nat} (hv : C[k]? = some v) : mxC Ms (C.take (k + 1)) j = if mxC Ms (C.take k) j < (Ms.getD v zR) j then (Ms.getD v zR) j else mxC Ms (C.take k) j := by
  unfold mxC
  rw [take_s hv, List.foldl_append]
  rfl
def dl2 (f : Nat → Int32) (C : List Nat) (P : Nat → Bool) (k kp : Nat) : Prop := kp = ((C.take k).filter P).length ∧ idxV f ((C.take k).filter P) ∧ ∀ j v, k ≤ j → C[j]? = some v → f j = nI v
theorem idxV_put {f : Nat → Int32} {C : List Nat} {v : Nat} (h : idxV f C) : idxV (upd f C.length (nI v)) (C ++ [v]) := by
  intro k y hy
  by_cases hk : k < C.length
  · rw [List.getElem?_append_left hk] at hy
    rw [pk_un (by omega)]
    exact h k y hy
  · rw [List.getElem?_append_right (by omega)] at hy
    have h0 : k - C.length < 1 := lt_of_some hy
    rw [show k - C.length = 0 by omega] at hy
    cases hy
    rw [show k = C.length by omega]
    exact pk_us
theorem dl2_0 {f : Nat → Int32} {C : List Nat} {P : Nat → Bool} (h : idxV f C) : dl2 f C P 0 0 := ⟨by simp, fun k y hy => by simp at hy, fun j v _ hv => h j v hv⟩
theorem dl2_le {f : Nat → Int32} {C : List Nat} {P : Nat → Bool} {k kp : Nat} (h : dl2 f C P k kp) : kp ≤ k := by
  rw [h.1]
  have a := List.length_filter_le P (C.take k)
  rw [List.length_take] at a
  omega
theorem dl2_skip {f : Nat → Int32} {C : List Nat} {P : Nat → Bool} {k kp v : Nat} (h : dl2 f C P k kp) (hv : C[k]? = some v) (c : P v = false) : dl2 f C P (k + 1) kp := by
  obtain ⟨h1, h2, h3⟩ := h
  have e : (C.take (k + 1)).filter P = (C.take k).filter P := by rw [take_s hv, List.filter_append]; simp [c]
  exact ⟨by rw [e]; exact h1, by rw [e]; exact h2, fun j z hj => h3 j z (by omega)⟩
theorem dl2_keep {f : Nat → Int32} {C : List Nat} {P : Nat → Bool} {k kp v : Nat} (h : dl2 f C P k kp) (hv : C[k]? = some v) (c : P v = true) : dl2 (upd f kp (nI v)) C P (k + 1) (kp + 1) := by
  have hle := dl2_le h
  obtain ⟨h1, h2, h3⟩ := h
  have e : (C.take (k + 1)).filter P = (C.take k).filter P ++ [v] := by rw [take_s hv, List.filter_append]; simp [c]
  refine ⟨by rw [e, List.length_append, ← h1]; rfl, ?_, fun j z hj hz => ?_⟩
  · rw [e, h1]; exact idxV_put h2
  · rw [pk_un (by omega)]; exact h3 j z (by omega) hz
theorem dl2_end {f : Nat → Int32} {C : List Nat} {P : Nat → Bool} {kp : Nat} (h : dl2 f C P C.length kp) : kp = (C.filter P).length ∧ idxV f (C.filter P) := by
  obtain ⟨h1, h2, -⟩ := h
  rw [List.take_length] at h1 h2
  exact ⟨h1, h2⟩
def glS (pl : Nat) (Ms : List Rw) (C : List Nat) (k : Nat) : List Nat := if C.any (fun v => tpP pl (Ms.getD v zR) (Ms.getD k zR)) = true then C else insM (fun v => befP pl (Ms.getD k zR) (Ms.getD v zR)) k (C.filter (fun v => !(tpP pl (Ms.getD k zR) (Ms.getD v zR))))
def glL (pl : Nat) (Ms : List Rw) (k : Nat) : List Nat := (List.range k).foldl (glS pl Ms) []
theorem glL_s (pl : Nat) (Ms : List Rw) (k : Nat) : glL pl Ms (k + 1) = glS pl Ms (glL pl Ms k) k := by
  unfold glL
  rw [List.range_succ, List.foldl_append]
  rfl
theorem insM_mem {bf : Nat → Bool} {k v : Nat} {C : List Nat} : v ∈ insM bf k C ↔ v = k ∨ v ∈ C := by
  unfold insM
  rw [List.mem_append, List.mem_cons]
  constructor
  · rintro (h | h | h)
    · exact Or.inr (List.mem_of_mem_take h)
    · exact Or.inl h
    · exact Or.inr (List.mem_of_mem_drop h)
  · rintro (h | h)
    · exact Or.inr (Or.inl h)
    · rw [← List.take_append_drop (posI bf C C.length) C, List.mem_append] at h
      rcases h with h | h
      · exact Or.inl h
      · exact Or.inr (Or.inr h)
theorem glL_in (pl : Nat) (Ms : List Rw) : ∀ (k : Nat), (glL pl Ms k).length ≤ k ∧ ∀ v, v ∈ glL pl Ms k → v < k := by
  intro k
  induction k with
  | zero => exact ⟨Nat.le_refl 0, fun v h => by cases h⟩
  | succ k ih =>
    obtain ⟨h1, h2⟩ := ih
    rw [glL_s]
    unfold glS
    split
    · exact ⟨by omega, fun v h => by have := h2 v h; omega⟩
    · refine ⟨?_, fun v h => ?_⟩
      · rw [insM_len]
        have := List.length_filter_le (fun v => !(tpP pl (Ms.getD k zR) (Ms.getD v zR))) (glL pl Ms k)
        omega
      · rcases insM_mem.mp h with rfl | h
        · omega
        · have := h2 v ((List.mem_filter.mp h).1); omega
theorem anyN {C : List Nat} {P : Nat → Bool} (h : ∀ (j v : Nat), C[j]? = some v → P v = false) : C.any P = false := by
  rw [List.any_eq_false]
  intro v hv
  obtain ⟨j, hj⟩ := List.mem_iff_getElem?.mp hv
  rw [h j v hj]
  exact Bool.false_ne_true
