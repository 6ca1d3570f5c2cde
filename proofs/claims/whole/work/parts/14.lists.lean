/-! ROWS OF FIVE in an array of numbers, as a list -/
abbrev Rw : Type := Nat → Int32
def tp5 (f g : Rw) : Bool := (List.range 5).all (fun q => decide (¬ f q < g q))
theorem tp5_iff {f g : Rw} : tp5 f g = true ↔ ∀ q, q < 5 → ¬ f q < g q := by
  unfold tp5
  rw [List.all_eq_true]
  exact ⟨fun h q hq => of_decide_eq_true (h q (List.mem_range.mpr hq)), fun h q hq => decide_eq_true (h q (List.mem_range.mp hq))⟩
theorem tpB_row {f g : Nat → Int32} {x y : Nat} {u v : Rw} (h1 : ∀ q, q < 5 → f (x + q) = u q) (h2 : ∀ q, q < 5 → g (y + q) = v q) : tpB f x g y = tp5 u v := by
  refine bb_eq tpB_iff ?_
  rw [tp5_iff]
  exact ⟨fun h q hq => by rw [h1 q hq, h2 q hq]; exact h q hq, fun h q hq => by have := h q hq; rw [h1 q hq, h2 q hq] at this; exact this⟩
def rowsV (f : Nat → Int32) (off : Nat) (X : List Rw) : Prop := ∀ k x, X[k]? = some x → ∀ q, q < 5 → f (off + 5 * k + q) = x q
def tkIn (X : List Rw) (w : Rw) : List Rw := if X.any (fun x => tp5 w x) then X else X.filter (fun x => !(tp5 x w)) ++ [w]
/-- five places moved from b to a, the first q of them -/
def mvN (f : Nat → Int32) (a b q : Nat) : Nat → Int32 := fun z => if a ≤ z ∧ z < a + q then f (b + (z - a)) else f z
def wrN (f w : Nat → Int32) (a q : Nat) : Nat → Int32 := fun z => if a ≤ z ∧ z < a + q then w (z - a) else f z
theorem mvN_0 (f : Nat → Int32) (a b : Nat) : mvN f a b 0 = f := funext fun z => if_neg (by omega)
theorem wrN_0 (f w : Nat → Int32) (a : Nat) : wrN f w a 0 = f := funext fun z => if_neg (by omega)
theorem mvN_src {f : Nat → Int32} {a b q : Nat} (h : a ≤ b) : mvN f a b q (b + q) = f (b + q) := if_neg (by omega)
theorem mvN_s (f : Nat → Int32) (a b q : Nat) : upd (mvN f a b q) (a + q) (f (b + q)) = mvN f a b (q + 1) := by
  funext z
  unfold upd mvN
  by_cases h1 : z = a + q
  · subst h1; rw [if_pos rfl, if_pos (by omega), show a + q - a = q by omega]
  · by_cases h2 : a ≤ z ∧ z < a + q
    · rw [if_neg h1, if_pos h2, if_pos (by omega)]
    · rw [if_neg h1, if_neg h2, if_neg (by omega)]
theorem wrN_s (f w : Nat → Int32) (a q : Nat) : upd (wrN f w a q) (a + q) (w q) = wrN f w a (q + 1) := by
  funext z
  unfold upd wrN
  by_cases h1 : z = a + q
  · subst h1; rw [if_pos rfl, if_pos (by omega), show a + q - a = q by omega]
  · by_cases h2 : a ≤ z ∧ z < a + q
    · rw [if_neg h1, if_pos h2, if_pos (by omega)]
    · rw [if_neg h1, if_neg h2, if_neg (by omega)]
def ti2 (f : Nat → Int32) (X : List Rw) (w : Rw) (k td : Nat) : Prop := td = ((X.take k).filter (fun x => !(tp5 x w))).length ∧ rowsV f 0 ((X.take k).filter (fun x => !(tp5 x w))) ∧ ∀ j x, k ≤ j → X[j]? = some x → ∀ q, q < 5 → f (5 * j + q) = x q
theorem ti2_0 {f : Nat → Int32} {X : List Rw} {w : Rw} (h : rowsV f 0 X) : ti2 f X w 0 0 := by
  refine ⟨by simp, fun k x hx => by simp at hx, fun j x _ hx q hq => ?_⟩
  have := h j x hx q hq
  rw [Nat.zero_add] at this
  exact this
theorem ti2_le {f : Nat → Int32} {X : List Rw} {w : Rw} {k td : Nat} (h : ti2 f X w k td) : td ≤ k := by
  rw [h.1]
  exact Nat.le_trans (List.length_filter_le _ _) (by rw [List.length_take]; exact Nat.min_le_left _ _)
theorem take_s {α : Type} {X : List α} {k : Nat} {x : α} (hx : X[k]? = some x) : X.take (k + 1) = X.take k ++ [x] := by
  rw [List.take_add_one, hx]; rfl
theorem ti2_skip {f : Nat → Int32} {X : List Rw} {w x : Rw} {k td : Nat} (h : ti2 f X w k td) (hx : X[k]? = some x) (ht : tp5 x w = true) : ti2 f X w (k + 1) td := by
  obtain ⟨h1, h2, h3⟩ := h
  have e : (X.take (k + 1)).filter (fun x => !(tp5 x w)) = (X.take k).filter (fun x => !(tp5 x w)) := by
    rw [take_s hx, List.filter_append]
    simp [ht]
  refine ⟨by rw [e]; exact h1, by rw [e]; exact h2, fun j y hj => h3 j y (by omega)⟩
theorem ti2_keep {f : Nat → Int32} {X : List Rw} {w x : Rw} {k td : Nat} (h : ti2 f X w k td) (hx : X[k]? = some x) (ht : tp5 x w = false) : ti2 (mvN f (5 * td) (5 * k) 5) X w (k + 1) (td + 1) := by
  have hle := ti2_le h
  obtain ⟨h1, h2, h3⟩ := h
  have e : (X.take (k + 1)).filter (fun x => !(tp5 x w)) = (X.take k).filter (fun x => !(tp5 x w)) ++ [x] := by
    rw [take_s hx, List.filter_append]
    simp [ht]
  refine ⟨by rw [e, List.length_append, ← h1]; rfl, ?_, fun j y hj hy q hq => ?_⟩
  · rw [e]
    intro j y hy q hq
    rw [Nat.zero_add]
    by_cases hj : j < td
    · rw [List.getElem?_append_left (by omega)] at hy
      have := h2 j y hy q hq
      rw [Nat.zero_add] at this
      rw [← this]
      exact if_neg (by omega)
    · rw [List.getElem?_append_right (by omega)] at hy
      have h0 : j - ((X.take k).filter (fun x => !(tp5 x w))).length < 1 := (List.getElem?_eq_some_iff.mp hy).1
      have hjt : j = td := by omega
      rw [show j - ((X.take k).filter (fun x => !(tp5 x w))).length = 0 by omega] at hy
      cases hy
      rw [← h3 k x (Nat.le_refl k) hx q hq]
      unfold mvN
      rw [if_pos (by omega)]
      congr 1
      omega
  · rw [← h3 j y (by omega) hy q hq]
    exact if_neg (by omega)
theorem ti2_end {f : Nat → Int32} {X : List Rw} {w v : Rw} {td : Nat} (h : ti2 f X w X.length td) (hv : ∀ q, q < 5 → v q = w q) (hn : ∀ q x, q < X.length → X[q]? = some x → tp5 w x = false) : rowsV (wrN f v (5 * td) 5) 0 (tkIn X w) ∧ td + 1 = (tkIn X w).length := by
  obtain ⟨h1, h2, -⟩ := h
  rw [List.take_length] at h1 h2
  have e : tkIn X w = X.filter (fun x => !(tp5 x w)) ++ [w] := by
    unfold tkIn
    rw [if_neg]
    intro ha
    obtain ⟨x, hx, hx2⟩ := List.any_eq_true.mp ha
    obtain ⟨q, hq⟩ := List.mem_iff_getElem?.mp hx
    rw [hn q x (List.getElem?_eq_some_iff.mp hq).1 hq] at hx2
    cases hx2
  rw [e]
  refine ⟨?_, by rw [List.length_append, ← h1]; rfl⟩
  intro j y hy q hq
  rw [Nat.zero_add]
  by_cases hj : j < td
  · rw [List.getElem?_append_left (by omega)] at hy
    have := h2 j y hy q hq
    rw [Nat.zero_add] at this
    rw [← this]
    exact if_neg (by omega)
  · rw [List.getElem?_append_right (by omega)] at hy
    have h0 : j - (X.filter (fun x => !(tp5 x w))).length < 1 := (List.getElem?_eq_some_iff.mp hy).1
    rw [show j - (X.filter (fun x => !(tp5 x w))).length = 0 by omega] at hy
    cases hy
    unfold wrN
    rw [if_pos (by omega), show 5 * j + q - 5 * td = q by omega]
    exact hv q hq
theorem tkIn_hit {X : List Rw} {w x : Rw} {k : Nat} (hx : X[k]? = some x) (ht : tp5 w x = true) : tkIn X w = X := if_pos (List.any_eq_true.mpr ⟨x, List.mem_of_getElem? hx, ht⟩)
theorem tkIn_len (X : List Rw) (w : Rw) : (tkIn X w).length ≤ X.length + 1 := by
  unfold tkIn
  split
  · omega
  · rw [List.length_append]
    have := List.length_filter_le (fun x => !(tp5 x w)) X
    simp
    exact this
theorem rowsV_at {f : Nat → Int32} {off : Nat} {X : List Rw} (h : rowsV f off X) {k : Nat} (hk : k < X.length) : ∃ x, X[k]? = some x ∧ ∀ q, q < 5 → f (off + 5 * k + q) = x q :=
  ⟨X[k], List.getElem?_eq_getElem hk, h k _ (List.getElem?_eq_getElem hk)⟩
theorem rowsV_at0 {f : Nat → Int32} {X : List Rw} (h : rowsV f 0 X) {k : Nat} (hk : k < X.length) : ∃ x, X[k]? = some x ∧ ∀ q, q < 5 → f (5 * k + q) = x q := by
  obtain ⟨x, h1, h2⟩ := rowsV_at h hk
  exact ⟨x, h1, fun q hq => by have := h2 q hq; rw [Nat.zero_add] at this; exact this⟩
theorem any_rows {f g : Nat → Int32} {off : Nat} {X : List Rw} {v : Rw} (h : rowsV g off X) (hv : ∀ q, q < 5 → f (0 + q) = v q) : X.any (fun x => tp5 v x) = true ↔ ∃ q, q < X.length ∧ tpB f 0 g (off + 5 * q) = true := by
  rw [List.any_eq_true]
  constructor
  · rintro ⟨x, hx, ht⟩
    obtain ⟨k, hk⟩ := List.mem_iff_getElem?.mp hx
    refine ⟨k, (List.getElem?_eq_some_iff.mp hk).1, ?_⟩
    rw [tpB_row hv (h k x hk)]
    exact ht
  · rintro ⟨k, hk, ht⟩
    obtain ⟨x, h1, h2⟩ := rowsV_at h hk
    rw [tpB_row hv h2] at ht
    exact ⟨x, List.mem_of_getElem? h1, ht⟩
