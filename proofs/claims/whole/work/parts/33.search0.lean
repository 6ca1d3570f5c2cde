/-! THE CLASS'S SEARCH: its cells, its lists -/
abbrev sw (cI cJ : ClassId) (sa : Nat → Nat) (e0 e1 : Int32) (e4 : Int64) (e5 e9 e12 : Int32) (c2 c3 : Nat → Int32) (t6 t7 : Nat → Int64) (c11 : Nat → Int32) (n8 : Int32) (q8 l8 : Nat) (p8 : Nat → Int64) (n10 : Int32) (q10 l10 : Nat) (p10 : Nat → Int64) : va_W := [(sa 0, .inr (2, [.int e0, .int e1, .ref (sa 2), .ref (sa 3), .long e4, .int e5, .ref (sa 6), .ref (sa 7), .ref (sa 8), .int e9, .ref (sa 10), .ref (sa 11), .int e12])), (sa 2, .inl (cI, 61, .inl c2)), (sa 3, .inl (cI, 60, .inl c3)), (sa 6, .inl (cJ, 6, .inr (.inl t6))), (sa 7, .inl (cJ, 6, .inr (.inl t7))), (sa 11, .inl (cI, 61, .inl c11)), (sa 8, .inr (1, [.ref q8, .int n8])), (q8, .inl (cJ, l8, .inr (.inl p8))), (sa 10, .inr (1, [.ref q10, .int n10])), (q10, .inl (cJ, l10, .inr (.inl p10)))]
def adT (X : List Int64) (x : Int64) : Bool := X.any (fun y => atlR x y)
def adF (x y : Int64) : Bool := !(atlR y x)
def adX (X : List Int64) (x : Int64) : List Int64 := if adT X x = true then X else X.filter (adF x) ++ [x]
def adO (X : List Int64) (old : Nat) (x : Int64) : Nat := if adT X x = true then old else ((X.take old).filter (adF x)).length
def adL (X : List Int64) (len : Nat) (x : Int64) : Nat := if adT X x = true then len else grL (X.filter (adF x)).length len
theorem adL_dbl {X : List Int64} {len : Nat} {x : Int64} (h : 0 < len) : dbl len (adL X len x) := by
  unfold adL
  split
  · exact dbl_r h
  · exact dbl_gr h
theorem adX_len (X : List Int64) (x : Int64) : (adX X x).length ≤ X.length + 1 := by
  unfold adX
  split
  · omega
  · rw [List.length_append, List.length_singleton]
    have := List.length_filter_le (adF x) X
    omega
theorem adX_pos {X : List Int64} {x : Int64} (h : 0 < X.length) : 0 < (adX X x).length := by
  unfold adX
  split
  · exact h
  · rw [List.length_append, List.length_singleton]; omega
theorem adL_le {X : List Int64} {len b : Nat} {x : Int64} (hX : X.length ≤ b) (hl : len ≤ 2 * b) : adL X len x ≤ 2 * b := by
  unfold adL
  split
  · exact hl
  · have := List.length_filter_le (adF x) X
    unfold grL
    split
    · exact hl
    · omega
theorem adX_le {X : List Int64} {len : Nat} {x : Int64} (hX : X.length ≤ len) (h0 : 0 < len) : (adX X x).length ≤ adL X len x := by
  unfold adX adL
  split
  · exact hX
  · rw [List.length_append, List.length_singleton]
    have := List.length_filter_le (adF x) X
    unfold grL
    split
    · omega
    · omega
theorem adO_le {X : List Int64} {old : Nat} {x : Int64} (h : old ≤ X.length) : adO X old x ≤ (adX X x).length := by
  unfold adO adX
  split
  · exact h
  · rw [List.length_append, List.length_singleton]
    have : ((X.take old).filter (adF x)).length ≤ (X.filter (adF x)).length := ((List.take_sublist old X).filter (adF x)).length_le
    omega
/-- while the least ones are looked through -/
def al2 (f : Nat → Int64) (X : List Int64) (old : Nat) (x : Int64) (k kp ok : Nat) : Prop := kp = ((X.take k).filter (adF x)).length ∧ ok = ((X.take (min k old)).filter (adF x)).length ∧ listV f ((X.take k).filter (adF x)) ∧ ∀ j y, k ≤ j → X[j]? = some y → f j = y
theorem al2_0 {f : Nat → Int64} {X : List Int64} {old : Nat} {x : Int64} (h : listV f X) : al2 f X old x 0 0 0 := ⟨by simp, by simp, fun k y hy => by simp at hy, fun j y _ hy => h j y hy⟩
theorem al2_le {f : Nat → Int64} {X : List Int64} {old : Nat} {x : Int64} {k kp ok : Nat} (h : al2 f X old x k kp ok) : kp ≤ k ∧ ok ≤ k := by
  obtain ⟨h1, h2, -⟩ := h
  have a := List.length_filter_le (adF x) (X.take k)
  have b := List.length_filter_le (adF x) (X.take (min k old))
  rw [List.length_take] at a b
  omega
theorem min_s1 {k old : Nat} (h : k < old) : min (k + 1) old = min k old + 1 := by omega
theorem min_s2 {k old : Nat} (h : old ≤ k) : min (k + 1) old = min k old := by omega
theorem al2_skip {f : Nat → Int64} {X : List Int64} {old : Nat} {x y : Int64} {k kp ok : Nat} (h : al2 f X old x k kp ok) (hy : X[k]? = some y) (c : atlR y x = true) : al2 f X old x (k + 1) kp ok := by
  obtain ⟨h1, h2, h3, h4⟩ := h
  have hF : adF x y = false := by unfold adF; rw [c]; rfl
  have e : (X.take (k + 1)).filter (adF x) = (X.take k).filter (adF x) := by rw [take_s hy, List.filter_append]; simp [hF]
  refine ⟨by rw [e]; exact h1, ?_, by rw [e]; exact h3, fun j z hj => h4 j z (by omega)⟩
  by_cases ho : k < old
  · rw [min_s1 ho, show min k old = k by omega, take_s hy, List.filter_append]
    simp [hF]
    rw [h2, show min k old = k by omega]
  · rw [min_s2 (by omega)]; exact h2
theorem al2_keep {f : Nat → Int64} {X : List Int64} {old : Nat} {x y : Int64} {k kp ok : Nat} (h : al2 f X old x k kp ok) (hy : X[k]? = some y) (c : atlR y x = false) : al2 (vp_updL f kp y) X old x (k + 1) (kp + 1) (ok + if k < old then 1 else 0) := by
  have hle := al2_le h
  obtain ⟨h1, h2, h3, h4⟩ := h
  have hF : adF x y = true := by unfold adF; rw [c]; rfl
  have e : (X.take (k + 1)).filter (adF x) = (X.take k).filter (adF x) ++ [y] := by rw [take_s hy, List.filter_append]; simp [hF]
  refine ⟨by rw [e, List.length_append, ← h1]; rfl, ?_, ?_, fun j z hj hz => ?_⟩
  · by_cases ho : k < old
    · rw [min_s1 ho, show min k old = k by omega, take_s hy, List.filter_append, if_pos ho]
      simp [hF]
      rw [h2, show min k old = k by omega]
    · rw [min_s2 (by omega), if_neg ho, Nat.add_zero]; exact h2
  · rw [e, h1]; exact listV_put h3
  · rw [pk_uLn (by omega)]; exact h4 j z (by omega) hz
theorem al2_end {f : Nat → Int64} {X : List Int64} {old : Nat} {x : Int64} {kp ok : Nat} (h : al2 f X old x X.length kp ok) (ho : old ≤ X.length) : kp = (X.filter (adF x)).length ∧ ok = ((X.take old).filter (adF x)).length ∧ listV f (X.filter (adF x)) := by
  obtain ⟨h1, h2, h3, -⟩ := h
  rw [List.take_length] at h1 h3
  rw [show min X.length old = old by omega] at h2
  exact ⟨h1, h2, h3⟩
abbrev Sg : Type := List Int64 × Nat × Nat
def adS (s : Sg) (x : Int64) : Sg := (adX s.1 x, adO s.1 s.2.1 x, adL s.1 s.2.2 x)
def sbI (t6 t7 : Nat → Int64) (y : Int64) (t : Nat) (s : Sg) : Sg := (List.range t).foldl (fun s u => adS s (lssR y (t7 u) + t6 u)) s
def sbL (tr : Nat) (t6 t7 : Nat → Int64) (Y : List Int64) (s : Sg) : Sg := Y.foldl (fun s y => sbI t6 t7 y tr s) s
theorem sbI_s (t6 t7 : Nat → Int64) (y : Int64) (t : Nat) (s : Sg) : sbI t6 t7 y (t + 1) s = adS (sbI t6 t7 y t s) (lssR y (t7 t) + t6 t) := by
  unfold sbI
  rw [List.range_succ, List.foldl_append]
  rfl
theorem sbL_s {tr : Nat} {t6 t7 : Nat → Int64} {Y : List Int64} {s : Sg} {k : Nat} {y : Int64} (hy : Y[k]? = some y) : sbL tr t6 t7 (Y.take (k + 1)) s = sbI t6 t7 y tr (sbL tr t6 t7 (Y.take k) s) := by
  unfold sbL
  rw [take_s hy, List.foldl_append]
  rfl
/-- what stays so while least ones come: s is a state with at most b of them -/
def okS (b : Nat) (s : Sg) : Prop := s.1.length ≤ b ∧ s.1.length ≤ s.2.2 ∧ s.2.2 ≤ 2 * 1450 ∧ s.2.1 ≤ s.1.length ∧ 0 < s.2.2
theorem okS_s {b : Nat} {s : Sg} (h : okS b s) (hb : b ≤ 1450) (x : Int64) : okS (b + 1) (adS s x) ∧ dbl s.2.2 (adS s x).2.2 := by
  obtain ⟨h1, h2, h3, h4, h5⟩ := h
  have a := adX_len s.1 x
  have d : dbl s.2.2 (adL s.1 s.2.2 x) := adL_dbl h5
  have d2 := d.2.1
  exact ⟨⟨by show (adX s.1 x).length ≤ b + 1; omega, adX_le h2 h5, adL_le (by omega) h3, adO_le h4, by show 0 < adL s.1 s.2.2 x; omega⟩, d⟩
theorem okS_m {b c : Nat} {s : Sg} (h : okS b s) (hb : b ≤ c) : okS c s := ⟨Nat.le_trans h.1 hb, h.2⟩
theorem okS_I {b : Nat} {s : Sg} (t6 t7 : Nat → Int64) (y : Int64) (h : okS b s) : ∀ t, b + t ≤ 1451 → okS (b + t) (sbI t6 t7 y t s) ∧ dbl s.2.2 (sbI t6 t7 y t s).2.2 := by
  intro t
  induction t with
  | zero => intro _; exact ⟨h, dbl_r h.2.2.2.2⟩
  | succ t ih =>
    intro hb
    obtain ⟨h1, h2⟩ := ih (by omega)
    rw [sbI_s]
    obtain ⟨h3, h4⟩ := okS_s h1 (by omega) (lssR y (t7 t) + t6 t)
    exact ⟨h3, dbl_t h2 h4⟩
theorem okS_L {b tr : Nat} {s : Sg} (t6 t7 : Nat → Int64) (htr : tr ≤ 6) (h : okS b s) : ∀ (Y : List Int64), b + 6 * Y.length ≤ 1451 → okS (b + 6 * Y.length) (sbL tr t6 t7 Y s) ∧ dbl s.2.2 (sbL tr t6 t7 Y s).2.2 := by
  intro Y
  induction Y generalizing b s with
  | nil => intro _; exact ⟨h, dbl_r h.2.2.2.2⟩
  | cons y Y ih =>
    intro hb
    rw [List.length_cons] at hb
    obtain ⟨h1, h2⟩ := okS_I t6 t7 y h tr (by omega)
    obtain ⟨h3, h4⟩ := ih (okS_m h1 (show b + tr ≤ b + 6 by omega)) (by omega)
    exact ⟨by rw [List.length_cons, show b + 6 * (Y.length + 1) = b + 6 + 6 * Y.length by omega]; exact h3, dbl_t h2 h4⟩
/-- adding a row of markings to a pile: its length -/
def apL (k len : Nat) : Nat → Nat
  | 0 => len
  | j + 1 => grL (k + j) (apL k len j)
theorem apL_dbl {k len : Nat} (h : 0 < len) : ∀ j, dbl len (apL k len j) := by
  intro j
  induction j with
  | zero => exact dbl_r h
  | succ j ih => exact dbl_t ih (dbl_gr (Nat.lt_of_lt_of_le h ih.2.1))
theorem apL_mono {k len : Nat} (h : 0 < len) : ∀ i j, dbl (apL k len i) (apL k len (i + j)) := by
  intro i j
  induction j with
  | zero => exact dbl_r (Nat.lt_of_lt_of_le h (apL_dbl h i).2.1)
  | succ j ih => exact dbl_t ih (dbl_gr (Nat.lt_of_lt_of_le h (apL_dbl h (i + j)).2.1))
theorem apL_ge {k len : Nat} (h : k ≤ len) (h0 : 0 < len) : ∀ j, k + j ≤ apL k len j := by
  intro j
  induction j with
  | zero => exact h
  | succ j ih =>
    show k + (j + 1) ≤ grL (k + j) (apL k len j)
    have := (apL_dbl (k := k) h0 j).2.1
    unfold grL
    split
    · omega
    · omega
theorem apL_le {k len c : Nat} (hl : len ≤ 2 * c) : ∀ j, k + j ≤ c + 1 → apL k len j ≤ 2 * c := by
  intro j
  induction j with
  | zero => intro _; exact hl
  | succ j ih =>
    intro h
    have := ih (by omega)
    show grL (k + j) (apL k len j) ≤ 2 * c
    unfold grL
    split
    · exact this
    · omega
def endC (X : List Int64) (old : Nat) (fi : Int64) (i : Nat) : Int32 := if adT X fi = true then nI 1 else if 200 < X.length then -1 else if old = X.length then nI 0 else if i = 60 then -1 else nI 2
theorem take_all {X : List Int64} : X.take X.length = X := List.take_length
