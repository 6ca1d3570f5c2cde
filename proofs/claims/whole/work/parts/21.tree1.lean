/-! what is told of the tree: lives, limits, their order -/
def zR : Rw := fun _ => 0
def canR (f4 : Nat → Int32) (x : Rw) (t : Nat) : Bool := tp5 x (fun q => f4 (5 * t + q))
theorem canM_row {tr : Nat} {f4 f : Nat → Int32} {y t : Nat} {x : Rw} (htr : tr ≤ 6) (ht : t < tr) (h : ∀ q, q < 5 → f (y + q) = x q) : canM tr f4 f y (nI t) = canR f4 x t := by
  unfold canM canR
  rw [inB_is ht (by omega), Bool.true_and, nI_clamp (by omega), tpB_row h (fun q _ => rfl)]
def livI (f4 : Nat → Int32) (x : Rw) : Nat → Int32 → Int32
  | 0, a => a
  | t + 1, a => livI f4 x t a ||| (if canR f4 x t = true then nI 1 <<< (nI t &&& 31) else nI 0)
def livL (tr : Nat) (f4 : Nat → Int32) (Ms : List Rw) (a : Int32) : Int32 := Ms.foldl (fun a x => livI f4 x tr a) a
theorem livL_s {tr : Nat} {f4 : Nat → Int32} {Ms : List Rw} {a : Int32} {k : Nat} {x : Rw} (hx : Ms[k]? = some x) : livL tr f4 (Ms.take (k + 1)) a = livI f4 x tr (livL tr f4 (Ms.take k) a) := by
  unfold livL
  rw [take_s hx, List.foldl_append]
  rfl
def befM (x y : Rw) : Bool := match (List.range 5).find? (fun q => decide (¬ x q - y q = 0)) with
  | some q => decide (x q - y q < 0)
  | none => false
theorem bef_hit {x y : Rw} {q : Nat} (hq : q < 5) (h0 : ∀ j, j < q → x j - y j = 0) (h1 : ¬ x q - y q = 0) : befM x y = decide (x q - y q < 0) := by
  unfold befM
  have : (List.range 5).find? (fun q => decide (¬ x q - y q = 0)) = some q := by
    rw [List.find?_range_eq_some]
    exact ⟨decide_eq_true h1, List.mem_range.mpr hq, fun j hj => by rw [h0 j hj]; rfl⟩
  rw [this]
theorem bef_none {x y : Rw} (h0 : ∀ j, j < 5 → x j - y j = 0) : befM x y = false := by
  unfold befM
  have : (List.range 5).find? (fun q => decide (¬ x q - y q = 0)) = none := by
    rw [List.find?_eq_none]
    intro j hj
    rw [h0 j (List.mem_range.mp hj)]
    decide
  rw [this]
def limOK (Ms : List Rw) (k o : Nat) : Bool := !(tp5 (Ms.getD o zR) (Ms.getD k zR)) || (tp5 (Ms.getD k zR) (Ms.getD o zR) && decide (k ≤ o))
def limB (Ms : List Rw) (k : Nat) : Bool := (List.range Ms.length).all (fun o => limOK Ms k o)
def posI (bf : Nat → Bool) (C : List Nat) : Nat → Nat
  | 0 => 0
  | a + 1 => if bf (C.getD a 0) = true then posI bf C a else a + 1
def insM (bf : Nat → Bool) (k : Nat) (C : List Nat) : List Nat := C.take (posI bf C C.length) ++ k :: C.drop (posI bf C C.length)
def limS (Ms : List Rw) (C : List Nat) (k : Nat) : List Nat := if limB Ms k = true then insM (fun j => befM (Ms.getD k zR) (Ms.getD j zR)) k C else C
def limL (Ms : List Rw) (k : Nat) : List Nat := (List.range k).foldl (limS Ms) []
theorem limL_s (Ms : List Rw) (k : Nat) : limL Ms (k + 1) = limS Ms (limL Ms k) k := by
  unfold limL
  rw [List.range_succ, List.foldl_append]
  rfl
theorem posI_le (bf : Nat → Bool) (C : List Nat) : ∀ a, posI bf C a ≤ a := by
  intro a
  induction a with
  | zero => exact Nat.le_refl 0
  | succ a ih =>
    show (if bf (C.getD a 0) = true then posI bf C a else a + 1) ≤ a + 1
    split
    · omega
    · omega
theorem insM_len (bf : Nat → Bool) (k : Nat) (C : List Nat) : (insM bf k C).length = C.length + 1 := by
  unfold insM
  have := posI_le bf C C.length
  rw [List.length_append, List.length_cons, List.length_take, List.length_drop]
  omega
def idxV (f : Nat → Int32) (C : List Nat) : Prop := ∀ j v, C[j]? = some v → f j = nI v
/-- while a place is made free: the first a stand, the others stand one further -/
def insV (f : Nat → Int32) (C : List Nat) (a : Nat) : Prop := (∀ j v, j < a → C[j]? = some v → f j = nI v) ∧ ∀ j v, a ≤ j → C[j]? = some v → f (j + 1) = nI v
theorem insV_0 {f : Nat → Int32} {C : List Nat} (h : idxV f C) : insV f C C.length := ⟨fun j v _ hv => h j v hv, fun j v hj hv => by have := lt_of_some hv; omega⟩
theorem insV_s {f : Nat → Int32} {C : List Nat} {a v : Nat} (h : insV f C (a + 1)) (hv : C[a]? = some v) : insV (upd f (a + 1) (nI v)) C a := by
  refine ⟨fun j w hj hw => ?_, fun j w hj hw => ?_⟩
  · rw [pk_un (by omega)]; exact h.1 j w (by omega) hw
  · rcases Nat.lt_or_eq_of_le hj with h1 | rfl
    · rw [pk_un (by omega)]; exact h.2 j w h1 hw
    · rw [pk_us]; rw [hv] at hw; cases hw; rfl
theorem insV_end {f : Nat → Int32} {C : List Nat} {bf : Nat → Bool} {k : Nat} (h : insV f C (posI bf C C.length)) : idxV (upd f (posI bf C C.length) (nI k)) (insM bf k C) := by
  have hle := posI_le bf C C.length
  unfold insM
  generalize posI bf C C.length = a at h hle ⊢
  intro j v hv
  by_cases h1 : j < a
  · rw [List.getElem?_append_left (by rw [List.length_take]; omega), List.getElem?_take_of_lt h1] at hv
    rw [pk_un (by omega)]
    exact h.1 j v h1 hv
  · rw [List.getElem?_append_right (by rw [List.length_take]; omega), List.length_take, show min a C.length = a by omega] at hv
    rcases Nat.lt_or_eq_of_le (Nat.le_of_not_lt h1) with h2 | rfl
    · obtain ⟨i, rfl⟩ : ∃ i, j = i + 1 := ⟨j - 1, by omega⟩
      rw [show i + 1 - a = (i - a) + 1 by omega, List.getElem?_cons_succ, List.getElem?_drop, show a + (i - a) = i by omega] at hv
      rw [pk_un (by omega)]
      exact h.2 i v (by omega) hv
    · rw [Nat.sub_self] at hv
      cases hv
      exact pk_us
theorem posI_y {bf : Nat → Bool} {C : List Nat} {a : Nat} (h : bf (C.getD a 0) = true) : posI bf C (a + 1) = posI bf C a := if_pos h
theorem posI_n {bf : Nat → Bool} {C : List Nat} {a : Nat} (h : bf (C.getD a 0) = false) : posI bf C (a + 1) = a + 1 := if_neg (by rw [h]; exact Bool.false_ne_true)
theorem getD_of {α : Type} {X : List α} {k : Nat} {x d : α} (h : X[k]? = some x) : X.getD k d = x := by rw [List.getD_eq_getElem?_getD, h]; rfl
theorem limB_end {f : Nat → Int32} {Ms : List Rw} (hX : rowsV f 0 Ms) {k : Nat} (hk : k < Ms.length) {t : Bool} (ht : t = true ↔ ∀ o, o < Ms.length → (tpB f (5 * o) f (5 * k) = true → (tpB f (5 * k) f (5 * o) = true ∧ k ≤ o))) : t = limB Ms k := by
  refine bb_eq ht ?_
  unfold limB
  rw [List.all_eq_true]
  obtain ⟨x, hx, hxr⟩ := rowsV_at0 hX hk
  have key : ∀ o, o < Ms.length → (limOK Ms k o = true ↔ (tpB f (5 * o) f (5 * k) = true → (tpB f (5 * k) f (5 * o) = true ∧ k ≤ o))) := by
    intro o ho
    obtain ⟨y, hy, hyr⟩ := rowsV_at0 hX ho
    rw [tpB_row hyr hxr, tpB_row hxr hyr]
    unfold limOK
    rw [getD_of hx, getD_of hy]
    cases tp5 y x <;> cases tp5 x y <;> simp
  exact ⟨fun h o ho => (key o ho).mp (h o (List.mem_range.mpr ho)), fun h o ho => (key o (List.mem_range.mp ho)).mpr (h o (List.mem_range.mp ho))⟩
theorem limL_in (Ms : List Rw) : ∀ (k : Nat) (v : Nat), v ∈ limL Ms k → v < k := by
  intro k
  induction k with
  | zero => intro v h; cases h
  | succ k ih =>
    intro v h
    rw [limL_s] at h
    unfold limS at h
    split at h
    · unfold insM at h
      rcases List.mem_append.mp h with h | h
      · have := ih v (List.mem_of_mem_take h); omega
      · rcases List.mem_cons.mp h with rfl | h
        · omega
        · have := ih v (List.mem_of_mem_drop h); omega
    · have := ih v h; omega
theorem limL_len (Ms : List Rw) : ∀ (k : Nat), (limL Ms k).length ≤ k := by
  intro k
  induction k with
  | zero => exact Nat.le_refl 0
  | succ k ih =>
    rw [limL_s]
    unfold limS
    split
    · rw [insM_len]; omega
    · omega
