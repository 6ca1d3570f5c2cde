/-! THE TREE: nodes with their markings and those above them -/
abbrev Nd : Type := Nat × Rw × List Rw
def treeV (f20 f21 : Nat → Int32) (T : List Nd) : Prop := ∀ k nd, T[k]? = some nd → (∀ q, q < 5 → f20 (5 * k + q) = nd.2.1 q) ∧ (k = 0 → f21 0 = -1 ∧ nd.2.2 = []) ∧ (0 < k → nd.1 < k ∧ f21 k = nI nd.1 ∧ ∃ pn, T[nd.1]? = some pn ∧ nd.2.2 = pn.2.1 :: pn.2.2)
def remV (T : List Nd) (up : Int32) (rem : List Rw) : Prop := (up < 0 ∧ rem = []) ∨ ∃ v nv, T[v]? = some nv ∧ up = nI v ∧ rem = nv.2.1 :: nv.2.2
theorem tv_rem {f20 f21 : Nat → Int32} {T : List Nd} (h : treeV f20 f21 T) {v : Nat} {nv : Nd} (hv : T[v]? = some nv) : remV T (f21 v) nv.2.2 := by
  obtain ⟨-, h0, h1⟩ := h v nv hv
  rcases Nat.eq_zero_or_pos v with rfl | hp
  · obtain ⟨e1, e2⟩ := h0 rfl
    exact Or.inl ⟨by rw [e1]; decide, e2⟩
  · obtain ⟨-, e1, pn, hpn, e2⟩ := h1 hp
    exact Or.inr ⟨nv.1, pn, hpn, e1, e2⟩
theorem remV_neg {T : List Nd} {up : Int32} {rem : List Rw} (h : remV T up rem) (hT : T.length < 2 ^ 31) (c : up < 0) : rem = [] := by
  rcases h with h | ⟨v, nv, hv, e, -⟩
  · exact h.2
  · subst e
    have := (List.getElem?_eq_some_iff.mp hv).1
    exact absurd c (nI_pos (by omega))
theorem remV_pos {T : List Nd} {up : Int32} {rem : List Rw} (h : remV T up rem) (c : ¬ up < 0) : ∃ v nv, T[v]? = some nv ∧ up = nI v ∧ rem = nv.2.1 :: nv.2.2 := by
  rcases h with h | h
  · exact absurd h.1 c
  · exact h
theorem lt_of_some {α : Type} {T : List α} {v : Nat} {x : α} (h : T[v]? = some x) : v < T.length := (List.getElem?_eq_some_iff.mp h).1
def eqv (x y : Rw) : Bool := tp5 x y && tp5 y x
def oldG (w : Rw) (up : List Rw) : Bool := up.any (fun x => eqv x w)
theorem io_s {t t2 A9 : Bool} {P : Rw → Bool} {x : Rw} {xs rem : List Rw} (hinv : (t || rem.any P) = A9) (hr : rem = x :: xs) (h : t2 = (t || P x)) : (t2 || xs.any P) = A9 := by
  subst hr
  rw [h, Bool.or_assoc]
  exact hinv
def raM (om : Int32) (x w : Rw) : Rw := fun q => if x q < w q ∧ w q < om then om else w q
def rsM (om : Int32) (x w : Rw) : Bool := (List.range 5).any (fun q => decide (x q < w q ∧ w q < om))
def stM (om : Int32) (s : Rw × Bool) (x : Rw) : Rw × Bool := if tp5 s.1 x then (raM om x s.1, s.2 || rsM om x s.1) else s
def passF (om : Int32) (ch : List Rw) (s : Rw × Bool) : Rw × Bool := ch.foldl (stM om) s
def accM (om : Int32) (ch : List Rw) : Nat → Rw → Rw
  | 0, w => w
  | k + 1, w => if (passF om ch (w, false)).2 then accM om ch k (passF om ch (w, false)).1 else (passF om ch (w, false)).1
def cntF (om : Int32) (w : Rw) : Nat := ((List.range 5).filter (fun q => decide (w q < om))).length
theorem cntF_le5 (om : Int32) (w : Rw) : cntF om w ≤ 5 := Nat.le_trans (List.length_filter_le _ _) (by rw [List.length_range]; exact Nat.le_refl 5)
theorem fl_le {l : List Nat} {P R9 : Nat → Bool} (h : ∀ q, P q = true → R9 q = true) : (l.filter P).length ≤ (l.filter R9).length := by
  induction l with
  | nil => exact Nat.le_refl _
  | cons a l ih =>
    by_cases hp : P a = true
    · rw [List.filter_cons_of_pos hp, List.filter_cons_of_pos (h a hp)]
      exact Nat.succ_le_succ ih
    · rw [List.filter_cons_of_neg hp]
      by_cases hr : R9 a = true
      · rw [List.filter_cons_of_pos hr]; exact Nat.le_succ_of_le ih
      · rw [List.filter_cons_of_neg hr]; exact ih
theorem fl_lt {l : List Nat} {P R9 : Nat → Bool} (h : ∀ q, P q = true → R9 q = true) {a : Nat} (ha : a ∈ l) (h1 : R9 a = true) (h2 : P a = false) : (l.filter P).length < (l.filter R9).length := by
  induction l with
  | nil => cases ha
  | cons b l ih =>
    rcases List.mem_cons.mp ha with rfl | ha
    · rw [List.filter_cons_of_neg (by rw [h2]; exact Bool.false_ne_true), List.filter_cons_of_pos h1]
      exact Nat.lt_succ_of_le (fl_le h)
    · have := ih ha
      by_cases hp : P b = true
      · rw [List.filter_cons_of_pos hp, List.filter_cons_of_pos (h b hp)]
        exact Nat.succ_lt_succ this
      · rw [List.filter_cons_of_neg hp]
        by_cases hr : R9 b = true
        · rw [List.filter_cons_of_pos hr]; exact Nat.lt_succ_of_lt this
        · rw [List.filter_cons_of_neg hr]; exact this
theorem i32_irr (x : Int32) : ¬ x < x := fun h => by have := Int32.lt_iff_toInt_lt.mp h; omega
theorem ra_le (om : Int32) (x w : Rw) : ∀ q, decide (raM om x w q < om) = true → decide (w q < om) = true := by
  intro q h
  have h1 := of_decide_eq_true h
  unfold raM at h1
  split at h1
  · exact absurd h1 (i32_irr om)
  · exact decide_eq_true h1
theorem st_cnt (om : Int32) (s : Rw × Bool) (x : Rw) : cntF om (stM om s x).1 ≤ cntF om s.1 ∧ ((stM om s x).2 = true → s.2 = true ∨ cntF om (stM om s x).1 < cntF om s.1) := by
  unfold stM
  split
  · refine ⟨fl_le (ra_le om x s.1), fun h => ?_⟩
    rcases (Bool.or_eq_true _ _).mp h with h | h
    · exact Or.inl h
    · right
      obtain ⟨q, hq, h2⟩ := List.any_eq_true.mp h
      have h3 := of_decide_eq_true h2
      refine fl_lt (ra_le om x s.1) hq (decide_eq_true h3.2) ?_
      apply decide_eq_false
      show ¬ raM om x s.1 q < om
      unfold raM
      rw [if_pos h3]
      exact i32_irr om
  · exact ⟨Nat.le_refl _, fun h => Or.inl h⟩
theorem pass_cnt (om : Int32) : ∀ (ch : List Rw) (s : Rw × Bool), cntF om (passF om ch s).1 ≤ cntF om s.1 ∧ ((passF om ch s).2 = true → s.2 = true ∨ cntF om (passF om ch s).1 < cntF om s.1) := by
  intro ch
  induction ch with
  | nil => intro s; exact ⟨Nat.le_refl _, fun h => Or.inl h⟩
  | cons x ch ih =>
    intro s
    obtain ⟨h1, h2⟩ := ih (stM om s x)
    obtain ⟨h3, h4⟩ := st_cnt om s x
    refine ⟨Nat.le_trans h1 h3, fun h => ?_⟩
    rcases h2 h with h | h
    · rcases h4 h with h | h
      · exact Or.inl h
      · exact Or.inr (Nat.lt_of_le_of_lt h1 h)
    · exact Or.inr (Nat.lt_of_lt_of_le h h3)
theorem acc_t {om : Int32} {ch : List Rw} {k : Nat} {w w2 v : Rw} (hp : (w2, true) = passF om ch (w, false)) (ha : accM om ch k w = v) (hc : cntF om w < k) : ∃ k2, k = k2 + 1 ∧ accM om ch k2 w2 = v ∧ cntF om w2 < k2 := by
  obtain ⟨k2, rfl⟩ : ∃ k2, k = k2 + 1 := ⟨k - 1, by omega⟩
  refine ⟨k2, rfl, ?_, ?_⟩
  · rw [← ha]
    show _ = if (passF om ch (w, false)).2 then accM om ch k2 (passF om ch (w, false)).1 else (passF om ch (w, false)).1
    rw [← hp]
    rfl
  · have h1 := (pass_cnt om ch (w, false)).2 (by rw [← hp])
    rw [← hp] at h1
    rcases h1 with h | h
    · cases h
    · have h2 : cntF om w2 < cntF om w := h
      omega
theorem acc_f {om : Int32} {ch : List Rw} {k : Nat} {w w2 v : Rw} (hp : (w2, false) = passF om ch (w, false)) (ha : accM om ch k w = v) (hc : cntF om w < k) : w2 = v := by
  obtain ⟨k2, rfl⟩ : ∃ k2, k = k2 + 1 := ⟨k - 1, by omega⟩
  rw [← ha]
  show _ = if (passF om ch (w, false)).2 then accM om ch k2 (passF om ch (w, false)).1 else (passF om ch (w, false)).1
  rw [← hp]
  rfl
def raA (om : Int32) (f20 : Nat → Int32) (v : Nat) (g : Nat → Int32) : Nat → Int32 := fun q => if f20 (5 * v + q) < g q ∧ g q < om then om else g q
theorem raA_row {om : Int32} {f20 g : Nat → Int32} {v q : Nat} {x w : Rw} (h1 : f20 (5 * v + q) = x q) (h2 : g q = w q) : raA om f20 v g q = raM om x w q := by unfold raA raM; rw [h1, h2]
theorem raA_y {om : Int32} {f20 g : Nat → Int32} {v q : Nat} (h1 : ¬ g q ≤ f20 (5 * v + q)) (h2 : ¬ om ≤ g q) : raA om f20 v g q = om := if_pos ⟨Int32.not_le.mp h1, Int32.not_le.mp h2⟩
theorem raA_n1 {om : Int32} {f20 g : Nat → Int32} {v q : Nat} (h1 : g q ≤ f20 (5 * v + q)) : raA om f20 v g q = g q := if_neg (fun h => Int32.not_le.mpr h.1 h1)
theorem raA_n2 {om : Int32} {f20 g : Nat → Int32} {v q : Nat} (h2 : om ≤ g q) : raA om f20 v g q = g q := if_neg (fun h => Int32.not_le.mpr h.2 h2)
def rsA (om : Int32) (f20 : Nat → Int32) (v : Nat) (g : Nat → Int32) (q : Nat) : Prop := f20 (5 * v + q) < g q ∧ g q < om
theorem rs_end {om : Int32} {f20 g : Nat → Int32} {v : Nat} {x w : Rw} {t t2 : Bool} (h1 : ∀ q, q < 5 → f20 (5 * v + q) = x q) (h2 : ∀ q, q < 5 → g q = w q) (ht : t2 = true ↔ (t = true ∨ ∃ q, q < 5 ∧ rsA om f20 v g q)) : t2 = (t || rsM om x w) := by
  refine bb_eq ht ?_
  rw [Bool.or_eq_true]
  unfold rsM
  rw [List.any_eq_true]
  constructor
  · rintro (h | ⟨q, hq, h⟩)
    · exact Or.inl h
    · have hq := List.mem_range.mp hq
      have h := of_decide_eq_true h
      refine Or.inr ⟨q, hq, ?_⟩
      unfold rsA
      rw [h1 q hq, h2 q hq]
      exact h
  · rintro (h | ⟨q, hq, h⟩)
    · exact Or.inl h
    · refine Or.inr ⟨q, List.mem_range.mpr hq, decide_eq_true ?_⟩
      unfold rsA at h
      rw [h1 q hq, h2 q hq] at h
      exact h
theorem rs_t {t t2 : Bool} {q : Nat} {P : Nat → Prop} (ht : t2 = true ↔ (t = true ∨ ∃ j, j < q ∧ P j)) (c : t2 = true) : true = true ↔ (t = true ∨ ∃ j, j < q + 1 ∧ P j) :=
  ⟨fun _ => by rcases ht.mp c with h | ⟨j, hj, h⟩; exact Or.inl h; exact Or.inr ⟨j, Nat.lt_succ_of_lt hj, h⟩, fun _ => rfl⟩
theorem rs_y {t : Bool} {q : Nat} {P : Nat → Prop} (c : P q) : true = true ↔ (t = true ∨ ∃ j, j < q + 1 ∧ P j) := ⟨fun _ => Or.inr ⟨q, Nat.lt_succ_self q, c⟩, fun _ => rfl⟩
theorem rs_n {t t2 : Bool} {q : Nat} {P : Nat → Prop} (ht : t2 = true ↔ (t = true ∨ ∃ j, j < q ∧ P j)) (c : t2 = false) (hn : ¬ P q) : false = true ↔ (t = true ∨ ∃ j, j < q + 1 ∧ P j) :=
  ⟨fun h => by (cases h), fun h => by
    rw [← c]
    refine ht.mpr ?_
    rcases h with h | ⟨j, hj, h⟩
    · exact Or.inl h
    · rcases Nat.lt_or_eq_of_le (Nat.le_of_lt_succ hj) with h1 | rfl
      · exact Or.inr ⟨j, h1, h⟩
      · exact absurd h hn⟩
theorem rs_0 {t : Bool} {P : Nat → Prop} : t = true ↔ (t = true ∨ ∃ j, j < 0 ∧ P j) := ⟨Or.inl, fun h => by rcases h with h | ⟨j, hj, -⟩; exact h; exact absurd hj (Nat.not_lt_zero j)⟩
