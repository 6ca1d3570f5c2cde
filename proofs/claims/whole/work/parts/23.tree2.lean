/-! the tree as it grows -/
def fwM (om : Int32) (f4 f5 : Nat → Int32) (x : Rw) (t : Nat) : Rw := fun q => if x q = om then om else x q + f5 (5 * t + q) - f4 (5 * t + q)
def fwA (om : Int32) (f4 f5 f20 : Nat → Int32) (k t : Nat) : Nat → Int32 := fun q => if f20 (5 * k + q) = om then om else f20 (5 * k + q) + f5 (5 * t + q) - f4 (5 * t + q)
theorem fwA_y {om : Int32} {f4 f5 f20 : Nat → Int32} {k t q : Nat} (h : f20 (5 * k + q) = om) : fwA om f4 f5 f20 k t q = om := if_pos h
theorem fwA_n {om : Int32} {f4 f5 f20 : Nat → Int32} {k t q : Nat} (h : ¬ f20 (5 * k + q) = om) : fwA om f4 f5 f20 k t q = f20 (5 * k + q) + f5 (5 * t + q) - f4 (5 * t + q) := if_neg h
theorem fwA_row {om : Int32} {f4 f5 f20 : Nat → Int32} {k t q : Nat} {x : Rw} (h : f20 (5 * k + q) = x q) : fwA om f4 f5 f20 k t q = fwM om f4 f5 x t q := by unfold fwA fwM; rw [h]
def kidsG (can : Nat → Bool) (kid : Nat → Rw) (k : Nat) (ch : List Rw) : Nat → List Nd → List Nd
  | 0, T => T
  | t + 1, T => if (kidsG can kid k ch t T).length ≤ 1000 ∧ can t = true then kidsG can kid k ch t T ++ [(k, kid t, ch)] else kidsG can kid k ch t T
def stepG (can : Rw → Nat → Bool) (kid : List Rw → Nat → Rw) (tr : Nat) (T : List Nd) (k : Nat) : List Nd := match T[k]? with
  | none => T
  | some nd => if oldG nd.2.1 nd.2.2 = true then T else kidsG (can nd.2.1) (kid (nd.2.1 :: nd.2.2)) k (nd.2.1 :: nd.2.2) tr T
def growG (can : Rw → Nat → Bool) (kid : List Rw → Nat → Rw) (tr : Nat) (x : Rw) : Nat → List Nd
  | 0 => [(0, x, [])]
  | k + 1 => if (growG can kid tr x k).length ≤ 1000 then stepG can kid tr (growG can kid tr x k) k else growG can kid tr x k
def kidR (om : Int32) (f4 f5 : Nat → Int32) (ch : List Rw) (t : Nat) : Rw := accM om ch 6 (fwM om f4 f5 (ch.headD zR) t)
theorem kids_pre (can : Nat → Bool) (kid : Nat → Rw) (k : Nat) (ch : List Rw) : ∀ (t : Nat) (T : List Nd) (j : Nat) (nd : Nd), T[j]? = some nd → (kidsG can kid k ch t T)[j]? = some nd := by
  intro t
  induction t with
  | zero => intro T j nd h; exact h
  | succ t ih =>
    intro T j nd h
    show (if _ then _ else _)[j]? = some nd
    split
    · rw [List.getElem?_append_left (lt_of_some (ih T j nd h))]; exact ih T j nd h
    · exact ih T j nd h
theorem kids_len (can : Nat → Bool) (kid : Nat → Rw) (k : Nat) (ch : List Rw) : ∀ (t : Nat) (T : List Nd), T.length ≤ (kidsG can kid k ch t T).length ∧ (T.length ≤ 1001 → (kidsG can kid k ch t T).length ≤ 1001) := by
  intro t
  induction t with
  | zero => intro T; exact ⟨Nat.le_refl _, id⟩
  | succ t ih =>
    intro T
    obtain ⟨h1, h2⟩ := ih T
    show T.length ≤ (if _ then _ else _ : List Nd).length ∧ (_ → (if _ then _ else _ : List Nd).length ≤ 1001)
    split
    · rw [List.length_append, List.length_singleton]
      exact ⟨by omega, fun h => by omega⟩
    · exact ⟨h1, h2⟩
theorem kids_y {can : Nat → Bool} {kid : Nat → Rw} {k : Nat} {ch : List Rw} {t : Nat} {T : List Nd} (h1 : (kidsG can kid k ch t T).length ≤ 1000) (h2 : can t = true) : kidsG can kid k ch (t + 1) T = kidsG can kid k ch t T ++ [(k, kid t, ch)] := if_pos ⟨h1, h2⟩
theorem kids_n {can : Nat → Bool} {kid : Nat → Rw} {k : Nat} {ch : List Rw} {t : Nat} {T : List Nd} (h2 : can t = false) : kidsG can kid k ch (t + 1) T = kidsG can kid k ch t T := if_neg (fun h => by rw [h2] at h; exact absurd h.2 Bool.false_ne_true)
theorem kids_stop {can : Nat → Bool} {kid : Nat → Rw} {k : Nat} {ch : List Rw} {t : Nat} {T : List Nd} (h1 : 1000 < (kidsG can kid k ch t T).length) : ∀ j, kidsG can kid k ch (t + j) T = kidsG can kid k ch t T := by
  intro j
  induction j with
  | zero => rfl
  | succ j ih =>
    show (if (kidsG can kid k ch (t + j) T).length ≤ 1000 ∧ _ then _ else _) = _
    rw [if_neg (fun h => by rw [ih] at h; omega)]
    exact ih
theorem step_old {can : Rw → Nat → Bool} {kid : List Rw → Nat → Rw} {tr : Nat} {T : List Nd} {k : Nat} {nd : Nd} (hk : T[k]? = some nd) (ho : oldG nd.2.1 nd.2.2 = true) : stepG can kid tr T k = T := by
  unfold stepG; rw [hk]; exact if_pos ho
theorem step_new {can : Rw → Nat → Bool} {kid : List Rw → Nat → Rw} {tr : Nat} {T : List Nd} {k : Nat} {nd : Nd} (hk : T[k]? = some nd) (ho : oldG nd.2.1 nd.2.2 = false) : stepG can kid tr T k = kidsG (can nd.2.1) (kid (nd.2.1 :: nd.2.2)) k (nd.2.1 :: nd.2.2) tr T := by
  unfold stepG; rw [hk]; exact if_neg (by rw [ho]; exact Bool.false_ne_true)
theorem step_none {can : Rw → Nat → Bool} {kid : List Rw → Nat → Rw} {tr : Nat} {T : List Nd} {k : Nat} (hk : T.length ≤ k) : stepG can kid tr T k = T := by
  unfold stepG; rw [List.getElem?_eq_none hk]
theorem step_len (can : Rw → Nat → Bool) (kid : List Rw → Nat → Rw) (tr : Nat) (T : List Nd) (k : Nat) : T.length ≤ (stepG can kid tr T k).length ∧ (T.length ≤ 1001 → (stepG can kid tr T k).length ≤ 1001) := by
  unfold stepG
  split
  · exact ⟨Nat.le_refl _, id⟩
  · split
    · exact ⟨Nat.le_refl _, id⟩
    · exact kids_len _ _ _ _ _ _
theorem grow_s {can : Rw → Nat → Bool} {kid : List Rw → Nat → Rw} {tr : Nat} {x : Rw} {k : Nat} (h : (growG can kid tr x k).length ≤ 1000) : growG can kid tr x (k + 1) = stepG can kid tr (growG can kid tr x k) k := if_pos h
theorem grow_len (can : Rw → Nat → Bool) (kid : List Rw → Nat → Rw) (tr : Nat) (x : Rw) : ∀ k, 1 ≤ (growG can kid tr x k).length ∧ (growG can kid tr x k).length ≤ 1001 := by
  intro k
  induction k with
  | zero => exact ⟨Nat.le_refl 1, by show 1 ≤ 1001; omega⟩
  | succ k ih =>
    show 1 ≤ (if _ then _ else _ : List Nd).length ∧ (if _ then _ else _ : List Nd).length ≤ 1001
    split
    · have := step_len can kid tr (growG can kid tr x k) k
      exact ⟨by omega, this.2 ih.2⟩
    · exact ih
theorem grow_stop {can : Rw → Nat → Bool} {kid : List Rw → Nat → Rw} {tr : Nat} {x : Rw} {k : Nat} (h : (growG can kid tr x k).length ≤ k ∨ 1000 < (growG can kid tr x k).length) : ∀ j, growG can kid tr x (k + j) = growG can kid tr x k := by
  intro j
  induction j with
  | zero => rfl
  | succ j ih =>
    show (if (growG can kid tr x (k + j)).length ≤ 1000 then stepG can kid tr (growG can kid tr x (k + j)) (k + j) else growG can kid tr x (k + j)) = _
    rw [ih]
    split
    · rw [step_none (by omega)]
    · rfl
theorem tv_push {f20 f21 u : Nat → Int32} {T : List Nd} {k : Nat} {nd : Nd} {w : Rw} (h : treeV f20 f21 T) (hk : T[k]? = some nd) (hw : ∀ q, q < 5 → u q = w q) : treeV (wrN f20 u (5 * T.length) 5) (upd f21 T.length (nI k)) (T ++ [(k, w, nd.2.1 :: nd.2.2)]) := by
  have hkl := lt_of_some hk
  intro j x hx
  by_cases hj : j < T.length
  · rw [List.getElem?_append_left hj] at hx
    obtain ⟨h1, h2, h3⟩ := h j x hx
    refine ⟨fun q hq => ?_, fun e => ?_, fun e => ?_⟩
    · rw [← h1 q hq]; exact if_neg (by omega)
    · obtain ⟨a, b⟩ := h2 e
      exact ⟨by rw [pk_un (by omega)]; exact a, b⟩
    · obtain ⟨a, b, pn, c, d⟩ := h3 e
      exact ⟨a, by rw [pk_un (by omega)]; exact b, pn, by rw [List.getElem?_append_left (lt_of_some c)]; exact c, d⟩
  · rw [List.getElem?_append_right (by omega)] at hx
    have h0 : j - T.length < 1 := lt_of_some hx
    rw [show j - T.length = 0 by omega] at hx
    cases hx
    have hjT : j = T.length := by omega
    subst hjT
    refine ⟨fun q hq => ?_, fun e => absurd e (by omega), fun e => ?_⟩
    · unfold wrN
      rw [if_pos (by omega), show 5 * T.length + q - 5 * T.length = q by omega]
      exact hw q hq
    · exact ⟨hkl, pk_us, nd, by rw [List.getElem?_append_left hkl]; exact hk, rfl⟩
def mks (T : List Nd) : List Rw := T.map (fun nd => nd.2.1)
theorem mks_len (T : List Nd) : (mks T).length = T.length := List.length_map _
theorem tv_rows {f20 f21 : Nat → Int32} {T : List Nd} (h : treeV f20 f21 T) : rowsV f20 0 (mks T) := by
  intro k x hx q hq
  unfold mks at hx
  rw [List.getElem?_map] at hx
  cases hT : T[k]? with
  | none => rw [hT] at hx; cases hx
  | some nd =>
    rw [hT] at hx
    cases hx
    rw [Nat.zero_add]
    exact (h k nd hT).1 q hq
theorem tv_root {f20 f21 : Nat → Int32} {x : Rw} (h1 : ∀ q, q < 5 → f20 q = x q) (h2 : f21 0 = -1) : treeV f20 f21 [(0, x, [])] := by
  intro k nd hk
  have h0 : k < 1 := lt_of_some hk
  have hk0 : k = 0 := by omega
  subst hk0
  cases hk
  refine ⟨fun q hq => by rw [Nat.mul_zero, Nat.zero_add]; exact h1 q hq, fun _ => ⟨h2, rfl⟩, fun e => absurd e (Nat.lt_irrefl 0)⟩
