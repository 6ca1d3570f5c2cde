/-! the class's tree as it grows -/
def treeC (h5 h6 h7 : Nat → Int32) (T : List Nd) : Prop := ∀ k nd, T[k]? = some nd → (∀ q, q < 5 → h5 (5 * k + q) = nd.2.1 q) ∧ h7 k = nI nd.2.2.length ∧ (0 < nd.2.2.length → nd.1 < k ∧ h6 k = nI nd.1 ∧ ∃ pn, T[nd.1]? = some pn ∧ nd.2.2 = pn.2.1 :: pn.2.2)
theorem tc_len {h5 h6 h7 : Nat → Int32} {T : List Nd} (h : treeC h5 h6 h7 T) : ∀ (k : Nat) (nd : Nd), T[k]? = some nd → nd.2.2.length ≤ k := by
  intro k
  induction k using Nat.strongRecOn with
  | _ k ih =>
    intro nd hk
    rcases Nat.eq_zero_or_pos nd.2.2.length with h0 | h0
    · omega
    · obtain ⟨h1, -, pn, h2, h3⟩ := (h k nd hk).2.2 h0
      have := ih nd.1 h1 pn h2
      rw [h3, List.length_cons]
      omega
def oldP (pl : Nat) (w : Rw) (up : List Rw) : Bool := up.any (fun x => tpP pl w x && tpP pl x w)
def remC (h6 : Nat → Int32) (T : List Nd) (v : Nat) (rem : List Rw) : Prop := rem = [] ∨ ∃ p pn, T[p]? = some pn ∧ h6 v = nI p ∧ rem = pn.2.1 :: pn.2.2
theorem tc_rem {h5 h6 h7 : Nat → Int32} {T : List Nd} (h : treeC h5 h6 h7 T) {v : Nat} {nv : Nd} (hv : T[v]? = some nv) : remC h6 T v nv.2.2 := by
  rcases Nat.eq_zero_or_pos nv.2.2.length with h0 | h0
  · exact Or.inl (List.length_eq_zero_iff.mp h0)
  · obtain ⟨-, h1, pn, h2, h3⟩ := (h v nv hv).2.2 h0
    exact Or.inr ⟨nv.1, pn, h2, h1, h3⟩
theorem remC_pos {h6 : Nat → Int32} {T : List Nd} {v : Nat} {rem : List Rw} (h : remC h6 T v rem) (c : 0 < rem.length) : ∃ p pn, T[p]? = some pn ∧ h6 v = nI p ∧ rem = pn.2.1 :: pn.2.2 := by
  rcases h with h | h
  · rw [h] at c; exact absurd c (Nat.lt_irrefl 0)
  · exact h
theorem remC_cg {h6 g6 : Nat → Int32} {T : List Nd} {v : Nat} {rem : List Rw} (h : remC h6 T v rem) (e : g6 v = h6 v) : remC g6 T v rem := by
  rcases h with h | ⟨p, pn, a, b, c⟩
  · exact Or.inl h
  · exact Or.inr ⟨p, pn, a, e.trans b, c⟩
def raP (pl : Nat) (om : Int32) (x w : Rw) : Rw := fun q => if q < pl ∧ ¬ w q = om ∧ x q < w q then om else w q
def rsP (pl : Nat) (om : Int32) (x w : Rw) : Bool := (List.range pl).any (fun q => decide (¬ w q = om ∧ x q < w q))
def stP (pl : Nat) (om : Int32) (s : Rw × Bool) (x : Rw) : Rw × Bool := if tpP pl s.1 x = true then (raP pl om x s.1, s.2 || rsP pl om x s.1) else s
def passP (pl : Nat) (om : Int32) (ch : List Rw) (s : Rw × Bool) : Rw × Bool := ch.foldl (stP pl om) s
def accP (pl : Nat) (om : Int32) (ch : List Rw) : Nat → Rw → Rw
  | 0, w => w
  | k + 1, w => if (passP pl om ch (w, false)).2 = true then accP pl om ch k (passP pl om ch (w, false)).1 else (passP pl om ch (w, false)).1
theorem accP_f {pl : Nat} {om : Int32} {ch : List Rw} {k : Nat} {w w2 v : Rw} (hp : (w2, false) = passP pl om ch (w, false)) (ha : accP pl om ch (k + 1) w = v) : w2 = v := by
  rw [← ha]
  show _ = if (passP pl om ch (w, false)).2 = true then accP pl om ch k (passP pl om ch (w, false)).1 else (passP pl om ch (w, false)).1
  rw [← hp]
  rfl
theorem accP_t {pl : Nat} {om : Int32} {ch : List Rw} {k : Nat} {w w2 v : Rw} (hp : (w2, true) = passP pl om ch (w, false)) (ha : accP pl om ch (k + 1) w = v) : accP pl om ch k w2 = v := by
  rw [← ha]
  show _ = if (passP pl om ch (w, false)).2 = true then accP pl om ch k (passP pl om ch (w, false)).1 else (passP pl om ch (w, false)).1
  rw [← hp]
  rfl
def raW (om : Int32) (x w : Rw) : Rw := fun q => if ¬ w q = om ∧ x q < w q then om else w q
theorem raW_y {om : Int32} {x w : Rw} {q : Nat} (h1 : ¬ w q = om) (h2 : ¬ w q ≤ x q) : raW om x w q = om := if_pos ⟨h1, Int32.not_le.mp h2⟩
theorem raW_n1 {om : Int32} {x w : Rw} {q : Nat} (h1 : w q = om) : raW om x w q = w q := if_neg (fun h => h.1 h1)
theorem raW_n2 {om : Int32} {x w : Rw} {q : Nat} (h2 : w q ≤ x q) : raW om x w q = w q := if_neg (fun h => Int32.not_le.mpr h.2 h2)
theorem wrN_far {f w : Nat → Int32} {a k z : Nat} (h : z < a ∨ a + k ≤ z) : wrN f w a k z = f z := if_neg (by omega)
theorem wrN_at {f w : Nat → Int32} {a k q : Nat} (h : q < k) : wrN f w a k (a + q) = w q := by unfold wrN; rw [if_pos (by omega), show a + q - a = q by omega]
theorem raP_row {pl : Nat} {om : Int32} {x w : Rw} {h5 : Nat → Int32} {c9 : Nat} (hw : ∀ q, q < 5 → h5 (5 * c9 + q) = w q) : ∀ q, q < 5 → wrN h5 (raW om x w) (5 * c9) pl (5 * c9 + q) = raP pl om x w q := by
  intro q hq
  by_cases h : q < pl
  · rw [wrN_at h]
    unfold raW raP
    by_cases c : ¬ w q = om ∧ x q < w q
    · rw [if_pos c, if_pos ⟨h, c⟩]
    · rw [if_neg c, if_neg (fun h9 => c h9.2)]
  · rw [wrN_far (by omega), hw q hq]
    exact (if_neg (fun h9 => h h9.1)).symm
theorem rsP_end {pl : Nat} {om : Int32} {x w : Rw} {t : Bool} (ht : t = true ↔ ∃ q, q < pl ∧ (¬ w q = om ∧ x q < w q)) : t = rsP pl om x w := by
  refine bb_eq ht ?_
  unfold rsP
  rw [List.any_eq_true]
  exact ⟨fun ⟨q, h1, h2⟩ => ⟨q, List.mem_range.mp h1, of_decide_eq_true h2⟩, fun ⟨q, h1, h2⟩ => ⟨q, List.mem_range.mpr h1, decide_eq_true h2⟩⟩
def fwP (pl : Nat) (om : Int32) (g h : Nat → Int32) (x : Rw) : Rw := fun q => if q < pl ∧ ¬ x q = om then x q + (g q - h q) else x q
theorem fwP_row {pl : Nat} {h5 g h : Nat → Int32} {k c9 : Nat} {x : Rw} (hx : ∀ q, q < 5 → h5 (5 * k + q) = x q) : ∀ q, q < 5 → wrN (va_cpy h5 h5 (5 * k) (5 * c9) 5) (mvW (va_cpy h5 h5 (5 * k) (5 * c9) 5) (5 * c9) g h) (5 * c9) pl (5 * c9 + q) = fwP pl (nI 1000000000) g h x q := by
  intro q hq
  have e : va_cpy h5 h5 (5 * k) (5 * c9) 5 (5 * c9 + q) = x q := by
    rw [pk_cpy_in (by omega) (by omega), show 5 * k + (5 * c9 + q - 5 * c9) = 5 * k + q by omega]
    exact hx q hq
  by_cases h1 : q < pl
  · rw [wrN_at h1]
    unfold mvW fwP
    rw [e]
    by_cases c : x q = nI 1000000000
    · rw [if_pos c, if_neg (fun h9 => h9.2 c)]
    · rw [if_neg c, if_pos ⟨h1, c⟩]
  · rw [wrN_far (by omega), e]
    exact (if_neg (fun h9 => h1 h9.1)).symm
theorem tc_keep {h5 g5 h6 h7 : Nat → Int32} {T : List Nd} (h : treeC h5 h6 h7 T) (he : ∀ z, z < 5 * T.length → g5 z = h5 z) : treeC g5 h6 h7 T := by
  intro k nd hk
  have hkl := lt_of_some hk
  obtain ⟨a, b, c⟩ := h k nd hk
  exact ⟨fun q hq => by rw [he _ (by omega)]; exact a q hq, b, c⟩
theorem tc_push {h5 g5 h6 h7 : Nat → Int32} {T : List Nd} {k : Nat} {nd : Nd} {w : Rw} (h : treeC h5 h6 h7 T) (hk : T[k]? = some nd) (he : ∀ z, z < 5 * T.length → g5 z = h5 z) (hw : ∀ q, q < 5 → g5 (5 * T.length + q) = w q) : treeC g5 (upd h6 T.length (nI k)) (upd h7 T.length (nI (nd.2.2.length + 1))) (T ++ [(k, w, nd.2.1 :: nd.2.2)]) := by
  have hkl := lt_of_some hk
  intro j x hx
  by_cases hj : j < T.length
  · rw [List.getElem?_append_left hj] at hx
    obtain ⟨a, b, c⟩ := h j x hx
    refine ⟨fun q hq => by rw [he _ (by omega)]; exact a q hq, by rw [pk_un (by omega)]; exact b, fun h0 => ?_⟩
    obtain ⟨c1, c2, pn, c3, c4⟩ := c h0
    exact ⟨c1, by rw [pk_un (by omega)]; exact c2, pn, by rw [List.getElem?_append_left (lt_of_some c3)]; exact c3, c4⟩
  · rw [List.getElem?_append_right (by omega)] at hx
    have h0 : j - T.length < 1 := lt_of_some hx
    rw [show j - T.length = 0 by omega] at hx
    cases hx
    have hjT : j = T.length := by omega
    subst hjT
    exact ⟨hw, pk_us, fun _ => ⟨hkl, pk_us, nd, by rw [List.getElem?_append_left hkl]; exact hk, rfl⟩⟩
theorem tc_rows {h5 h6 h7 : Nat → Int32} {T : List Nd} (h : treeC h5 h6 h7 T) : rowsV h5 0 (mks T) := by
  intro k x hx q hq
  unfold mks at hx
  rw [List.getElem?_map] at hx
  cases hT : T[k]? with
  | none => rw [hT] at hx; cases hx
  | some nd =>
    rw [hT] at hx
    cases hx
    rw [Nat.zero_add]
    exact (h k nd hT).1 q hq
def stepC (pl : Nat) (can : Rw → Nat → Bool) (kid : List Rw → Nat → Rw) (tr : Nat) (T : List Nd) (k : Nat) : List Nd := match T[k]? with
  | none => T
  | some nd => if oldP pl nd.2.1 nd.2.2 = true then T else kidsG (can nd.2.1) (kid (nd.2.1 :: nd.2.2)) k (nd.2.1 :: nd.2.2) tr T
def growC (pl : Nat) (can : Rw → Nat → Bool) (kid : List Rw → Nat → Rw) (tr : Nat) (x : Rw) : Nat → List Nd
  | 0 => [(0, x, [])]
  | k + 1 => if (growC pl can kid tr x k).length ≤ 1000 then stepC pl can kid tr (growC pl can kid tr x k) k else growC pl can kid tr x k
def canP (pl : Nat) (tk : Nat → Nat → Int32) (x : Rw) (t : Nat) : Bool := tpP pl x (tk t)
def kidP (pl : Nat) (om : Int32) (tk gv : Nat → Nat → Int32) (ch : List Rw) (t : Nat) : Rw := accP pl om ch (pl + 1) (fwP pl om (gv t) (tk t) (ch.headD zR))
def firC (pl : Nat) (can : Rw → Nat → Bool) (kid : List Rw → Nat → Rw) (tr : Nat) (x : Rw) : Nat → Nat → Bool
  | 0, _ => false
  | k + 1, q => firC pl can kid tr x k q || (match (growC pl can kid tr x k)[k]? with
    | none => false
    | some nd => !(oldP pl nd.2.1 nd.2.2) && decide (q < tr) && can nd.2.1 q)
theorem canP_row {pl : Nat} {tk : Nat → Nat → Int32} {h5 : Nat → Int32} {k t : Nat} {x : Rw} (hpl : pl ≤ 5) (h : ∀ q, q < 5 → h5 (5 * k + q) = x q) : caC h5 (5 * k) (tk t) pl = canP pl tk x t := by
  unfold canP
  cases h2 : tpP pl x (tk t) with
  | true => exact caC_t (fun q hq => by rw [h q (by omega)]; exact tpP_iff.mp h2 q hq)
  | false =>
    cases h3 : caC h5 (5 * k) (tk t) pl with
    | false => rfl
    | true =>
      exfalso
      have h4 : tpP pl x (tk t) = true := tpP_t (fun q hq => by
        have h5' := of_decide_eq_true (List.all_eq_true.mp h3 q (List.mem_range.mpr hq))
        rw [h q (by omega)] at h5'
        exact h5')
      rw [h2] at h4
      cases h4
theorem stC_old {pl : Nat} {can : Rw → Nat → Bool} {kid : List Rw → Nat → Rw} {tr : Nat} {T : List Nd} {k : Nat} {nd : Nd} (hk : T[k]? = some nd) (ho : oldP pl nd.2.1 nd.2.2 = true) : stepC pl can kid tr T k = T := by
  unfold stepC; rw [hk]; exact if_pos ho
theorem stC_new {pl : Nat} {can : Rw → Nat → Bool} {kid : List Rw → Nat → Rw} {tr : Nat} {T : List Nd} {k : Nat} {nd : Nd} (hk : T[k]? = some nd) (ho : oldP pl nd.2.1 nd.2.2 = false) : stepC pl can kid tr T k = kidsG (can nd.2.1) (kid (nd.2.1 :: nd.2.2)) k (nd.2.1 :: nd.2.2) tr T := by
  unfold stepC; rw [hk]; exact if_neg (by rw [ho]; exact Bool.false_ne_true)
theorem stC_none {pl : Nat} {can : Rw → Nat → Bool} {kid : List Rw → Nat → Rw} {tr : Nat} {T : List Nd} {k : Nat} (hk : T.length ≤ k) : stepC pl can kid tr T k = T := by
  unfold stepC; rw [List.getElem?_eq_none hk]
theorem stC_len (pl : Nat) (can : Rw → Nat → Bool) (kid : List Rw → Nat → Rw) (tr : Nat) (T : List Nd) (k : Nat) : T.length ≤ (stepC pl can kid tr T k).length ∧ (T.length ≤ 1001 → (stepC pl can kid tr T k).length ≤ 1001) := by
  unfold stepC
  split
  · exact ⟨Nat.le_refl _, id⟩
  · split
    · exact ⟨Nat.le_refl _, id⟩
    · exact kids_len _ _ _ _ _ _
theorem growC_s {pl : Nat} {can : Rw → Nat → Bool} {kid : List Rw → Nat → Rw} {tr : Nat} {x : Rw} {k : Nat} (h : (growC pl can kid tr x k).length ≤ 1000) : growC pl can kid tr x (k + 1) = stepC pl can kid tr (growC pl can kid tr x k) k := if_pos h
theorem growC_len (pl : Nat) (can : Rw → Nat → Bool) (kid : List Rw → Nat → Rw) (tr : Nat) (x : Rw) : ∀ k, 1 ≤ (growC pl can kid tr x k).length ∧ (growC pl can kid tr x k).length ≤ 1001 := by
  intro k
  induction k with
  | zero => exact ⟨Nat.le_refl 1, by show 1 ≤ 1001; omega⟩
  | succ k ih =>
    show 1 ≤ (if _ then _ else _ : List Nd).length ∧ (if _ then _ else _ : List Nd).length ≤ 1001
    split
    · have := stC_len pl can kid tr (growC pl can kid tr x k) k
      exact ⟨by omega, this.2 ih.2⟩
    · exact ih
theorem growC_stop {pl : Nat} {can : Rw → Nat → Bool} {kid : List Rw → Nat → Rw} {tr : Nat} {x : Rw} {k : Nat} (h : (growC pl can kid tr x k).length ≤ k ∨ 1000 < (growC pl can kid tr x k).length) : ∀ j, growC pl can kid tr x (k + j) = growC pl can kid tr x k := by
  intro j
  induction j with
  | zero => rfl
  | succ j ih =>
    show (if (growC pl can kid tr x (k + j)).length ≤ 1000 then stepC pl can kid tr (growC pl can kid tr x (k + j)) (k + j) else growC pl can kid tr x (k + j)) = _
    rw [ih]
    split
    · rw [stC_none (by omega)]
    · rfl
theorem firC_stop {pl : Nat} {can : Rw → Nat → Bool} {kid : List Rw → Nat → Rw} {tr : Nat} {x : Rw} {k : Nat} (h : (growC pl can kid tr x k).length ≤ k) : ∀ j q, firC pl can kid tr x (k + j) q = firC pl can kid tr x k q := by
  intro j q
  induction j with
  | zero => rfl
  | succ j ih =>
    show (firC pl can kid tr x (k + j) q || (match (growC pl can kid tr x (k + j))[k + j]? with
      | none => false
      | some nd => !(oldP pl nd.2.1 nd.2.2) && decide (q < tr) && can nd.2.1 q)) = _
    rw [growC_stop (Or.inl h), List.getElem?_eq_none (by omega), ih]
    exact Bool.or_false _
theorem kids_mono (can : Nat → Bool) (kid : Nat → Rw) (k : Nat) (ch : List Rw) (T : List Nd) : ∀ t d, (kidsG can kid k ch t T).length ≤ (kidsG can kid k ch (t + d) T).length := by
  intro t d
  induction d with
  | zero => exact Nat.le_refl _
  | succ d ih =>
    refine Nat.le_trans ih ?_
    show _ ≤ (if _ then _ else _ : List Nd).length
    split
    · rw [List.length_append]; exact Nat.le_add_right _ _
    · exact Nat.le_refl _
def frN (can : Nat → Bool) (fr : Nat → Bool) (t : Nat) (q : Nat) : Bool := fr q || (decide (q < t) && can q)
theorem fr_y {can fr : Nat → Bool} {t : Nat} {f : Nat → Int32} (hf : ∀ q, q < 6 → f q = bI (frN can fr t q)) (hc : can t = true) : ∀ q, q < 6 → (upd f t (bI true)) q = bI (frN can fr (t + 1) q) := by
  intro q hq
  by_cases h : q = t
  · subst h; rw [pk_us]; unfold frN; rw [hc, decide_eq_true (Nat.lt_succ_self q)]; simp
  · rw [pk_un h, hf q hq]
    unfold frN
    rw [show decide (q < t + 1) = decide (q < t) from decide_eq_decide.mpr (by omega)]
theorem fr_n {can fr : Nat → Bool} {t : Nat} {f : Nat → Int32} (hf : ∀ q, q < 6 → f q = bI (frN can fr t q)) (hc : can t = false) : ∀ q, q < 6 → f q = bI (frN can fr (t + 1) q) := by
  intro q hq
  rw [hf q hq]
  unfold frN
  by_cases h : q = t
  · subst h; rw [hc]; simp
  · rw [show decide (q < t + 1) = decide (q < t) from decide_eq_decide.mpr (by omega)]
theorem op_any {t : Bool} {P : Rw → Bool} {x : Rw} {xs rem : List Rw} (h : rem.any P = t) (hr : rem = x :: xs) (hx : P x = false) : xs.any P = t := by
  rw [← h, hr, List.any_cons, hx, Bool.false_or]
