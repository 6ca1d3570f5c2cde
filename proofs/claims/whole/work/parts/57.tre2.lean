section TT
variable {pl tr : Nat} {T Gv : Nat → Vv} {tk gv : Nat → Nat → Int32} {a4 a5 : Nat → Int32}
theorem fw_R (hpl : pl ≤ 5) (hA : arcT pl tr T Gv tk gv a4 a5) {t : Nat} (ht : t < tr) {b : Nat} (hb : b < 900000) {x y : Rw} (h : rel pl b x y) (hc : canP pl tk x t = true) : rel pl (b + 5) (fwP pl (nI 1000000000) (gv t) (tk t) x) (fwM (nI 1000000) a4 a5 y t) := by
  obtain ⟨c, h⟩ := h
  have hle : leV (T t) c := (relT_tpC (b := b + 5) hpl (by omega) (fun q hq => ⟨(h q hq).1, (h q hq).2.1, by have := (h q hq).2.2.1; omega, (h q hq).2.2.2⟩) (arc_rel hA ht (by omega))).mp hc
  refine ⟨fun q => if c q = 1000000000 then 1000000000 else c q - T t q + Gv t q, fun q hq => ?_⟩
  obtain ⟨a1, a2, a3, a6⟩ := h q hq
  obtain ⟨h1, h2, h3, h4, h5, h6, h7⟩ := hA t ht q hq
  have hl := hle q hq
  have k1 := mo_lt31 (b := b) (by omega) a3
  unfold fwP fwM
  by_cases d : c q = 1000000000
  · have e1 : x q = nI 1000000000 := by rw [a1, d]
    have e2 : y q = nI 1000000 := by rw [a2, d]; rfl
    rw [if_neg (fun g => g.2 e1), if_pos e2]
    simp only [if_pos d]
    refine ⟨e1, by decide, Or.inr trivial, fun g => ?_⟩
    have := a6 g
    omega
  · have e1 : ¬ x q = nI 1000000000 := by
      rw [a1, nI_eq k1.2 (by decide)]; exact d
    have e3 : mo (c q) = c q := mo_s (by omega)
    have e2 : ¬ y q = nI 1000000 := by
      rw [a2, e3, nI_eq k1.2 (by decide)]; omega
    rw [if_neg e2]
    simp only [if_neg d]
    have e4 : mo (c q - T t q + Gv t q) = c q - T t q + Gv t q := mo_s (by omega)
    rw [e4]
    refine ⟨?_, ?_, by omega, fun g => ?_⟩
    · by_cases g : q < pl
      · rw [if_pos ⟨g, e1⟩, a1, h1, h2, (i32_mv hl).1]
      · rw [if_neg (fun z => g z.1), a1]
        have z1 := a6 (by omega)
        have z2 := h7 (by omega)
        rw [z1, z2.1, z2.2]
    · rw [a2, e3, h3, h4, (i32_mv hl).2]
    · have z1 := a6 g
      have z2 := h7 g
      omega
theorem kid_R (hpl : pl ≤ 5) (hA : arcT pl tr T Gv tk gv a4 a5) {t : Nat} (ht : t < tr) {b : Nat} (hb : b < 900000) {x y : Rw} {l m : List Rw} (h : rel pl b x y) (hlm : R2 (rel pl b) l m) (hc : canP pl tk x t = true) : rel pl (b + 5) (kidP pl (nI 1000000000) tk gv (x :: l) t) (kidR (nI 1000000) a4 a5 (y :: m) t) := by
  have hw := fw_R hpl hA ht hb h hc
  unfold kidP kidR
  have h5 := cntF_le5 (nI 1000000) (fwM (nI 1000000) a4 a5 ((y :: m).headD zR) t)
  exact acc_R hpl (by omega) (l := x :: l) (m := y :: m) ⟨rel_m h (by omega), R2_m (fun a b h => rel_m h (by omega)) l m hlm⟩ 6 (pl + 1) _ _ hw (by omega) (by omega)
/-- two trees alike -/
def treeR (pl : Nat) (A B : List Nd) : Prop := A.length = B.length ∧ ∀ (k : Nat) (x y : Nd), A[k]? = some x → B[k]? = some y → rel pl (20 + 5 * k) x.2.1 y.2.1 ∧ R2 (rel pl (20 + 5 * k)) x.2.2 y.2.2
theorem kids_R {canA canB : Nat → Bool} {kidA kidB : Nat → Rw} {k : Nat} {cA cB : List Rw} (hcan : ∀ t, t < tr → canA t = canB t) (hkid : ∀ t, t < tr → canA t = true → rel pl (20 + 5 * (k + 1)) (kidA t) (kidB t)) (hch : R2 (rel pl (20 + 5 * (k + 1))) cA cB) {A B : List Nd} (hT : treeR pl A B) (hk : k < A.length) : ∀ t, t ≤ tr → treeR pl (kidsG canA kidA k cA t A) (kidsG canB kidB k cB t B) := by
  intro t
  induction t with
  | zero => intro _; exact hT
  | succ t ih =>
    intro ht
    have h := ih (by omega)
    have hl := h.1
    have hg := (kids_len canA kidA k cA t A).1
    unfold kidsG
    rw [← hl, ← hcan t (by omega)]
    by_cases c : (kidsG canA kidA k cA t A).length ≤ 1000 ∧ canA t = true
    · rw [if_pos c, if_pos c]
      refine ⟨by rw [List.length_append, List.length_append, hl]; rfl, ?_⟩
      intro j x y hx hy
      rcases Nat.lt_trichotomy j (kidsG canA kidA k cA t A).length with d | d | d
      · rw [List.getElem?_append_left d] at hx
        rw [List.getElem?_append_left (by omega)] at hy
        exact h.2 j x y hx hy
      · rw [List.getElem?_append_right (by omega), show j - (kidsG canA kidA k cA t A).length = 0 by omega] at hx
        rw [List.getElem?_append_right (by omega), show j - (kidsG canB kidB k cB t B).length = 0 by omega] at hy
        cases hx
        cases hy
        exact ⟨rel_m (hkid t (by omega) c.2) (by omega), R2_m (fun a b h => rel_m h (by omega)) _ _ hch⟩
      · have := lt_of_some hx
        rw [List.length_append] at this
        have e : [(k, kidA t, cA)].length = 1 := rfl
        omega
    · rw [if_neg c, if_neg c]
      exact h
theorem grow_R (hpl : pl ≤ 5) (hA : arcT pl tr T Gv tk gv a4 a5) {fi : Vv} {f2 a1 : Nat → Int32} (hf : ∀ q, q < 5 → f2 q = nI (fi q) ∧ a1 q = nI (fi q) ∧ fi q ≤ 20 ∧ (pl ≤ q → fi q = 0)) : ∀ k, treeR pl (growC pl (canP pl tk) (kidP pl (nI 1000000000) tk gv) tr f2 k) (growG (canR a4) (kidR (nI 1000000) a4 a5) tr a1 k) := by
  intro k
  induction k with
  | zero =>
    refine ⟨rfl, fun k x y hx hy => ?_⟩
    have hx1 : ([(0, f2, [])] : List Nd)[k]? = some x := hx
    have hy1 : ([(0, a1, [])] : List Nd)[k]? = some y := hy
    cases k with
    | zero =>
      cases hx1
      cases hy1
      refine ⟨⟨fi, fun q hq => ?_⟩, trivial⟩
      obtain ⟨h1, h2, h3, h4⟩ := hf q hq
      exact ⟨h1, by rw [mo_s (by omega)]; exact h2, by omega, h4⟩
    | succ k => cases hx1
  | succ k ih =>
    have hl := ih.1
    unfold growC growG
    rw [← hl]
    by_cases c : (growC pl (canP pl tk) (kidP pl (nI 1000000000) tk gv) tr f2 k).length ≤ 1000
    · rw [if_pos c, if_pos c]
      generalize growC pl (canP pl tk) (kidP pl (nI 1000000000) tk gv) tr f2 k = A at *
      generalize growG (canR a4) (kidR (nI 1000000) a4 a5) tr a1 k = B at *
      rcases Nat.lt_or_ge k A.length with d | d
      · have hx : A[k]? = some A[k] := List.getElem?_eq_getElem d
        have hy : B[k]? = some (B[k]'(by omega)) := List.getElem?_eq_getElem (by omega)
        generalize A[k] = x at hx
        generalize B[k]'(by omega) = y at hy
        obtain ⟨r1, r2⟩ := ih.2 k x y hx hy
        have ho : oldP pl x.2.1 x.2.2 = oldG y.2.1 y.2.2 := by
          unfold oldP oldG
          refine R2_any (fun a b hab => ?_) _ _ r2
          unfold eqv
          rw [rel_tp hpl (by omega) r1 hab, rel_tp hpl (by omega) hab r1, Bool.and_comm]
        cases hc : oldG y.2.1 y.2.2 with
        | true =>
          rw [stC_old hx (by rw [ho]; exact hc), step_old hy hc]
          exact ih
        | false =>
          rw [stC_new hx (by rw [ho]; exact hc), step_new hy hc]
          refine kids_R (fun t ht => can_R hpl hA ht (by omega) r1) (fun t ht hcan => ?_) (show R2 (rel pl (20 + 5 * (k + 1))) (x.2.1 :: x.2.2) (y.2.1 :: y.2.2) from ⟨rel_m r1 (by omega), R2_m (fun a b h => rel_m h (by omega)) _ _ r2⟩) ih d tr (Nat.le_refl _)
          exact rel_m (kid_R hpl hA ht (by omega) r1 r2 hcan) (by omega)
      · rw [stC_none d, step_none (by omega)]
        exact ih
    · rw [if_neg c, if_neg c]
      exact ih
end TT
/-! live: what fires somewhere, fires at a node that isn't old -/
def chOK (A : List Nd) : Prop := ∀ (k : Nat) (x : Nd), A[k]? = some x → ∀ z, z ∈ x.2.2 → ∃ (o : Nat) (y : Nd), o < k ∧ A[o]? = some y ∧ y.2.1 = z
theorem chOK_k {can : Nat → Bool} {kid : Nat → Rw} {k : Nat} {x : Nd} {A : List Nd} (hx : A[k]? = some x) (h : chOK A) : ∀ t, chOK (kidsG can kid k (x.2.1 :: x.2.2) t A) := by
  intro t
  induction t with
  | zero => exact h
  | succ t ih =>
    have hk := kids_pre can kid k (x.2.1 :: x.2.2) t A k x hx
    unfold kidsG
    split
    · intro j y hy z hz
      rcases Nat.lt_trichotomy j (kidsG can kid k (x.2.1 :: x.2.2) t A).length with d | d | d
      · rw [List.getElem?_append_left d] at hy
        obtain ⟨o, w, h1, h2, h3⟩ := ih j y hy z hz
        exact ⟨o, w, h1, by rw [List.getElem?_append_left (by omega)]; exact h2, h3⟩
      · rw [List.getElem?_append_right (by omega), show j - (kidsG can kid k (x.2.1 :: x.2.2) t A).length = 0 by omega] at hy
        cases hy
        have hkl := lt_of_some hk
        rcases List.mem_cons.mp hz with rfl | hz
        · exact ⟨k, x, by omega, by rw [List.getElem?_append_left hkl]; exact hk, rfl⟩
        · obtain ⟨o, w, h1, h2, h3⟩ := ih k x hk z hz
          exact ⟨o, w, by omega, by rw [List.getElem?_append_left (by omega)]; exact h2, h3⟩
      · have := lt_of_some hy
        rw [List.length_append] at this
        have e : [(k, kid t, x.2.1 :: x.2.2)].length = 1 := rfl
        omega
    · exact ih
theorem chOK_g (pl : Nat) (can : Rw → Nat → Bool) (kid : List Rw → Nat → Rw) (tr : Nat) (x : Rw) : ∀ k, chOK (growC pl can kid tr x k) := by
  intro k
  induction k with
  | zero =>
    intro j y hy z hz
    have hy1 : ([(0, x, [])] : List Nd)[j]? = some y := hy
    cases j with
    | zero => cases hy1; cases hz
    | succ j => cases hy1
  | succ k ih =>
    unfold growC
    split
    · unfold stepC
      split
      · exact ih
      · rename_i nd hnd
        split
        · exact ih
        · exact chOK_k hnd ih tr
    · exact ih
theorem growC_pre (pl : Nat) (can : Rw → Nat → Bool) (kid : List Rw → Nat → Rw) (tr : Nat) (x : Rw) (k : Nat) : ∀ (d j : Nat) (y : Nd), (growC pl can kid tr x k)[j]? = some y → (growC pl can kid tr x (k + d))[j]? = some y := by
  intro d
  induction d with
  | zero => intro j y h; exact h
  | succ d ih =>
    intro j y h
    have h1 := ih j y h
    show (growC pl can kid tr x (k + d + 1))[j]? = some y
    unfold growC
    split
    · unfold stepC
      split
      · exact h1
      · split
        · exact h1
        · exact kids_pre _ _ _ _ _ _ _ _ h1
    · exact h1
theorem growC_at {pl : Nat} {can : Rw → Nat → Bool} {kid : List Rw → Nat → Rw} {tr : Nat} {x : Rw} {n k : Nat} {y : Nd} (h : (growC pl can kid tr x n)[k]? = some y) (hk : k ≤ n) : (growC pl can kid tr x k)[k]? = some y := by
  obtain ⟨d, rfl⟩ : ∃ d, n = k + d := ⟨n - k, by omega⟩
  have hl : k < (growC pl can kid tr x k).length := Nat.lt_of_not_le (fun c => by
    rw [growC_stop (Or.inl c) d] at h
    have := lt_of_some h
    omega)
  have h2 : (growC pl can kid tr x k)[k]? = some ((growC pl can kid tr x k)[k]) := List.getElem?_eq_getElem hl
  have h3 := growC_pre pl can kid tr x k d k _ h2
  rw [h] at h3
  rw [h2, ← h3]
theorem firC_iff (pl : Nat) (can : Rw → Nat → Bool) (kid : List Rw → Nat → Rw) (tr : Nat) (x : Rw) (q : Nat) : ∀ n, firC pl can kid tr x n q = true ↔ ∃ k y, k < n ∧ (growC pl can kid tr x k)[k]? = some y ∧ oldP pl y.2.1 y.2.2 = false ∧ q < tr ∧ can y.2.1 q = true := by
  intro n
  induction n with
  | zero => exact ⟨fun h => absurd (show false = true from h) (by decide), fun ⟨k, y, h, _⟩ => absurd h (Nat.not_lt_zero _)⟩
  | succ n ih =>
    unfold firC
    rw [Bool.or_eq_true, ih]
    constructor
    · rintro (⟨k, y, h1, h2⟩ | h)
      · exact ⟨k, y, by omega, h2⟩
      · split at h
        · cases h
        · rename_i nd hnd
          simp only [Bool.and_eq_true, Bool.not_eq_true', decide_eq_true_eq] at h
          exact ⟨n, nd, by omega, hnd, h.1.1, h.1.2, h.2⟩
    · rintro ⟨k, y, h1, h2, h3, h4, h5⟩
      rcases Nat.lt_or_ge k n with c | c
      · exact Or.inl ⟨k, y, c, h2, h3, h4, h5⟩
      · have e : k = n := by omega
        subst e
        right
        rw [h2]
        simp only [Bool.and_eq_true, Bool.not_eq_true', decide_eq_true_eq]
        exact ⟨⟨h3, h4⟩, h5⟩
/-- a twin above fires the same -/
theorem can_eq {pl : Nat} {tk : Nat → Nat → Int32} {x y : Rw} {t : Nat} (h1 : tpP pl x y = true) (h : canP pl tk y t = true) : canP pl tk x t = true := by
  unfold canP at *
  rw [tpP_iff] at *
  exact fun q hq => Int32.le_trans (h q hq) (h1 q hq)
theorem firC_all {pl : Nat} {tk : Nat → Nat → Int32} {kid : List Rw → Nat → Rw} {tr : Nat} {x : Rw} {q n : Nat} (hn : (growC pl (canP pl tk) kid tr x n).length ≤ n) : firC pl (canP pl tk) kid tr x n q = true ↔ q < tr ∧ ∃ z, z ∈ mks (growC pl (canP pl tk) kid tr x n) ∧ canP pl tk z q = true := by
  rw [firC_iff]
  constructor
  · rintro ⟨k, y, h1, h2, h3, h4, h5⟩
    obtain ⟨d, rfl⟩ : ∃ d, n = k + d := ⟨n - k, by omega⟩
    exact ⟨h4, y.2.1, List.mem_map.mpr ⟨y, List.mem_of_getElem? (growC_pre _ _ _ _ _ k d k y h2), rfl⟩, h5⟩
  · rintro ⟨hq, z, hz, hc⟩
    obtain ⟨y, hy, rfl⟩ := List.mem_map.mp hz
    obtain ⟨k, hk⟩ := List.getElem?_of_mem hy
    -- the first node with a marking that fires q, by its number
    have key : ∀ (m k : Nat) (y : Nd), k ≤ m → (growC pl (canP pl tk) kid tr x n)[k]? = some y → canP pl tk y.2.1 q = true → ∃ k y, k < n ∧ (growC pl (canP pl tk) kid tr x k)[k]? = some y ∧ oldP pl y.2.1 y.2.2 = false ∧ q < tr ∧ canP pl tk y.2.1 q = true := by
      intro m
      induction m with
      | zero =>
        intro k y hk h1 h2
        have hlt := lt_of_some h1
        cases ho : oldP pl y.2.1 y.2.2 with
        | false => exact ⟨k, y, by omega, growC_at h1 (by omega), ho, hq, h2⟩
        | true =>
          unfold oldP at ho
          obtain ⟨w, hw, _⟩ := List.any_eq_true.mp ho
          obtain ⟨o, v, h3, _⟩ := chOK_g pl (canP pl tk) kid tr x n k y h1 w hw
          omega
      | succ m ih =>
        intro k y hk h1 h2
        have hlt := lt_of_some h1
        cases ho : oldP pl y.2.1 y.2.2 with
        | false => exact ⟨k, y, by omega, growC_at h1 (by omega), ho, hq, h2⟩
        | true =>
          unfold oldP at ho
          obtain ⟨w, hw, h4⟩ := List.any_eq_true.mp ho
          rw [Bool.and_eq_true] at h4
          obtain ⟨o, v, h3, h5, rfl⟩ := chOK_g pl (canP pl tk) kid tr x n k y h1 w hw
          exact ih o v (by omega) h5 (can_eq h4.2 h2)
    exact key k k y (Nat.le_refl _) hk hc
/-! the bits of live -/
theorem bt_1 {i : Nat} (hi : i < 32) : bt (nI 1) i = decide (i = 0) := by
  have h : ∀ i, i < 32 → bt (nI 1) i = decide (i = 0) := by decide +kernel
  exact h i hi
theorem livI_bt (f4 : Nat → Int32) (x : Rw) (a : Int32) {j : Nat} (hj : j < 32) : ∀ t, t ≤ 6 → (bt (livI f4 x t a) j = true ↔ bt a j = true ∨ (j < t ∧ canR f4 x j = true)) := by
  intro t
  induction t with
  | zero => intro _; exact ⟨Or.inl, fun h => h.elim id (fun h => absurd h.1 (Nat.not_lt_zero _))⟩
  | succ t ih =>
    intro ht
    unfold livI
    rw [b_or, Bool.or_eq_true, ih (by omega)]
    by_cases c : canR f4 x t = true
    · rw [if_pos c, b_shl t (by omega) (nI 1) hj]
      constructor
      · rintro ((h | h) | h)
        · exact Or.inl h
        · exact Or.inr ⟨by omega, h.2⟩
        · rw [Bool.and_eq_true, decide_eq_true_eq] at h
          have h2 := h.2
          rw [bt_1 (by omega), decide_eq_true_eq] at h2
          have e : j = t := by omega
          exact Or.inr ⟨by omega, by rw [e]; exact c⟩
      · rintro (h | h)
        · exact Or.inl (Or.inl h)
        · rcases Nat.lt_or_ge j t with d | d
          · exact Or.inl (Or.inr ⟨d, h.2⟩)
          · right
            rw [Bool.and_eq_true, decide_eq_true_eq, bt_1 (by omega), decide_eq_true_eq]
            omega
    · rw [if_neg c, show nI 0 = 0 from rfl, b_0]
      constructor
      · rintro ((h | h) | h)
        · exact Or.inl h
        · exact Or.inr ⟨by omega, h.2⟩
        · cases h
      · rintro (h | h)
        · exact Or.inl (Or.inl h)
        · rcases Nat.lt_or_ge j t with d | d
          · exact Or.inl (Or.inr ⟨d, h.2⟩)
          · have e : j = t := by omega
            rw [e] at h
            exact absurd h.2 c
theorem livL_bt (tr : Nat) (htr : tr ≤ 6) (f4 : Nat → Int32) {j : Nat} (hj : j < 32) : ∀ (Ms : List Rw) (a : Int32), bt (livL tr f4 Ms a) j = true ↔ bt a j = true ∨ (j < tr ∧ ∃ x, x ∈ Ms ∧ canR f4 x j = true) := by
  intro Ms
  induction Ms with
  | nil => intro a; exact ⟨Or.inl, fun h => h.elim id (fun ⟨_, x, hx, _⟩ => absurd hx List.not_mem_nil)⟩
  | cons x Ms ih =>
    intro a
    show bt (livL tr f4 Ms (livI f4 x tr a)) j = true ↔ _
    rw [ih, livI_bt f4 x a hj tr htr]
    constructor
    · rintro ((h | h) | ⟨h, y, hy, h2⟩)
      · exact Or.inl h
      · exact Or.inr ⟨h.1, x, List.mem_cons_self, h.2⟩
      · exact Or.inr ⟨h, y, List.mem_cons_of_mem _ hy, h2⟩
    · rintro (h | ⟨h, y, hy, h2⟩)
      · exact Or.inl (Or.inl h)
      · rcases List.mem_cons.mp hy with rfl | hy
        · exact Or.inl (Or.inr ⟨h, h2⟩)
        · exact Or.inr ⟨h, y, hy, h2⟩
theorem live_bt (v : Int32) {j : Nat} (hj : j < 6) : ((v >>> (nI j &&& 31)) &&& nI 1 = nI 1) ↔ bt v j = true := by
  have h0 : bt (v >>> (nI j &&& 31)) 0 = bt v j := by
    rw [b_sshr j (by omega) v (by omega), if_pos (by omega), Nat.add_zero]
  constructor
  · intro h
    have h1 : bt ((v >>> (nI j &&& 31)) &&& nI 1) 0 = bt (nI 1) 0 := by rw [h]
    rw [b_and, h0, bt_1 (by omega)] at h1
    simpa using h1
  · intro h
    refine b_ext (fun i hi => ?_)
    rw [b_and, bt_1 hi]
    by_cases c : i = 0
    · subst c
      rw [h0, h]
      rfl
    · simp [c]
theorem live_eq {v : Int32} {fr : Nat → Bool} (h : ∀ j, j < 6 → (bt v j = true ↔ fr j = true)) (x : Int32) : liveM v x = (inC x (nI 5) && fr x.toNatClampNeg) := by
  by_cases c : inB x (nI 6) = true
  · obtain ⟨j, hj, rfl⟩ := inB_nI (by decide) c
    have c2 : inC (nI j) (nI 5) = true := by
      unfold inC
      rw [Bool.and_eq_true, decide_eq_true_eq, decide_eq_true_eq]
      refine ⟨?_, ?_⟩
      · have := nI_ltI (a := j) (b := 0) (by omega) (by decide)
        rw [show nI 0 = (0 : Int32) from rfl] at this
        rw [this]; omega
      · rw [nI_ltI (by omega) (by omega)]; omega
    unfold liveM
    rw [c, c2, Bool.true_and, Bool.true_and, nI_clamp (by omega)]
    refine bb_eq (P := bt v j = true) ?_ (h j hj).symm
    rw [decide_eq_true_eq]
    exact live_bt v hj
  · have c2 : inC x (nI 5) = false := by
      cases e : inC x (nI 5) with
      | false => rfl
      | true =>
        obtain ⟨j, hj, rfl⟩ := inC_nI (by decide) e
        exact absurd (inB_is (j := j) (k := 6) (by omega) (by decide)) c
    unfold liveM
    rw [c2, Bool.false_and]
    cases e : inB x (nI 6) with
    | false => rfl
    | true => exact absurd e c
