/-! THE TREES ALIKE: the class's omega is 10^9, the reference's 10^6 -/
def mo (n : Nat) : Nat := if n = 1000000000 then 1000000 else n
def relT (pl b : Nat) (x y : Rw) (c : Vv) : Prop := ∀ q, q < 5 → x q = nI (c q) ∧ y q = nI (mo (c q)) ∧ (c q ≤ b ∨ c q = 1000000000) ∧ (pl ≤ q → c q = 0)
def rel (pl b : Nat) (x y : Rw) : Prop := ∃ c, relT pl b x y c
theorem mo_le {b m n : Nat} (hb : b < 1000000) (hm : m ≤ b ∨ m = 1000000000) (hn : n ≤ b ∨ n = 1000000000) : mo m ≤ mo n ↔ m ≤ n := by
  unfold mo
  split <;> split <;> omega
theorem mo_lt31 {b m : Nat} (hb : b < 1000000) (hm : m ≤ b ∨ m = 1000000000) : mo m < 2 ^ 31 ∧ m < 2 ^ 31 := by
  unfold mo
  split <;> omega
theorem rel_m {pl b b2 : Nat} {x y : Rw} (h : rel pl b x y) (hb : b ≤ b2) : rel pl b2 x y := by
  obtain ⟨c, h⟩ := h
  exact ⟨c, fun q hq => ⟨(h q hq).1, (h q hq).2.1, by have := (h q hq).2.2.1; omega, (h q hq).2.2.2⟩⟩
theorem relT_tpM {pl b : Nat} (hb : b < 1000000) {x y x2 y2 : Rw} {c c2 : Vv} (h : relT pl b x y c) (h2 : relT pl b x2 y2 c2) : tp5 y y2 = true ↔ leV c2 c := by
  rw [tp5_iff]
  constructor
  · intro t q hq
    obtain ⟨a1, a2, a3, a4⟩ := h q hq
    obtain ⟨b1, b2, b3, b4⟩ := h2 q hq
    have t1 := t q hq
    rw [a2, b2, nI_ltI (mo_lt31 hb a3).1 (mo_lt31 hb b3).1] at t1
    exact (mo_le hb b3 a3).mp (by omega)
  · intro t q hq
    obtain ⟨a1, a2, a3, a4⟩ := h q hq
    obtain ⟨b1, b2, b3, b4⟩ := h2 q hq
    rw [a2, b2, nI_ltI (mo_lt31 hb a3).1 (mo_lt31 hb b3).1]
    have := (mo_le hb b3 a3).mpr (t q hq)
    omega
theorem relT_tpC {pl b : Nat} (hpl : pl ≤ 5) (hb : b < 1000000) {x y x2 y2 : Rw} {c c2 : Vv} (h : relT pl b x y c) (h2 : relT pl b x2 y2 c2) : tpP pl x x2 = true ↔ leV c2 c := by
  rw [tpP_iff]
  constructor
  · intro t q hq
    obtain ⟨a1, a2, a3, a4⟩ := h q hq
    obtain ⟨b1, b2, b3, b4⟩ := h2 q hq
    rcases Nat.lt_or_ge q pl with d | d
    · have t1 := t q d
      rw [a1, b1, nI_leI (mo_lt31 hb b3).2 (mo_lt31 hb a3).2] at t1
      exact t1
    · rw [b4 d]; exact Nat.zero_le _
  · intro t q hq
    obtain ⟨a1, a2, a3, a4⟩ := h q (by omega)
    obtain ⟨b1, b2, b3, b4⟩ := h2 q (by omega)
    rw [a1, b1, nI_leI (mo_lt31 hb b3).2 (mo_lt31 hb a3).2]
    exact t q (by omega)
theorem rel_tp {pl b : Nat} (hpl : pl ≤ 5) (hb : b < 1000000) {x y x2 y2 : Rw} (h : rel pl b x y) (h2 : rel pl b x2 y2) : tpP pl x x2 = tp5 y y2 := by
  obtain ⟨c, h⟩ := h
  obtain ⟨c2, h2⟩ := h2
  exact bb_eq (relT_tpC hpl hb h h2) (relT_tpM hb h h2)
def om9 : Int32 := nI 1000000000
def om6 : Int32 := nI 1000000
theorem rel_ra {pl b : Nat} (hpl : pl ≤ 5) (hb : b < 1000000) {x y w v : Rw} (h : rel pl b x y) (h2 : rel pl b w v) : rel pl b (raP pl (nI 1000000000) x w) (raM (nI 1000000) y v) ∧ rsP pl (nI 1000000000) x w = rsM (nI 1000000) y v := by
  obtain ⟨c, h⟩ := h
  obtain ⟨d, h2⟩ := h2
  have hC : ∀ q, q < 5 → ((q < pl ∧ ¬ w q = nI 1000000000 ∧ x q < w q) ↔ (d q ≠ 1000000000 ∧ c q < d q)) := by
    intro q hq
    obtain ⟨a1, a2, a3, a4⟩ := h q hq
    obtain ⟨b1, b2, b3, b4⟩ := h2 q hq
    rw [a1, b1, nI_ltI (mo_lt31 hb a3).2 (mo_lt31 hb b3).2, nI_eq (mo_lt31 hb b3).2 (by decide)]
    constructor
    · rintro ⟨_, e1, e2⟩; exact ⟨e1, e2⟩
    · rintro ⟨e1, e2⟩
      refine ⟨Nat.lt_of_not_le (fun e => ?_), e1, e2⟩
      have := b4 e
      omega
  have hM : ∀ q, q < 5 → ((y q < v q ∧ v q < nI 1000000) ↔ (d q ≠ 1000000000 ∧ c q < d q)) := by
    intro q hq
    obtain ⟨a1, a2, a3, a4⟩ := h q hq
    obtain ⟨b1, b2, b3, b4⟩ := h2 q hq
    have l1 := mo_le hb b3 a3
    rw [a2, b2, nI_ltI (mo_lt31 hb a3).1 (mo_lt31 hb b3).1, nI_ltI (mo_lt31 hb b3).1 (by decide)]
    have l2 : mo (d q) < 1000000 ↔ d q ≠ 1000000000 := by unfold mo; split <;> omega
    rw [l2]
    omega
  refine ⟨⟨fun q => if d q ≠ 1000000000 ∧ c q < d q then 1000000000 else d q, fun q hq => ?_⟩, ?_⟩
  · obtain ⟨a1, a2, a3, a4⟩ := h q hq
    obtain ⟨b1, b2, b3, b4⟩ := h2 q hq
    have e1 := hC q hq
    have e2 := hM q hq
    unfold raP raM
    by_cases g : d q ≠ 1000000000 ∧ c q < d q
    · rw [if_pos (e1.mpr g), if_pos (e2.mpr g)]
      simp only [if_pos g]
      refine ⟨trivial, by decide, Or.inr trivial, fun e => ?_⟩
      have := b4 e
      omega
    · rw [if_neg (fun t => g (e1.mp t)), if_neg (fun t => g (e2.mp t))]
      simp only [if_neg g]
      exact ⟨b1, b2, b3, b4⟩
  · refine bb_eq (P := ∃ q, q < 5 ∧ (d q ≠ 1000000000 ∧ c q < d q)) ?_ ?_
    · unfold rsP
      rw [List.any_eq_true]
      constructor
      · rintro ⟨q, hq, t⟩
        rw [List.mem_range] at hq
        rw [decide_eq_true_eq] at t
        exact ⟨q, by omega, (hC q (by omega)).mp ⟨hq, t⟩⟩
      · rintro ⟨q, hq, t⟩
        obtain ⟨t1, t2⟩ := (hC q hq).mpr t
        exact ⟨q, List.mem_range.mpr t1, by rw [decide_eq_true_eq]; exact t2⟩
    · unfold rsM
      rw [List.any_eq_true]
      constructor
      · rintro ⟨q, hq, t⟩
        rw [List.mem_range] at hq
        rw [decide_eq_true_eq] at t
        exact ⟨q, hq, (hM q hq).mp t⟩
      · rintro ⟨q, hq, t⟩
        exact ⟨q, List.mem_range.mpr hq, by rw [decide_eq_true_eq]; exact (hM q hq).mpr t⟩
def R2 {α β : Type} (R : α → β → Prop) : List α → List β → Prop
  | [], [] => True
  | a :: l, b :: m => R a b ∧ R2 R l m
  | [], _ :: _ => False
  | _ :: _, [] => False
theorem R2_m {α β : Type} {R S : α → β → Prop} (h : ∀ a b, R a b → S a b) : ∀ (l : List α) (m : List β), R2 R l m → R2 S l m := by
  intro l
  induction l with
  | nil => intro m hm; cases m with
    | nil => trivial
    | cons b m => exact hm
  | cons a l ih => intro m hm; cases m with
    | nil => exact hm
    | cons b m => exact ⟨h a b hm.1, ih m hm.2⟩
theorem R2_any {α β : Type} {R : α → β → Prop} {p : α → Bool} {r : β → Bool} (h : ∀ a b, R a b → p a = r b) : ∀ (l : List α) (m : List β), R2 R l m → l.any p = m.any r := by
  intro l
  induction l with
  | nil => intro m hm; cases m with
    | nil => rfl
    | cons b m => exact absurd hm id
  | cons a l ih => intro m hm; cases m with
    | nil => exact absurd hm id
    | cons b m => rw [List.any_cons, List.any_cons, h a b hm.1, ih m hm.2]
theorem pass_R {pl b : Nat} (hpl : pl ≤ 5) (hb : b < 1000000) : ∀ (l m : List Rw), R2 (rel pl b) l m → ∀ (w v : Rw) (t : Bool), rel pl b w v → rel pl b (passP pl (nI 1000000000) l (w, t)).1 (passF (nI 1000000) m (v, t)).1 ∧ (passP pl (nI 1000000000) l (w, t)).2 = (passF (nI 1000000) m (v, t)).2 := by
  intro l
  induction l with
  | nil => intro m hm; cases m with
    | nil => intro w v t h; exact ⟨h, rfl⟩
    | cons b m => exact absurd hm id
  | cons a l ih => intro m hm; cases m with
    | nil => exact absurd hm id
    | cons b9 m =>
      intro w v t h
      have e := rel_tp hpl hb h hm.1
      obtain ⟨r1, r2⟩ := rel_ra hpl hb hm.1 h
      show rel pl b (passP pl (nI 1000000000) l (stP pl (nI 1000000000) (w, t) a)).1 (passF (nI 1000000) m (stM (nI 1000000) (v, t) b9)).1 ∧ (passP pl (nI 1000000000) l (stP pl (nI 1000000000) (w, t) a)).2 = (passF (nI 1000000) m (stM (nI 1000000) (v, t) b9)).2
      by_cases c : tp5 v b9 = true
      · have c2 : tpP pl w a = true := by rw [e]; exact c
        have s1 : stP pl (nI 1000000000) (w, t) a = (raP pl (nI 1000000000) a w, t || rsP pl (nI 1000000000) a w) := if_pos c2
        have s2 : stM (nI 1000000) (v, t) b9 = (raM (nI 1000000) b9 v, t || rsM (nI 1000000) b9 v) := if_pos c
        rw [s1, s2, r2]
        exact ih m hm.2 _ _ _ r1
      · have c2 : ¬ tpP pl w a = true := by rw [e]; exact c
        have s1 : stP pl (nI 1000000000) (w, t) a = (w, t) := if_neg c2
        have s2 : stM (nI 1000000) (v, t) b9 = (v, t) := if_neg c
        rw [s1, s2]
        exact ih m hm.2 _ _ _ h
theorem cnt_lo {pl b : Nat} (hpl : pl ≤ 5) {w v : Rw} (h : rel pl b w v) : 5 - pl ≤ cntF (nI 1000000) v := by
  obtain ⟨c, h⟩ := h
  have h1 : ((List.range 5).filter (fun q => decide (pl ≤ q) && decide (q < 5))).length ≤ cntF (nI 1000000) v := by
    refine fl_le (fun q hq => ?_)
    rw [Bool.and_eq_true, decide_eq_true_eq, decide_eq_true_eq] at hq
    obtain ⟨a1, a2, a3, a4⟩ := h q hq.2
    rw [decide_eq_true_eq, a2, a4 hq.1]
    decide
  have h2 : ∀ pl, pl < 6 → ((List.range 5).filter (fun q => decide (pl ≤ q) && decide (q < 5))).length = 5 - pl := by decide
  rw [h2 pl (by omega)] at h1
  exact h1
theorem acc_R {pl b : Nat} (hpl : pl ≤ 5) (hb : b < 1000000) {l m : List Rw} (hlm : R2 (rel pl b) l m) : ∀ (k2 k : Nat) (w v : Rw), rel pl b w v → cntF (nI 1000000) v < k2 → cntF (nI 1000000) v < k + (5 - pl) → rel pl b (accP pl (nI 1000000000) l k w) (accM (nI 1000000) m k2 v) := by
  intro k2
  induction k2 with
  | zero => intro k w v _ h; exact absurd h (Nat.not_lt_zero _)
  | succ k2 ih =>
    intro k w v h h1 h2
    have h3 := cnt_lo hpl h
    obtain ⟨k, rfl⟩ : ∃ j, k = j + 1 := ⟨k - 1, by omega⟩
    obtain ⟨r1, r2⟩ := pass_R hpl hb l m hlm w v false h
    have hp := (pass_cnt (nI 1000000) m (v, false)).2
    unfold accP accM
    rw [r2]
    by_cases c : (passF (nI 1000000) m (v, false)).2 = true
    · rw [if_pos c, if_pos c]
      rcases hp c with d | d
      · cases d
      · have d2 : cntF (nI 1000000) (passF (nI 1000000) m (v, false)).1 < cntF (nI 1000000) v := d
        exact ih k _ _ r1 (by omega) (by omega)
    · rw [if_neg c, if_neg c]
      exact r1
/-- arcs of the net, on both sides, none at places that are not there -/
def arcT (pl tr : Nat) (T Gv : Nat → Vv) (tk gv : Nat → Nat → Int32) (a4 a5 : Nat → Int32) : Prop := ∀ t, t < tr → ∀ q, q < 5 → tk t q = nI (T t q) ∧ gv t q = nI (Gv t q) ∧ a4 (5 * t + q) = nI (T t q) ∧ a5 (5 * t + q) = nI (Gv t q) ∧ T t q ≤ 5 ∧ Gv t q ≤ 5 ∧ (pl ≤ q → T t q = 0 ∧ Gv t q = 0)
section TT
variable {pl tr : Nat} {T Gv : Nat → Vv} {tk gv : Nat → Nat → Int32} {a4 a5 : Nat → Int32}
theorem mo_s {n : Nat} (h : n ≤ 950000) : mo n = n := by unfold mo; rw [if_neg (by omega)]
theorem arc_rel (hA : arcT pl tr T Gv tk gv a4 a5) {t : Nat} (ht : t < tr) {b : Nat} (hb : 5 ≤ b) : relT pl b (tk t) (fun q => a4 (5 * t + q)) (T t) := by
  intro q hq
  obtain ⟨h1, h2, h3, h4, h5, h6, h7⟩ := hA t ht q hq
  exact ⟨h1, by rw [mo_s (by omega)]; exact h3, by omega, fun h => (h7 h).1⟩
theorem can_R (hpl : pl ≤ 5) (hA : arcT pl tr T Gv tk gv a4 a5) {t : Nat} (ht : t < tr) {b : Nat} (hb : b < 900000) {x y : Rw} (h : rel pl b x y) : canP pl tk x t = canR a4 y t := by
  unfold canP canR
  exact rel_tp (b := b + 5) hpl (by omega) (rel_m h (by omega)) ⟨_, arc_rel hA ht (by omega)⟩
end TT
