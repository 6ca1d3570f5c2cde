/-! pure words of the small methods -/
theorem bI_T {b : Bool} (h : b = true) : nI 1 = bI b := by rw [h]; rfl
theorem bI_F {b : Bool} (h : b = false) : nI 0 = bI b := by rw [h]; rfl
theorem wk_dec {x : Nat} (h : 0 < x) : nI x + Int32.ofInt (-1) = nI (x - 1) := by
  obtain ⟨y, rfl⟩ : ∃ y, x = y + 1 := ⟨x - 1, by omega⟩
  have := pk_m1 y
  exact this
theorem wk_fz (b : Bool) : fits .boolean (.int (bI b)) = true := by cases b <;> rfl
/-- 0 ≤ x < n -/
def inB (x n : Int32) : Bool := decide (¬ x < 0) && decide (¬ n ≤ x)
/-- 0 ≤ x ≤ n -/
def inC (x n : Int32) : Bool := decide (¬ x < 0) && decide (¬ n < x)
/-- at each of the five places f from x on has as many as g from y on -/
def tpB (f : Nat → Int32) (x : Nat) (g : Nat → Int32) (y : Nat) : Bool := (List.range 5).all (fun q => decide (¬ f (x + q) < g (y + q)))
theorem tpB_iff {f : Nat → Int32} {x : Nat} {g : Nat → Int32} {y : Nat} : tpB f x g y = true ↔ ∀ q, q < 5 → ¬ f (x + q) < g (y + q) := by
  unfold tpB
  rw [List.all_eq_true]
  exact ⟨fun h q hq => of_decide_eq_true (h q (List.mem_range.mpr hq)), fun h q hq => decide_eq_true (h q (List.mem_range.mp hq))⟩
theorem bb_eq {t u : Bool} {P : Prop} (h : t = true ↔ P) (h2 : u = true ↔ P) : t = u := Bool.eq_iff_iff.mpr (h.trans h2.symm)
theorem al_f1 {t : Bool} {k : Nat} {P : Nat → Prop} (h : t = true ↔ ∀ q, q < k → P q) (c : t = false) : false = true ↔ ∀ q, q < k + 1 → P q :=
  ⟨fun h => by (cases h), fun h2 => by rw [← c]; exact h.mpr (fun q hq => h2 q (Nat.lt_succ_of_lt hq))⟩
theorem al_f2 {k : Nat} {P : Nat → Prop} (c : ¬ P k) : false = true ↔ ∀ q, q < k + 1 → P q :=
  ⟨fun h => by (cases h), fun h2 => absurd (h2 k (Nat.lt_succ_self k)) c⟩
theorem al_t {t : Bool} {k : Nat} {P : Nat → Prop} (h : t = true ↔ ∀ q, q < k → P q) (ct : t = true) (c : P k) : true = true ↔ ∀ q, q < k + 1 → P q :=
  ⟨fun _ q hq => by rcases Nat.lt_or_eq_of_le (Nat.le_of_lt_succ hq) with h1 | rfl; exact h.mp ct q h1; exact c, fun _ => rfl⟩
theorem al_0 {P : Nat → Prop} : true = true ↔ ∀ q, q < 0 → P q := ⟨fun _ q hq => absurd hq (Nat.not_lt_zero q), fun _ => rfl⟩
theorem ex_0 {P : Nat → Prop} : false = true ↔ ∃ q, q < 0 ∧ P q := ⟨fun h => by (cases h), fun ⟨q, hq, _⟩ => absurd hq (Nat.not_lt_zero q)⟩
theorem ex_t1 {t : Bool} {k : Nat} {P : Nat → Prop} (h : t = true ↔ ∃ q, q < k ∧ P q) (c : t = true) : true = true ↔ ∃ q, q < k + 1 ∧ P q :=
  ⟨fun _ => by obtain ⟨q, h1, h2⟩ := h.mp c; exact ⟨q, Nat.lt_succ_of_lt h1, h2⟩, fun _ => rfl⟩
theorem ex_t2 {k : Nat} {P : Nat → Prop} (c : P k) : true = true ↔ ∃ q, q < k + 1 ∧ P q := ⟨fun _ => ⟨k, Nat.lt_succ_self k, c⟩, fun _ => rfl⟩
theorem ex_f {t : Bool} {k : Nat} {P : Nat → Prop} (h : t = true ↔ ∃ q, q < k ∧ P q) (ct : t = false) (c : ¬ P k) : false = true ↔ ∃ q, q < k + 1 ∧ P q :=
  ⟨fun h => by (cases h), fun ⟨q, h1, h2⟩ => by rcases Nat.lt_or_eq_of_le (Nat.le_of_lt_succ h1) with h3 | rfl; exact ct ▸ h.mpr ⟨q, h3, h2⟩; exact absurd h2 c⟩
theorem bd_eq {t : Bool} {P : Prop} {i : Decidable P} (h : t = true ↔ P) : t = decide P := by
  cases t with
  | true => exact (decide_eq_true (h.mp rfl)).symm
  | false => exact (decide_eq_false (fun q => by cases h.mpr q)).symm
/-! pure words: copying five places, the small writers of the reference -/
def cpN (h f : Nat → Int32) (k : Nat) : Nat → Int32 := fun q => if q < k then h q else f q
theorem cpN_0 (h f : Nat → Int32) : cpN h f 0 = f := funext fun q => if_neg (Nat.not_lt_zero q)
theorem cpN_s (h f : Nat → Int32) (k : Nat) : upd (cpN h f k) k (h k) = cpN h f (k + 1) := by
  funext q
  unfold upd cpN
  by_cases h1 : q = k
  · subst h1; rw [if_pos rfl, if_pos (Nat.lt_succ_self q)]
  · by_cases h2 : q < k
    · rw [if_neg h1, if_pos h2, if_pos (Nat.lt_succ_of_lt h2)]
    · rw [if_neg h1, if_neg h2, if_neg (by omega)]
theorem cpN_ge {h f : Nat → Int32} {k q : Nat} (hq : k ≤ q) : cpN h f k q = f q := if_neg (Nat.not_lt.mpr hq)
theorem cpN_lt {h f : Nat → Int32} {k q : Nat} (hq : q < k) : cpN h f k q = h q := if_pos hq
theorem inB_nI {x : Int32} {k : Nat} (hk : k < 2 ^ 31) (h : inB x (nI k) = true) : ∃ j : Nat, j < k ∧ x = nI j := by
  unfold inB at h
  rw [Bool.and_eq_true] at h
  have h1 := of_decide_eq_true h.1
  have h2 := of_decide_eq_true h.2
  obtain ⟨j, h3, h4, -⟩ := pk_mu h1 h2 hk
  exact ⟨j, h3, h4⟩
theorem inC_nI {x : Int32} {k : Nat} (hk : k < 2 ^ 31) (h : inC x (nI k) = true) : ∃ j : Nat, j ≤ k ∧ x = nI j := by
  unfold inC at h
  rw [Bool.and_eq_true] at h
  have h1 := of_decide_eq_true h.1
  have h2 := of_decide_eq_true h.2
  obtain ⟨j, h3, rfl⟩ := nI_of h1
  exact ⟨j, Nat.le_of_not_lt (fun q => h2 ((nI_ltI hk h3).mpr q)), rfl⟩
theorem inB_is {j k : Nat} (hj : j < k) (hk : k < 2 ^ 31) : inB (nI j) (nI k) = true := by
  unfold inB
  rw [Bool.and_eq_true]
  exact ⟨decide_eq_true (nI_pos (by omega)), decide_eq_true (nI_ge hj hk)⟩
def placeM (pl : Nat) (f1 f6 : Nat → Int32) (x : Int32) : Int32 × Nat × (Nat → Int32) × (Nat → Int32) :=
  if pl = 5 ∨ inC x (nI 20) = false then (-1, pl, f1, f6) else (nI pl, pl + 1, upd f1 pl x, cpN (upd f1 pl x) f6 5)
def transM (tr : Nat) (f1 f6 : Nat → Int32) : Int32 × Nat × (Nat → Int32) :=
  if tr = 6 then (-1, tr, f6) else (nI tr, tr + 1, cpN f1 f6 5)
def arcM (pl tr : Nat) (f1 f4 f5 f6 : Nat → Int32) (x1 x2 x3 x4 : Int32) : Bool × (Nat → Int32) × (Nat → Int32) × (Nat → Int32) :=
  if inB x1 (nI tr) && inB x2 (nI pl) && inC x3 (nI 5) && inC x4 (nI 5) then (true, upd f4 (5 * x1.toNatClampNeg + x2.toNatClampNeg) x3, upd f5 (5 * x1.toNatClampNeg + x2.toNatClampNeg) x4, cpN f1 f6 5) else (false, f4, f5, f6)
def targetM (pl : Nat) (f2 : Nat → Int32) (x1 x2 : Int32) : Bool × (Nat → Int32) :=
  if inB x1 (nI pl) && inC x2 (nI 20) then (true, upd f2 x1.toNatClampNeg x2) else (false, f2)
/-- what firing leads to -/
def fiM (f4 f5 f6 : Nat → Int32) (t : Nat) : Nat → Int32 := fun q => f6 q + (f5 (5 * t + q) - f4 (5 * t + q))
def canM (tr : Nat) (f4 f : Nat → Int32) (x : Nat) (t : Int32) : Bool := inB t (nI tr) && tpB f x f4 (5 * t.toNatClampNeg)
def fireM (tr : Nat) (f4 f5 f6 : Nat → Int32) (t : Int32) : Bool × (Nat → Int32) :=
  if canM tr f4 f6 0 t then (true, cpN (fiM f4 f5 f6 t.toNatClampNeg) f6 5) else (false, f6)
/-! THE REFERENCE: its cells -/
abbrev mw (cI : ClassId) (r : Nat → Nat) (i0 i3 i7 i8 i9 i13 i15 i17 i18 i19 i22 i23 : Int32) (a1 a2 a4 a5 a6 a10 a11 a12 a14 a16 a20 a21 a24 a25 a26 : Nat → Int32) : va_W := [(r 0, .inr (5, [.int i0, .ref (r 1), .ref (r 2), .int i3, .ref (r 4), .ref (r 5), .ref (r 6), .int i7, .int i8, .int i9, .ref (r 10), .ref (r 11), .ref (r 12), .int i13, .ref (r 14), .int i15, .ref (r 16), .int i17, .int i18, .int i19, .ref (r 20), .ref (r 21), .int i22, .int i23, .ref (r 24), .ref (r 25), .ref (r 26)])), (r 1, .inl (cI, 5, .inl a1)), (r 2, .inl (cI, 5, .inl a2)), (r 4, .inl (cI, 30, .inl a4)), (r 5, .inl (cI, 30, .inl a5)), (r 6, .inl (cI, 5, .inl a6)), (r 10, .inl (cI, 61, .inl a10)), (r 11, .inl (cI, 61000, .inl a11)), (r 12, .inl (cI, 7500, .inl a12)), (r 14, .inl (cI, 7500, .inl a14)), (r 16, .inl (cI, 60, .inl a16)), (r 20, .inl (cI, 5005, .inl a20)), (r 21, .inl (cI, 1001, .inl a21)), (r 24, .inl (cI, 1001, .inl a24)), (r 25, .inl (cI, 5, .inl a25)), (r 26, .inl (cI, 5, .inl a26))]
