/-! the step back of the reference, and its row, as lists -/
def preM (f4 f5 : Nat → Int32) (x : Rw) (t : Nat) : Rw := fun q => f4 (5 * t + q) + (if x q - f5 (5 * t + q) ≤ 0 then nI 0 else x q - f5 (5 * t + q))
def preA (f4 f5 f14 : Nat → Int32) (k t : Nat) : Nat → Int32 := fun q => f4 (5 * t + q) + (if f14 (5 * k + q) - f5 (5 * t + q) ≤ 0 then nI 0 else f14 (5 * k + q) - f5 (5 * t + q))
theorem preA_pos {f4 f5 f14 : Nat → Int32} {k t q : Nat} (h : f14 (5 * k + q) - f5 (5 * t + q) ≤ 0) : preA f4 f5 f14 k t q = f4 (5 * t + q) + nI 0 := by unfold preA; rw [if_pos h]
theorem preA_neg {f4 f5 f14 : Nat → Int32} {k t q : Nat} (h : ¬ f14 (5 * k + q) - f5 (5 * t + q) ≤ 0) : preA f4 f5 f14 k t q = f4 (5 * t + q) + (f14 (5 * k + q) - f5 (5 * t + q)) := by unfold preA; rw [if_neg h]
theorem preA_row {f4 f5 f14 : Nat → Int32} {k t q : Nat} {x : Rw} (h : f14 (5 * k + q) = x q) : preA f4 f5 f14 k t q = preM f4 f5 x t q := by unfold preA preM; rw [h]
def inK (f4 f5 : Nat → Int32) (x : Rw) (t : Nat) (X : List Rw) : List Rw := (List.range t).foldl (fun Y u => tkIn Y (preM f4 f5 x u)) X
def stepK (tr : Nat) (f4 f5 : Nat → Int32) (B X : List Rw) : List Rw := B.foldl (fun Y x => inK f4 f5 x tr Y) X
theorem inK_0 (f4 f5 : Nat → Int32) (x : Rw) (X : List Rw) : inK f4 f5 x 0 X = X := rfl
theorem inK_s (f4 f5 : Nat → Int32) (x : Rw) (t : Nat) (X : List Rw) : inK f4 f5 x (t + 1) X = tkIn (inK f4 f5 x t X) (preM f4 f5 x t) := by
  unfold inK
  rw [List.range_succ, List.foldl_append]
  rfl
theorem stepK_s {tr : Nat} {f4 f5 : Nat → Int32} {B X : List Rw} {k : Nat} {x : Rw} (hx : B[k]? = some x) : stepK tr f4 f5 (B.take (k + 1)) X = inK f4 f5 x tr (stepK tr f4 f5 (B.take k) X) := by
  unfold stepK
  rw [take_s hx, List.foldl_append]
  rfl
def sameB (X B : List Rw) : Bool := decide (X.length = B.length) && X.all (fun x => B.any (fun y => tp5 x y))
theorem sm_s {t d : Bool} {k : Nat} {P0 : Prop} {R9 : Nat → Prop} (hs : t = true ↔ (P0 ∧ ∀ q, q < k → R9 q)) (ct : t = true) (hd : d = true ↔ R9 k) : d = true ↔ (P0 ∧ ∀ q, q < k + 1 → R9 q) := by
  obtain ⟨h0, h1⟩ := hs.mp ct
  constructor
  · intro h
    refine ⟨h0, fun q hq => ?_⟩
    rcases Nat.lt_or_eq_of_le (Nat.le_of_lt_succ hq) with h2 | rfl
    · exact h1 q h2
    · exact hd.mp h
  · intro h
    exact hd.mpr (h.2 k (Nat.lt_succ_self k))
theorem sm_end {t : Bool} {k : Nat} {f g : Nat → Int32} {X B : List Rw} (hX : rowsV f 0 X) (hB : rowsV g 0 B) (hs : t = true ↔ (X.length = B.length ∧ ∀ q, q < k → ∃ j, j < B.length ∧ tpB f (5 * q) g (5 * j) = true)) (hk : k ≤ X.length) (hend : X.length ≤ k ∨ t = false) : t = sameB X B := by
  have hrow : ∀ q x, X[q]? = some x → ((∃ j, j < B.length ∧ tpB f (5 * q) g (5 * j) = true) ↔ B.any (fun y => tp5 x y) = true) := by
    intro q x hx
    have h1 : ∀ p, p < 5 → f (5 * q + p) = x p := fun p hp => by have := hX q x hx p hp; rw [Nat.zero_add] at this; exact this
    rw [List.any_eq_true]
    constructor
    · rintro ⟨j, hj, ht⟩
      obtain ⟨y, hy, h2⟩ := rowsV_at0 hB hj
      rw [tpB_row h1 h2] at ht
      exact ⟨y, List.mem_of_getElem? hy, ht⟩
    · rintro ⟨y, hy, ht⟩
      obtain ⟨j, hj⟩ := List.mem_iff_getElem?.mp hy
      obtain ⟨y2, hy2, h2⟩ := rowsV_at0 hB (List.getElem?_eq_some_iff.mp hj).1
      rw [hj] at hy2
      cases hy2
      refine ⟨j, (List.getElem?_eq_some_iff.mp hj).1, ?_⟩
      rw [tpB_row h1 h2]
      exact ht
  refine bb_eq Iff.rfl ?_
  unfold sameB
  rw [Bool.and_eq_true, List.all_eq_true]
  constructor
  · rintro ⟨h1, h2⟩
    refine hs.mpr ⟨of_decide_eq_true h1, fun q hq => ?_⟩
    have hq2 : q < X.length := by omega
    exact (hrow q X[q] (List.getElem?_eq_getElem hq2)).mpr (h2 _ (List.getElem_mem hq2))
  · intro ht
    obtain ⟨h1, h2⟩ := hs.mp ht
    have hkX : X.length ≤ k := by
      rcases hend with h | h
      · exact h
      · rw [h] at ht; cases ht
    refine ⟨decide_eq_true h1, fun x hx => ?_⟩
    obtain ⟨q, hq⟩ := List.mem_iff_getElem?.mp hx
    exact (hrow q x hq).mp (h2 q (by have := (List.getElem?_eq_some_iff.mp hq).1; omega))
def fiW (f4 f5 : Nat → Int32) (f : Rw) (t : Nat) : Rw := fun q => f q + f5 (5 * t + q) - f4 (5 * t + q)
def leadsB (tr : Nat) (f4 f5 : Nat → Int32) (f : Rw) (K : List Rw) (t : Nat) : Bool := canM tr f4 f 0 (nI t) && K.any (fun x => tp5 (fiW f4 f5 f t) x)
theorem tp5_cg {f g : Rw} (h : ∀ q, q < 5 → f q = g q) (x : Rw) : tp5 f x = tp5 g x := by
  refine bb_eq tp5_iff ?_
  rw [tp5_iff]
  exact ⟨fun h2 q hq => by rw [h q hq]; exact h2 q hq, fun h2 q hq => by have := h2 q hq; rw [h q hq] at this; exact this⟩
theorem any_cg {f g : Rw} (h : ∀ q, q < 5 → f q = g q) (K : List Rw) : K.any (fun x => tp5 f x) = K.any (fun x => tp5 g x) := by
  rw [show (fun x => tp5 f x) = (fun x => tp5 g x) from funext (tp5_cg h)]
theorem canM_cg {tr : Nat} {f4 : Nat → Int32} {f g : Rw} (h : ∀ q, q < 5 → f q = g q) (t : Int32) : canM tr f4 f 0 t = canM tr f4 g 0 t := by
  unfold canM
  rw [show tpB f 0 f4 (5 * t.toNatClampNeg) = tpB g 0 f4 (5 * t.toNatClampNeg) from by
    rw [tpB_row (u := g) (v := fun q => f4 (5 * t.toNatClampNeg + q)) (fun q hq => by rw [Nat.zero_add]; exact h q hq) (fun q _ => rfl), tpB_row (f := g) (u := g) (v := fun q => f4 (5 * t.toNatClampNeg + q)) (fun q hq => by rw [Nat.zero_add]) (fun q _ => rfl)]]
theorem leadsB_cg {tr : Nat} {f4 f5 : Nat → Int32} {f g : Rw} (h : ∀ q, q < 5 → f q = g q) (K : List Rw) (t : Nat) : leadsB tr f4 f5 f K t = leadsB tr f4 f5 g K t := by
  unfold leadsB
  rw [canM_cg h, any_cg (f := fiW f4 f5 f t) (g := fiW f4 f5 g t) (fun q hq => by unfold fiW; rw [h q hq])]
def gAt (f4 f5 : Nat → Int32) (f : Rw) (gt : Nat → Nat) : Nat → Rw
  | 0 => f
  | k + 1 => fiM f4 f5 (gAt f4 f5 f gt k) (gt k)
theorem stepK_len (tr : Nat) (f4 f5 : Nat → Int32) (htr : tr ≤ 6) : ∀ (B X : List Rw), (stepK tr f4 f5 B X).length ≤ X.length + 6 * B.length := by
  have h1 : ∀ (x : Rw) (t : Nat) (X : List Rw), (inK f4 f5 x t X).length ≤ X.length + t := by
    intro x t X
    induction t with
    | zero => rw [inK_0]; omega
    | succ t ih => rw [inK_s]; have := tkIn_len (inK f4 f5 x t X) (preM f4 f5 x t); omega
  intro B
  induction B with
  | nil => intro X; exact Nat.le_add_right _ _
  | cons x B ih =>
    intro X
    have := ih (inK f4 f5 x tr X)
    have := h1 x tr X
    show (stepK tr f4 f5 B (inK f4 f5 x tr X)).length ≤ _
    rw [List.length_cons]
    omega
def tgM (pl : Nat) (f2 : Nat → Int32) : Rw := fun q => if q < pl then f2 q else nI 0
theorem tgM_lt {pl : Nat} {f2 : Nat → Int32} {q : Nat} (h : q < pl) : tgM pl f2 q = f2 q := if_pos h
theorem tgM_ge {pl : Nat} {f2 : Nat → Int32} {q : Nat} (h : pl ≤ q) : tgM pl f2 q = nI 0 := if_neg (by omega)
def kpW (f : Nat → Int32) (k : Nat) : Nat → Int32 := fun z => if z < 5 * k then f z else nI 0
theorem kpW_lt {f : Nat → Int32} {k q : Nat} (h : q < 5 * k) : kpW f k q = f q := if_pos h
theorem kpW_ge {f : Nat → Int32} {k q : Nat} (h : 5 * k ≤ q) : kpW f k q = nI 0 := if_neg (by omega)
theorem kp_old {f w : Nat → Int32} {i j : Nat} {X : List Rw} (h : rowsV f (1000 * j) X) (hl : X.length ≤ 200) (hj : j < i) : rowsV (wrN f w (1000 * i) 1000) (1000 * j) X := by
  intro k x hx q hq
  have := (List.getElem?_eq_some_iff.mp hx).1
  rw [← h k x hx q hq]
  exact if_neg (by omega)
theorem kp_new {f g : Nat → Int32} {i : Nat} {X : List Rw} (h : rowsV g 0 X) (hl : X.length ≤ 200) : rowsV (wrN f (kpW g X.length) (1000 * i) 1000) (1000 * i) X := by
  intro k x hx q hq
  have := (List.getElem?_eq_some_iff.mp hx).1
  unfold wrN
  rw [if_pos (by omega), show 1000 * i + 5 * k + q - 1000 * i = 5 * k + q by omega, kpW_lt (by omega)]
  have := h k x hx q hq
  rw [Nat.zero_add] at this
  exact this
theorem cp_rows {f g : Nat → Int32} {X : List Rw} (h : rowsV f 0 X) : rowsV (cpN f g (5 * X.length)) 0 X := by
  intro k x hx q hq
  have := (List.getElem?_eq_some_iff.mp hx).1
  rw [cpN_lt (by omega)]
  exact h k x hx q hq
def endM (Ls : Nat → List Rw) (f1 : Rw) (i : Nat) : Int32 := if (Ls i).any (fun x => tp5 f1 x) = true then nI 1 else if 200 < (Ls i).length then -1 else if 0 < i ∧ sameB (Ls i) (Ls (i - 1)) = true then nI 0 else if i = 60 then -1 else nI 2
theorem endM_1 {Ls : Nat → List Rw} {f1 : Rw} {i : Nat} (h : (Ls i).any (fun x => tp5 f1 x) = true) : endM Ls f1 i = nI 1 := if_pos h
theorem endM_2 {Ls : Nat → List Rw} {f1 : Rw} {i : Nat} (h : (Ls i).any (fun x => tp5 f1 x) = false) (h2 : 200 < (Ls i).length) : endM Ls f1 i = -1 := by
  unfold endM; rw [if_neg (by rw [h]; exact Bool.false_ne_true), if_pos h2]
theorem endM_3 {Ls : Nat → List Rw} {f1 : Rw} {i : Nat} (h : (Ls i).any (fun x => tp5 f1 x) = false) (h2 : (Ls i).length ≤ 200) (h3 : 0 < i) (h4 : sameB (Ls i) (Ls (i - 1)) = true) : endM Ls f1 i = nI 0 := by
  unfold endM; rw [if_neg (by rw [h]; exact Bool.false_ne_true), if_neg (by omega), if_pos ⟨h3, h4⟩]
theorem endM_4 {Ls : Nat → List Rw} {f1 : Rw} {i : Nat} (h : (Ls i).any (fun x => tp5 f1 x) = false) (h2 : (Ls i).length ≤ 200) (h3 : i = 0 ∨ sameB (Ls i) (Ls (i - 1)) = false) (h5 : i = 60) : endM Ls f1 i = -1 := by
  unfold endM; rw [if_neg (by rw [h]; exact Bool.false_ne_true), if_neg (by omega), if_neg (fun q => by rcases h3 with h3 | h3; omega; rw [h3] at q; exact absurd q.2 Bool.false_ne_true), if_pos h5]
theorem endM_5 {Ls : Nat → List Rw} {f1 : Rw} {i : Nat} (h : (Ls i).any (fun x => tp5 f1 x) = false) (h2 : (Ls i).length ≤ 200) (h3 : i = 0 ∨ sameB (Ls i) (Ls (i - 1)) = false) (h5 : i ≠ 60) : endM Ls f1 i = nI 2 := by
  unfold endM; rw [if_neg (by rw [h]; exact Bool.false_ne_true), if_neg (by omega), if_neg (fun q => by rcases h3 with h3 | h3; omega; rw [h3] at q; exact absurd q.2 Bool.false_ne_true), if_neg h5]
