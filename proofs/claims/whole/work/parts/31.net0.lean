/-! THE CLASS'S NET: its cells -/
def rfA (rt : Nat → Nat) : Nat → Option Nat := fun t => if t < 6 then some (rt t) else none
theorem rfA_in {rt : Nat → Nat} {t : Nat} (h : t < 6) : rfA rt t = some (rt t) := if_pos h
abbrev nw (cI cA : ClassId) (b rt rg : Nat → Nat) (pl tr : Int32) (f2 f3 : Nat → Int32) (tk gv : Nat → Nat → Int32) : va_W := [(b 0, .inr (0, [.int pl, .int tr, .ref (b 2), .ref (b 3), .ref (b 4), .ref (b 5)])), (b 2, .inl (cI, 5, .inl f2)), (b 3, .inl (cI, 5, .inl f3)), (b 4, .inl (cA, 6, .inr (.inr (.inr (.inr (rfA rt)))))), (b 5, .inl (cA, 6, .inr (.inr (.inr (.inr (rfA rg)))))), (rt 0, .inl (cI, 5, .inl (tk 0))), (rt 1, .inl (cI, 5, .inl (tk 1))), (rt 2, .inl (cI, 5, .inl (tk 2))), (rt 3, .inl (cI, 5, .inl (tk 3))), (rt 4, .inl (cI, 5, .inl (tk 4))), (rt 5, .inl (cI, 5, .inl (tk 5))), (rg 0, .inl (cI, 5, .inl (gv 0))), (rg 1, .inl (cI, 5, .inl (gv 1))), (rg 2, .inl (cI, 5, .inl (gv 2))), (rg 3, .inl (cI, 5, .inl (gv 3))), (rg 4, .inl (cI, 5, .inl (gv 4))), (rg 5, .inl (cI, 5, .inl (gv 5)))]
section NWS
variable {cI cA : ClassId} {b rt rg : Nat → Nat} {pl tr : Int32} {f2 f3 : Nat → Int32} {tk gv : Nat → Nat → Int32} {Y : va_W}
theorem nw_rt {t : Nat} (h : t < 6) : (nw cI cA b rt rg pl tr f2 f3 tk gv ++ Y)[5 + t]? = some (rt t, .inl (cI, 5, .inl (tk t))) := by
  rcases (show t = 0 ∨ t = 1 ∨ t = 2 ∨ t = 3 ∨ t = 4 ∨ t = 5 by omega) with rfl | rfl | rfl | rfl | rfl | rfl <;> rfl
theorem nw_rg {t : Nat} (h : t < 6) : (nw cI cA b rt rg pl tr f2 f3 tk gv ++ Y)[11 + t]? = some (rg t, .inl (cI, 5, .inl (gv t))) := by
  rcases (show t = 0 ∨ t = 1 ∨ t = 2 ∨ t = 3 ∨ t = 4 ∨ t = 5 by omega) with rfl | rfl | rfl | rfl | rfl | rfl <;> rfl
theorem nw_st {t : Nat} {g : Nat → Int32} (h : t < 6) : (nw cI cA b rt rg pl tr f2 f3 tk gv ++ Y).set (5 + t) (rt t, .inl (cI, 5, .inl g)) = nw cI cA b rt rg pl tr f2 f3 (va_up tk t g) gv ++ Y := by
  rcases (show t = 0 ∨ t = 1 ∨ t = 2 ∨ t = 3 ∨ t = 4 ∨ t = 5 by omega) with rfl | rfl | rfl | rfl | rfl | rfl <;> rfl
theorem nw_sg {t : Nat} {g : Nat → Int32} (h : t < 6) : (nw cI cA b rt rg pl tr f2 f3 tk gv ++ Y).set (11 + t) (rg t, .inl (cI, 5, .inl g)) = nw cI cA b rt rg pl tr f2 f3 tk (va_up gv t g) ++ Y := by
  rcases (show t = 0 ∨ t = 1 ∨ t = 2 ∨ t = 3 ∨ t = 4 ∨ t = 5 by omega) with rfl | rfl | rfl | rfl | rfl | rfl <;> rfl
end NWS
def caC (f : Nat → Int32) (y : Nat) (g : Nat → Int32) (pl : Nat) : Bool := (List.range pl).all (fun q => decide (g q ≤ f (y + q)))
theorem caC_f {f g : Nat → Int32} {y pl k : Nat} (hk : k < pl) (h : ¬ g k ≤ f (y + k)) : caC f y g pl = false := by
  unfold caC
  rw [List.all_eq_false]
  exact ⟨k, List.mem_range.mpr hk, by rw [decide_eq_false h]; exact Bool.false_ne_true⟩
theorem caC_t {f g : Nat → Int32} {y pl : Nat} (h : ∀ q, q < pl → g q ≤ f (y + q)) : caC f y g pl = true := by
  unfold caC
  rw [List.all_eq_true]
  exact fun q hq => decide_eq_true (h q (List.mem_range.mp hq))
def omC : Int32 := nI 1000000000
def mvW (f : Nat → Int32) (y : Nat) (g h : Nat → Int32) : Nat → Int32 := fun q => if f (y + q) = nI 1000000000 then f (y + q) else f (y + q) + (g q - h q)
theorem mvW_y {f g h : Nat → Int32} {y q : Nat} (c : f (y + q) = nI 1000000000) : mvW f y g h q = f (y + q) := if_pos c
theorem mvW_n {f g h : Nat → Int32} {y q : Nat} (c : ¬ f (y + q) = nI 1000000000) : mvW f y g h q = f (y + q) + (g q - h q) := if_neg c
theorem wrN_id {f w : Nat → Int32} {a q : Nat} (h : w q = f (a + q)) : wrN f w a (q + 1) = wrN f w a q := by
  funext z
  unfold wrN
  by_cases h1 : z = a + q
  · subst h1; rw [if_pos (by omega), if_neg (by omega), show a + q - a = q by omega]; exact h
  · by_cases h2 : a ≤ z ∧ z < a + q
    · rw [if_pos h2, if_pos (by omega)]
    · rw [if_neg h2, if_neg (by omega)]
theorem wrN_out {f w : Nat → Int32} {a q : Nat} : wrN f w a q (a + q) = f (a + q) := if_neg (by omega)
def placeC (pl : Nat) (f2 fn : Nat → Int32) (x : Int32) : Int32 × Nat × (Nat → Int32) × (Nat → Int32) :=
  if 5 ≤ pl ∨ inC x (nI 20) = false then (-1, pl, f2, fn) else (nI pl, pl + 1, upd f2 pl x, va_cpy (upd f2 pl x) fn 0 0 5)
def transC (tr : Nat) (f2 fn : Nat → Int32) : Int32 × Nat × (Nat → Int32) :=
  if 6 ≤ tr then (-1, tr, fn) else (nI tr, tr + 1, va_cpy f2 fn 0 0 5)
def arcC (pl tr : Nat) (f2 fn : Nat → Int32) (tk gv : Nat → Nat → Int32) (x1 x2 x3 x4 : Int32) : Bool × (Nat → Nat → Int32) × (Nat → Nat → Int32) × (Nat → Int32) :=
  if inB x1 (nI tr) && inB x2 (nI pl) && inC x3 (nI 5) && inC x4 (nI 5) then (true, va_up tk x1.toNatClampNeg (upd (tk x1.toNatClampNeg) x2.toNatClampNeg x3), va_up gv x1.toNatClampNeg (upd (gv x1.toNatClampNeg) x2.toNatClampNeg x4), va_cpy f2 fn 0 0 5) else (false, tk, gv, fn)
def fireC (pl tr : Nat) (fn : Nat → Int32) (tk gv : Nat → Nat → Int32) (t : Int32) : Bool × (Nat → Int32) :=
  if inB t (nI tr) && caC fn 0 (tk t.toNatClampNeg) pl then (true, wrN fn (mvW fn 0 (gv t.toNatClampNeg) (tk t.toNatClampNeg)) 0 pl) else (false, fn)
