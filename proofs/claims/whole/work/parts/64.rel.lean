/-! THE TWO STATES ALIKE: the net, the marking of now; the small methods -/
def vecR (pl b : Nat) (f a : Nat → Int32) : Prop := ∃ v : Vv, ∀ q, q < 5 → f q = nI (v q) ∧ a q = nI (v q) ∧ v q ≤ b ∧ (pl ≤ q → v q = 0)
def netR (pl tr : Nat) (f2 f3 : Nat → Int32) (tk gv : Nat → Nat → Int32) (a1 a2 a4 a5 : Nat → Int32) : Prop := pl ≤ 5 ∧ tr ≤ 6 ∧ vecR pl 20 f2 a1 ∧ vecR pl 20 f3 a2 ∧ ∃ T Gv, arcT pl 6 T Gv tk gv a4 a5
theorem vecR_m {pl pl2 b b2 : Nat} {f a : Nat → Int32} (h : vecR pl b f a) (h1 : pl ≤ pl2) (h2 : b ≤ b2) : vecR pl2 b2 f a := by
  obtain ⟨v, h⟩ := h
  exact ⟨v, fun q hq => ⟨(h q hq).1, (h q hq).2.1, by have := (h q hq).2.2.1; omega, fun g => (h q hq).2.2.2 (by omega)⟩⟩
theorem vecR_0 (pl b : Nat) : vecR pl b (fun _ => 0) (fun _ => 0) := ⟨fun _ => 0, fun _ _ => ⟨rfl, rfl, Nat.zero_le _, fun _ => rfl⟩⟩
theorem vecR_u {pl b : Nat} {f a : Nat → Int32} {j n : Nat} (h : vecR pl b f a) (hj : j < pl) (hn : n ≤ b) : vecR pl b (upd f j (nI n)) (upd a j (nI n)) := by
  obtain ⟨v, h⟩ := h
  refine ⟨fun q => if q = j then n else v q, fun q hq => ?_⟩
  by_cases c : q = j
  · subst c
    simp only [if_pos rfl]
    exact ⟨pk_us, pk_us, hn, fun g => absurd hj (by omega)⟩
  · simp only [if_neg c]
    rw [pk_un c, pk_un c]
    exact h q hq
theorem vecR_cp {pl b : Nat} {f a g d : Nat → Int32} (h : vecR pl b f a) : vecR pl b (va_cpy f g 0 0 5) (cpN a d 5) := by
  obtain ⟨v, h⟩ := h
  refine ⟨v, fun q hq => ?_⟩
  rw [pk_cpy_in (by omega) (by omega), cpN_lt hq, show 0 + (q - 0) = q by omega]
  exact h q hq
theorem arcT_m {pl pl2 tr : Nat} {T Gv : Nat → Vv} {tk gv : Nat → Nat → Int32} {a4 a5 : Nat → Int32} (h : arcT pl tr T Gv tk gv a4 a5) (hp : pl ≤ pl2) : arcT pl2 tr T Gv tk gv a4 a5 := fun t ht q hq => by
  obtain ⟨h1, h2, h3, h4, h5, h6, h7⟩ := h t ht q hq
  exact ⟨h1, h2, h3, h4, h5, h6, fun g => h7 (by omega)⟩
section SM
variable {pl tr cn : Nat} {f2 f3 fn : Nat → Int32} {tk gv : Nat → Nat → Int32} {a1 a2 a4 a5 a6 : Nat → Int32}
theorem place_R (hN : netR pl tr f2 f3 tk gv a1 a2 a4 a5) (hW : vecR pl (20 + 5 * cn) fn a6) (x : Int32) : (placeC pl f2 fn x).1 = (placeM pl a1 a6 x).1 ∧ (placeC pl f2 fn x).2.1 = (placeM pl a1 a6 x).2.1 ∧ netR (placeC pl f2 fn x).2.1 tr (placeC pl f2 fn x).2.2.1 f3 tk gv (placeM pl a1 a6 x).2.2.1 a2 a4 a5 ∧ vecR (placeC pl f2 fn x).2.1 (20 + 5 * (cn + 1)) (placeC pl f2 fn x).2.2.2 (placeM pl a1 a6 x).2.2.2 := by
  obtain ⟨hpl, htr, h1, h2, T, Gv, h3⟩ := hN
  unfold placeC placeM
  by_cases c : 5 ≤ pl ∨ inC x (nI 20) = false
  · rw [if_pos c, if_pos (by rcases c with c | c; exact Or.inl (by omega); exact Or.inr c)]
    exact ⟨rfl, rfl, ⟨hpl, htr, h1, h2, T, Gv, h3⟩, vecR_m hW (Nat.le_refl _) (by omega)⟩
  · rw [if_neg c, if_neg (fun d => c (by rcases d with d | d; exact Or.inl (by omega); exact Or.inr d))]
    have hp : pl < 5 := Nat.lt_of_not_le (fun d => c (Or.inl d))
    have hx : inC x (nI 20) = true := by
      cases e : inC x (nI 20) with
      | true => rfl
      | false => exact absurd (Or.inr e) c
    obtain ⟨n, hn, rfl⟩ := inC_nI (by decide) hx
    have hu : vecR (pl + 1) 20 (upd f2 pl (nI n)) (upd a1 pl (nI n)) := vecR_u (vecR_m h1 (by omega) (Nat.le_refl _)) (by omega) hn
    have hN2 : netR (pl + 1) tr (upd f2 pl (nI n)) f3 tk gv (upd a1 pl (nI n)) a2 a4 a5 := ⟨by omega, htr, hu, vecR_m h2 (by omega) (Nat.le_refl _), T, Gv, arcT_m h3 (by omega)⟩
    exact ⟨rfl, rfl, hN2, vecR_m (vecR_cp hu) (Nat.le_refl _) (by omega)⟩
theorem trans_R (hN : netR pl tr f2 f3 tk gv a1 a2 a4 a5) (hW : vecR pl (20 + 5 * cn) fn a6) : (transC tr f2 fn).1 = (transM tr a1 a6).1 ∧ (transC tr f2 fn).2.1 = (transM tr a1 a6).2.1 ∧ netR pl (transC tr f2 fn).2.1 f2 f3 tk gv a1 a2 a4 a5 ∧ vecR pl (20 + 5 * (cn + 1)) (transC tr f2 fn).2.2 (transM tr a1 a6).2.2 := by
  obtain ⟨hpl, htr, h1, h2, T, Gv, h3⟩ := hN
  unfold transC transM
  by_cases c : 6 ≤ tr
  · rw [if_pos c, if_pos (by omega)]
    exact ⟨rfl, rfl, ⟨hpl, htr, h1, h2, T, Gv, h3⟩, vecR_m hW (Nat.le_refl _) (by omega)⟩
  · rw [if_neg c, if_neg (by omega)]
    exact ⟨rfl, rfl, ⟨hpl, by show tr + 1 ≤ 6; omega, h1, h2, T, Gv, h3⟩, vecR_m (vecR_cp h1) (Nat.le_refl _) (by omega)⟩
theorem arc_R (hN : netR pl tr f2 f3 tk gv a1 a2 a4 a5) (hW : vecR pl (20 + 5 * cn) fn a6) (x1 x2 x3 x4 : Int32) : (arcC pl tr f2 fn tk gv x1 x2 x3 x4).1 = (arcM pl tr a1 a4 a5 a6 x1 x2 x3 x4).1 ∧ netR pl tr f2 f3 (arcC pl tr f2 fn tk gv x1 x2 x3 x4).2.1 (arcC pl tr f2 fn tk gv x1 x2 x3 x4).2.2.1 a1 a2 (arcM pl tr a1 a4 a5 a6 x1 x2 x3 x4).2.1 (arcM pl tr a1 a4 a5 a6 x1 x2 x3 x4).2.2.1 ∧ vecR pl (20 + 5 * (cn + 1)) (arcC pl tr f2 fn tk gv x1 x2 x3 x4).2.2.2 (arcM pl tr a1 a4 a5 a6 x1 x2 x3 x4).2.2.2 := by
  obtain ⟨hpl, htr, h1, h2, T, Gv, h3⟩ := hN
  unfold arcC arcM
  by_cases c : (inB x1 (nI tr) && inB x2 (nI pl) && inC x3 (nI 5) && inC x4 (nI 5)) = true
  · rw [if_pos c, if_pos c]
    simp only [Bool.and_eq_true] at c
    obtain ⟨⟨⟨c1, c2⟩, c3⟩, c4⟩ := c
    obtain ⟨t, ht, rfl⟩ := inB_nI (by omega) c1
    obtain ⟨j, hj, rfl⟩ := inB_nI (by omega) c2
    obtain ⟨n3, hn3, rfl⟩ := inC_nI (by decide) c3
    obtain ⟨n4, hn4, rfl⟩ := inC_nI (by decide) c4
    rw [nI_clamp (show t < 2 ^ 31 by omega), nI_clamp (show j < 2 ^ 31 by omega)]
    refine ⟨rfl, ⟨hpl, htr, h1, h2, fun t2 q => if t2 = t ∧ q = j then n3 else T t2 q, fun t2 q => if t2 = t ∧ q = j then n4 else Gv t2 q, fun t2 ht2 q hq => ?_⟩, vecR_m (vecR_cp h1) (Nat.le_refl _) (by omega)⟩
    obtain ⟨g1, g2, g3, g4, g5, g6, g7⟩ := h3 t2 ht2 q hq
    by_cases d : t2 = t ∧ q = j
    · obtain ⟨rfl, rfl⟩ := d
      simp only [true_and, if_true]
      refine ⟨?_, ?_, pk_us, pk_us, hn3, hn4, fun g => absurd hj (by omega)⟩
      · show (if t2 = t2 then upd (tk t2) q (nI n3) else tk t2) q = nI n3
        rw [if_pos rfl]; exact pk_us
      · show (if t2 = t2 then upd (gv t2) q (nI n4) else gv t2) q = nI n4
        rw [if_pos rfl]; exact pk_us
    · simp only [if_neg d]
      have hne : 5 * t2 + q ≠ 5 * t + j := fun e => d (by omega)
      refine ⟨?_, ?_, by rw [pk_un hne]; exact g3, by rw [pk_un hne]; exact g4, g5, g6, g7⟩
      · show (if t2 = t then upd (tk t) j (nI n3) else tk t2) q = nI (T t2 q)
        by_cases e : t2 = t
        · subst e
          rw [if_pos rfl, pk_un (fun g => d ⟨rfl, g⟩)]; exact g1
        · rw [if_neg e]; exact g1
      · show (if t2 = t then upd (gv t) j (nI n4) else gv t2) q = nI (Gv t2 q)
        by_cases e : t2 = t
        · subst e
          rw [if_pos rfl, pk_un (fun g => d ⟨rfl, g⟩)]; exact g2
        · rw [if_neg e]; exact g2
  · rw [if_neg c, if_neg c]
    exact ⟨rfl, ⟨hpl, htr, h1, h2, T, Gv, h3⟩, vecR_m hW (Nat.le_refl _) (by omega)⟩
theorem target_R (hN : netR pl tr f2 f3 tk gv a1 a2 a4 a5) (x1 x2 : Int32) : (targetM pl f3 x1 x2).1 = (targetM pl a2 x1 x2).1 ∧ netR pl tr f2 (targetM pl f3 x1 x2).2 tk gv a1 (targetM pl a2 x1 x2).2 a4 a5 := by
  obtain ⟨hpl, htr, h1, h2, T, Gv, h3⟩ := hN
  unfold targetM
  by_cases c : (inB x1 (nI pl) && inC x2 (nI 20)) = true
  · rw [if_pos c, if_pos c]
    simp only [Bool.and_eq_true] at c
    obtain ⟨j, hj, rfl⟩ := inB_nI (by omega) c.1
    obtain ⟨n, hn, rfl⟩ := inC_nI (by decide) c.2
    rw [nI_clamp (show j < 2 ^ 31 by omega)]
    exact ⟨rfl, hpl, htr, h1, vecR_u h2 hj hn, T, Gv, h3⟩
  · rw [if_neg c, if_neg c]
    exact ⟨rfl, hpl, htr, h1, h2, T, Gv, h3⟩
theorem fire_R (hN : netR pl tr f2 f3 tk gv a1 a2 a4 a5) (hcn : cn ≤ 1000) (hW : vecR pl (20 + 5 * cn) fn a6) (x : Int32) : (fireC pl tr fn tk gv x).1 = (fireM tr a4 a5 a6 x).1 ∧ vecR pl (20 + 5 * (cn + 1)) (fireC pl tr fn tk gv x).2 (fireM tr a4 a5 a6 x).2 := by
  obtain ⟨hpl, htr, h1, h2, T, Gv, h3⟩ := hN
  have hW2 := hW
  obtain ⟨v, hv⟩ := hW
  unfold fireC fireM canM
  cases cx : inB x (nI tr) with
  | false =>
    simp only [Bool.false_and]
    exact ⟨rfl, vecR_m hW2 (Nat.le_refl _) (by omega)⟩
  | true =>
    obtain ⟨t, ht, rfl⟩ := inB_nI (by omega) cx
    rw [nI_clamp (show t < 2 ^ 31 by omega)]
    simp only [Bool.true_and]
    have hle : caC fn 0 (tk t) pl = true ↔ leV (T t) v := by
      unfold caC
      rw [List.all_eq_true]
      constructor
      · intro h q hq
        obtain ⟨g1, g2, g3, g4, g5, g6, g7⟩ := h3 t (by omega) q hq
        rcases Nat.lt_or_ge q pl with d | d
        · have e := of_decide_eq_true (h q (List.mem_range.mpr d))
          rw [Nat.zero_add, g1, (hv q hq).1, nI_leI (by omega) (by have := (hv q hq).2.2.1; omega)] at e
          exact e
        · rw [(g7 d).1]; exact Nat.zero_le _
      · intro h q hq
        rw [List.mem_range] at hq
        obtain ⟨g1, g2, g3, g4, g5, g6, g7⟩ := h3 t (by omega) q (by omega)
        refine decide_eq_true ?_
        rw [Nat.zero_add, g1, (hv q (by omega)).1, nI_leI (by omega) (by have := (hv q (by omega)).2.2.1; omega)]
        exact h q (by omega)
    have hle2 : tpB a6 0 a4 (5 * t) = true ↔ leV (T t) v := by
      rw [tpB_iff]
      constructor
      · intro h q hq
        obtain ⟨g1, g2, g3, g4, g5, g6, g7⟩ := h3 t (by omega) q hq
        have e := h q hq
        rw [Nat.zero_add, g3, (hv q hq).2.1, nI_ltI (by have := (hv q hq).2.2.1; omega) (by omega)] at e
        omega
      · intro h q hq
        obtain ⟨g1, g2, g3, g4, g5, g6, g7⟩ := h3 t (by omega) q hq
        rw [Nat.zero_add, g3, (hv q hq).2.1, nI_ltI (by have := (hv q hq).2.2.1; omega) (by omega)]
        have := h q hq
        omega
    by_cases c : leV (T t) v
    · rw [if_pos (hle.mpr c), if_pos (hle2.mpr c)]
      refine ⟨rfl, fun q => v q - T t q + Gv t q, fun q hq => ?_⟩
      obtain ⟨g1, g2, g3, g4, g5, g6, g7⟩ := h3 t (by omega) q hq
      obtain ⟨k1, k2, k3, k4⟩ := hv q hq
      have hc := c q hq
      show _ = nI (v q - T t q + Gv t q) ∧ _ = nI (v q - T t q + Gv t q) ∧ v q - T t q + Gv t q ≤ _ ∧ (pl ≤ q → v q - T t q + Gv t q = 0)
      refine ⟨?_, ?_, by omega, fun g => ?_⟩
      · show wrN fn (mvW fn 0 (gv t) (tk t)) 0 pl q = _
        rcases Nat.lt_or_ge q pl with d | d
        · have e := wrN_at (f := fn) (w := mvW fn 0 (gv t) (tk t)) (a := 0) d
          rw [Nat.zero_add] at e
          rw [e, mvW_n (by rw [Nat.zero_add, k1, nI_eq (by omega) (by decide)]; omega), Nat.zero_add, k1, g1, g2, (i32_mv hc).1]
        · rw [wrN_far (Or.inr (by omega)), k1]
          have z1 := g7 d
          have z2 := k4 d
          rw [z1.1, z1.2, z2]
      · show cpN (fiM a4 a5 a6 t) a6 5 q = _
        rw [cpN_lt hq]
        show a6 q + (a5 (5 * t + q) - a4 (5 * t + q)) = _
        rw [k2, g3, g4, (i32_mv hc).1]
      · have z1 := g7 g
        have z2 := k4 g
        omega
    · rw [if_neg (fun g => c (hle.mp g)), if_neg (fun g => c (hle2.mp g))]
      exact ⟨rfl, vecR_m hW2 (Nat.le_refl _) (by omega)⟩
theorem tok_R (hpl : pl ≤ 5) (hW : vecR pl (20 + 5 * cn) fn a6) (x : Int32) : (if inB x (nI pl) = true then fn x.toNatClampNeg else -1) = (if inB x (nI pl) = true then a6 x.toNatClampNeg else -1) := by
  by_cases c : inB x (nI pl) = true
  · rw [if_pos c, if_pos c]
    obtain ⟨j, hj, rfl⟩ := inB_nI (by omega) c
    obtain ⟨v, hv⟩ := hW
    rw [nI_clamp (by omega), (hv j (by omega)).1, (hv j (by omega)).2.1]
  · rw [if_neg c, if_neg c]
end SM
/-! what the last rounds told -/
def seaR (e0 e1 : Int32) (c2 c3 : Nat → Int32) (i7 i8 : Int32) (a10 a16 : Nat → Int32) : Prop := (e0 = nI 2 ∧ e1 = -1 ∧ i7 = nI 2 ∧ i8 = nI 0) ∨ ∃ la : Nat, la ≤ 60 ∧ e1 = nI la ∧ i8 = nI la ∧ e0 = i7 ∧ (i7 = nI 1 ∨ i7 = -1 ∨ i7 = nI 0) ∧ (∀ j, j ≤ la → c2 j = a10 j) ∧ (i7 = nI 1 → ∀ j, j < la → c3 j = a16 j)
section SE
variable {e0 e1 i7 i8 : Int32} {c2 c3 a10 a16 : Nat → Int32}
theorem sea_i8 (h : seaR e0 e1 c2 c3 i7 i8 a10 a16) : ∃ la : Nat, la ≤ 60 ∧ i8 = nI la := by
  rcases h with ⟨_, _, _, h⟩ | ⟨la, h1, _, h2, _⟩
  · exact ⟨0, by omega, h⟩
  · exact ⟨la, h1, h2⟩
theorem sea_e1 (h : seaR e0 e1 c2 c3 i7 i8 a10 a16) : e1 = -1 ∨ ∃ la : Nat, la ≤ 60 ∧ e1 = nI la := by
  rcases h with ⟨_, h, _, _⟩ | ⟨la, h1, h2, _⟩
  · exact Or.inl h
  · exact Or.inr ⟨la, h1, h2⟩
theorem steps_R (h : seaR e0 e1 c2 c3 i7 i8 a10 a16) : (if e0 = nI 1 then e1 else -1) = (if i7 = nI 1 then i8 else -1) := by
  rcases h with ⟨rfl, rfl, rfl, rfl⟩ | ⟨la, h1, rfl, rfl, rfl, _⟩
  · decide
  · rfl
theorem inC_m1 (x : Int32) : ¬ inC x (-1) = true := by
  intro h
  unfold inC at h
  rw [Bool.and_eq_true, decide_eq_true_eq, decide_eq_true_eq] at h
  have h1 := h.1
  have h2 := h.2
  rw [Int32.lt_iff_toInt_lt] at h1 h2
  have e1 : (-1 : Int32).toInt = -1 := by decide
  have e0 : (0 : Int32).toInt = 0 := by decide
  omega
theorem least_R (h : seaR e0 e1 c2 c3 i7 i8 a10 a16) (x : Int32) : (if inC x e1 = true then c2 x.toNatClampNeg else -1) = (if ¬ nI 2 ≤ i7 ∧ inC x i8 = true then a10 x.toNatClampNeg else -1) := by
  rcases h with ⟨rfl, rfl, rfl, rfl⟩ | ⟨la, h1, rfl, rfl, rfl, h5, h6, h7⟩
  · rw [if_neg (inC_m1 x), if_neg (fun g => g.1 (Int32.le_refl _))]
  · have h8 : ¬ nI 2 ≤ e0 := by
      rcases h5 with h | h | h <;> rw [h] <;> decide
    by_cases c : inC x (nI la) = true
    · rw [if_pos c, if_pos ⟨h8, c⟩]
      obtain ⟨j, hj, rfl⟩ := inC_nI (by omega) c
      rw [nI_clamp (by omega)]
      exact h6 j hj
    · rw [if_neg c, if_neg (fun g => c g.2)]
theorem wit_R (h : seaR e0 e1 c2 c3 i7 i8 a10 a16) (x : Int32) : (e0 = nI 1 → ∃ la : Nat, la ≤ 60 ∧ e1 = nI la ∧ (if e0 = nI 1 ∧ inB x (nI la) = true then c3 x.toNatClampNeg else -1) = (if i7 = nI 1 ∧ inB x i8 = true then a16 x.toNatClampNeg else -1)) ∧ (¬ e0 = nI 1 → (-1) = (if i7 = nI 1 ∧ inB x i8 = true then a16 x.toNatClampNeg else -1)) := by
  rcases h with ⟨rfl, rfl, rfl, rfl⟩ | ⟨la, h1, rfl, rfl, rfl, h5, h6, h7⟩
  · refine ⟨fun g => absurd g (by decide), fun g => ?_⟩
    rw [if_neg (fun q => g q.1)]
  · refine ⟨fun g => ⟨la, h1, rfl, ?_⟩, fun g => by rw [if_neg (fun q => g q.1)]⟩
    by_cases c : inB x (nI la) = true
    · rw [if_pos ⟨g, c⟩, if_pos ⟨g, c⟩]
      obtain ⟨j, hj, rfl⟩ := inB_nI (by omega) c
      rw [nI_clamp (by omega)]
      exact h7 g j hj
    · rw [if_neg (fun q => c q.2), if_neg (fun q => c q.2)]
end SE
/-! what the last tree told -/
def treR (g : Bool) (g1 g3 : Int32) (h4 h5 h8 : Nat → Int32) (i18 i19 i22 i23 : Int32) (a20 a24 : Nat → Int32) : Prop := g = true → ∃ (gp : Nat) (A B : List Rw) (C : List Nat) (fr : Nat → Bool), gp ≤ 5 ∧ g1 = nI gp ∧ i18 = nI gp ∧ g3 = nI C.length ∧ i23 = nI C.length ∧ i19 = nI B.length ∧ rowsV h5 0 A ∧ rowsV a20 0 B ∧ idxV h8 C ∧ idxV a24 C ∧ (∀ q, q < 6 → h4 q = bI (fr q)) ∧ treeOK gp A B C fr i22
theorem treR_f {g1 g3 : Int32} {h4 h5 h8 : Nat → Int32} {i18 i19 i22 i23 : Int32} {a20 a24 : Nat → Int32} : treR false g1 g3 h4 h5 h8 i18 i19 i22 i23 a20 a24 := fun h => absurd h (by decide)
/-! the piles: how much room they took -/
def pileR (l8 l10 k n : Nat) : Prop := 0 < l8 ∧ l8 ≤ 2 * 1450 ∧ 0 < l10 ∧ l10 ≤ 24600 ∧ dbl 64 l8 ∧ dbl 64 l10 ∧ k = 51 + dC9 l8 64 + dC9 l10 64 ∧ n = 91691 + dS9 l8 64 + dS9 l10 64
theorem pileR_room {l8 l10 k n : Nat} (h : pileR l8 l10 k n) : k ≤ 1000 ∧ n ≤ 200000 := by
  obtain ⟨h1, h2, h3, h4, h5, h6, h7, h8⟩ := h
  have a : Nat.log2 l8 ≤ l8 := Nat.log2_le_self l8
  have b8 : Nat.log2 l8 < 12 := (Nat.log2_lt (by omega)).mpr (by omega)
  have b10 : Nat.log2 l10 < 15 := (Nat.log2_lt (by omega)).mpr (by omega)
  unfold dC9 at h7
  unfold dS9 at h8
  omega
theorem pileR_go {l8 l10 k n m8 m10 : Nat} (h : pileR l8 l10 k n) (h1 : dbl l8 m8) (h2 : dbl l10 m10) (h3 : m8 ≤ 2 * 1450) (h4 : m10 ≤ 24600) : pileR m8 m10 (k + (dC9 m8 l8 + dC9 m10 l10)) (n + (dS9 m8 l8 + dS9 m10 l10)) := by
  obtain ⟨p1, p2, p3, p4, p5, p6, p7, p8⟩ := h
  have q5 := dbl_t p5 h1
  have q6 := dbl_t p6 h2
  refine ⟨by have := h1.2.1; omega, h3, by have := h2.2.1; omega, h4, q5, q6, ?_, ?_⟩
  · have a1 := p5.2.2
    have a2 := p6.2.2
    have a3 := h1.2.2
    have a4 := h2.2.2
    unfold dC9 at *
    omega
  · have a1 := p5.2.1
    have a2 := p6.2.1
    have a3 := h1.2.1
    have a4 := h2.2.1
    unfold dS9 at *
    omega
