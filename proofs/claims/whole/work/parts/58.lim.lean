/-! THE LIMITS ALIKE: both lists hold the greatest ones, the first of equal ones, in one order -/
def lawO (n : Nat) (ge bf : Nat → Nat → Bool) : Prop := (∀ a, a < n → ge a a = true) ∧ (∀ a b c, a < n → b < n → c < n → ge a b = true → ge b c = true → ge a c = true) ∧ (∀ a b, a < n → b < n → bf a b = true → ¬ bf b a = true) ∧ (∀ a b c, a < n → b < n → c < n → bf a b = true → bf b c = true → bf a c = true) ∧ (∀ a b, a < n → b < n → ¬ (ge a b = true ∧ ge b a = true) → bf a b = true ∨ bf b a = true)
theorem posI_spec {bf : Nat → Bool} {C : List Nat} : ∀ a, (∀ j, posI bf C a ≤ j → j < a → bf (C.getD j 0) = true) ∧ (0 < posI bf C a → bf (C.getD (posI bf C a - 1) 0) = false) := by
  intro a
  induction a with
  | zero => exact ⟨fun j _ h => absurd h (Nat.not_lt_zero _), fun h => absurd h (Nat.lt_irrefl _)⟩
  | succ a ih =>
    by_cases c : bf (C.getD a 0) = true
    · rw [posI_y c]
      refine ⟨fun j h1 h2 => ?_, ih.2⟩
      rcases Nat.lt_or_ge j a with d | d
      · exact ih.1 j h1 d
      · rw [show j = a by omega]; exact c
    · have c2 : bf (C.getD a 0) = false := by cases e : bf (C.getD a 0) with | true => exact absurd e c | false => rfl
      rw [posI_n c2]
      exact ⟨fun j h1 h2 => absurd h2 (by omega), fun _ => c2⟩
theorem ins_sort {n : Nat} {ge bf : Nat → Nat → Bool} (hO : lawO n ge bf) {k : Nat} {C : List Nat} (hk : k < n) (hC : ∀ v, v ∈ C → v < n) (hs : C.Pairwise (fun a b => bf a b = true)) (ht : ∀ v, v ∈ C → bf k v = true ∨ bf v k = true) : (insM (bf k) k C).Pairwise (fun a b => bf a b = true) := by
  obtain ⟨o1, o2, o3, o4, o5⟩ := hO
  obtain ⟨p1, p2⟩ := posI_spec (bf := bf k) (C := C) C.length
  have p3 := posI_le (bf k) C C.length
  unfold insM
  generalize posI (bf k) C C.length = a at *
  have hright : ∀ v, v ∈ C.drop a → bf k v = true := by
    intro v hv
    obtain ⟨i, hi, rfl⟩ := List.mem_iff_getElem.mp hv
    rw [List.length_drop] at hi
    have h := p1 (a + i) (by omega) (by omega)
    rw [List.getElem_drop]
    rw [getD_of (List.getElem?_eq_getElem (by omega))] at h
    exact h
  have hleft : ∀ v, v ∈ C.take a → bf v k = true := by
    intro v hv
    have ha : 0 < a := Nat.pos_of_ne_zero (fun e => by rw [e, List.take_zero] at hv; cases hv)
    have hl : a - 1 < C.length := by omega
    have h := p2 ha
    rw [getD_of (List.getElem?_eq_getElem hl)] at h
    have hm : C[a - 1] ∈ C := List.getElem_mem hl
    have hb : bf C[a - 1] k = true := (ht _ hm).resolve_left (fun e => by rw [e] at h; cases h)
    obtain ⟨i, hi, rfl⟩ := List.mem_iff_getElem.mp hv
    rw [List.length_take] at hi
    rw [List.getElem_take]
    have hi2 : i < C.length := by omega
    rcases Nat.lt_or_ge i (a - 1) with d | d
    · exact o4 _ _ _ (hC _ (List.getElem_mem hi2)) (hC _ hm) hk (List.pairwise_iff_getElem.mp hs i (a - 1) hi2 hl d) hb
    · have e : i = a - 1 := by omega
      subst e
      exact hb
  rw [List.pairwise_append, List.pairwise_cons]
  refine ⟨hs.sublist (List.take_sublist _ _), ⟨hright, hs.sublist (List.drop_sublist _ _)⟩, ?_⟩
  intro x hx y hy
  rcases List.mem_cons.mp hy with rfl | hy
  · exact hleft x hx
  · exact o4 _ _ _ (hC _ (List.mem_of_mem_take hx)) hk (hC _ (List.mem_of_mem_drop hy)) (hleft x hx) (hright y hy)
/-- in order, with the same in them: the same list -/
theorem sort_eq {n : Nat} {bf : Nat → Nat → Bool} (o3 : ∀ a b, a < n → b < n → bf a b = true → ¬ bf b a = true) : ∀ (A B : List Nat), (∀ v, v ∈ A → v < n) → A.Pairwise (fun a b => bf a b = true) → B.Pairwise (fun a b => bf a b = true) → (∀ v, v ∈ A ↔ v ∈ B) → A = B := by
  intro A
  induction A with
  | nil =>
    intro B _ _ _ h
    cases B with
    | nil => rfl
    | cons b B => exact absurd ((h b).mpr List.mem_cons_self) List.not_mem_nil
  | cons a A ih =>
    intro B hn hA hB h
    cases B with
    | nil => exact absurd ((h a).mp List.mem_cons_self) List.not_mem_nil
    | cons b B =>
      rw [List.pairwise_cons] at hA hB
      have hnB : ∀ v, v ∈ b :: B → v < n := fun v hv => hn v ((h v).mpr hv)
      have e : a = b := by
        rcases List.mem_cons.mp ((h a).mp List.mem_cons_self) with e | e
        · exact e
        · rcases List.mem_cons.mp ((h b).mpr List.mem_cons_self) with f | f
          · exact f.symm
          · exact absurd (hB.1 a e) (o3 a b (hn a List.mem_cons_self) (hnB b List.mem_cons_self) (hA.1 b f))
      subst e
      refine congrArg (a :: ·) (ih B (fun v hv => hn v (List.mem_cons_of_mem _ hv)) hA.2 hB.2 (fun v => ?_))
      constructor
      · intro hv
        rcases List.mem_cons.mp ((h v).mp (List.mem_cons_of_mem _ hv)) with e | e
        · subst e
          exact absurd (hA.1 _ hv) (fun t => o3 _ _ (hn _ List.mem_cons_self) (hn _ List.mem_cons_self) t t)
        · exact e
      · intro hv
        rcases List.mem_cons.mp ((h v).mpr (List.mem_cons_of_mem _ hv)) with e | e
        · subst e
          exact absurd (hB.1 _ hv) (fun t => o3 _ _ (hn _ List.mem_cons_self) (hn _ List.mem_cons_self) t t)
        · exact e
def glG (ge bf : Nat → Nat → Bool) : Nat → List Nat
  | 0 => []
  | k + 1 => if (glG ge bf k).any (fun v => ge v k) = true then glG ge bf k else insM (bf k) k ((glG ge bf k).filter (fun v => !(ge k v)))
theorem glG_is {n : Nat} {ge bf : Nat → Nat → Bool} (hO : lawO n ge bf) : ∀ k, k ≤ n → (∀ v, v ∈ glG ge bf k ↔ v < k ∧ ∀ o, o < k → ge o v = true → ge v o = true ∧ v ≤ o) ∧ (∀ o, o < k → ∃ u, u ∈ glG ge bf k ∧ ge u o = true) ∧ (glG ge bf k).Pairwise (fun a b => bf a b = true) := by
  intro k
  induction k with
  | zero => intro _; exact ⟨fun v => ⟨fun h => absurd h List.not_mem_nil, fun h => absurd h.1 (Nat.not_lt_zero _)⟩, fun o h => absurd h (Nat.not_lt_zero _), List.Pairwise.nil⟩
  | succ k ih =>
    intro hk
    obtain ⟨h1, h2, h3⟩ := ih (by omega)
    have hO2 := hO
    obtain ⟨o1, o2, o3, o4, o5⟩ := hO
    unfold glG
    generalize glG ge bf k = C at *
    by_cases c : C.any (fun v => ge v k) = true
    · rw [if_pos c]
      obtain ⟨u, hu, huk⟩ := List.any_eq_true.mp c
      have hul := ((h1 u).mp hu).1
      refine ⟨fun v => ⟨fun hv => ?_, fun hv => ?_⟩, fun o ho => ?_, h3⟩
      · obtain ⟨a1, a2⟩ := (h1 v).mp hv
        refine ⟨by omega, fun o ho hov => ?_⟩
        rcases Nat.lt_or_ge o k with d | d
        · exact a2 o d hov
        · have e : o = k := by omega
          subst e
          have b1 := a2 u hul (o2 u o v (by omega) (by omega) (by omega) huk hov)
          exact ⟨o2 v u o (by omega) (by omega) (by omega) b1.1 huk, by omega⟩
      · rcases Nat.lt_or_ge v k with d | d
        · exact (h1 v).mpr ⟨d, fun o ho => hv.2 o (by omega)⟩
        · have e : v = k := by omega
          subst e
          have := (hv.2 u (by omega) huk).2
          omega
      · rcases Nat.lt_or_ge o k with d | d
        · exact h2 o d
        · exact ⟨u, hu, by rw [show o = k by omega]; exact huk⟩
    · rw [if_neg c]
      have hn : ∀ u, u ∈ C → ¬ ge u k = true := fun u hu h => c (List.any_eq_true.mpr ⟨u, hu, h⟩)
      have hmem : ∀ v, v ∈ C.filter (fun v => !(ge k v)) ↔ v ∈ C ∧ ¬ ge k v = true := by
        intro v
        rw [List.mem_filter]
        simp
      refine ⟨fun v => ?_, fun o ho => ?_, ?_⟩
      · rw [insM_mem, hmem]
        constructor
        · rintro (rfl | ⟨a1, a2⟩)
          · refine ⟨by omega, fun o ho hov => ?_⟩
            rcases Nat.lt_or_ge o v with d | d
            · obtain ⟨u, hu, huo⟩ := h2 o d
              exact absurd (o2 u o v (by have := ((h1 u).mp hu).1; omega) (by omega) (by omega) huo hov) (hn u hu)
            · have e : o = v := by omega
              subst e
              exact ⟨hov, Nat.le_refl _⟩
          · obtain ⟨b1, b2⟩ := (h1 v).mp a1
            refine ⟨by omega, fun o ho hov => ?_⟩
            rcases Nat.lt_or_ge o k with d | d
            · exact b2 o d hov
            · have e : o = k := by omega
              subst e
              exact absurd hov a2
        · rintro ⟨a1, a2⟩
          rcases Nat.lt_or_ge v k with d | d
          · have b1 := (h1 v).mpr ⟨d, fun o ho => a2 o (by omega)⟩
            exact Or.inr ⟨b1, fun h => hn v b1 (a2 k (by omega) h).1⟩
          · exact Or.inl (by omega)
      · rcases Nat.lt_or_ge o k with d | d
        · obtain ⟨u, hu, huo⟩ := h2 o d
          by_cases e : ge k u = true
          · exact ⟨k, insM_mem.mpr (Or.inl rfl), o2 k u o (by omega) (by have := ((h1 u).mp hu).1; omega) (by omega) e huo⟩
          · exact ⟨u, insM_mem.mpr (Or.inr ((hmem u).mpr ⟨hu, e⟩)), huo⟩
        · rw [show o = k by omega]
          exact ⟨k, insM_mem.mpr (Or.inl rfl), o1 k (by omega)⟩
      · refine ins_sort hO2 (by omega) (fun v hv => ?_) (List.Pairwise.filter _ h3) (fun v hv => ?_)
        · have := ((h1 v).mp ((hmem v).mp hv).1).1
          omega
        · obtain ⟨a1, a2⟩ := (hmem v).mp hv
          exact o5 k v (by omega) (by have := ((h1 v).mp a1).1; omega) (fun h => a2 h.1)
def lmG (n : Nat) (ge bf : Nat → Nat → Bool) : Nat → List Nat
  | 0 => []
  | k + 1 => if (List.range n).all (fun o => !(ge o k) || (ge k o && decide (k ≤ o))) = true then insM (bf k) k (lmG n ge bf k) else lmG n ge bf k
theorem lmB_iff {n : Nat} {ge : Nat → Nat → Bool} {k : Nat} : (List.range n).all (fun o => !(ge o k) || (ge k o && decide (k ≤ o))) = true ↔ ∀ o, o < n → ge o k = true → ge k o = true ∧ k ≤ o := by
  rw [List.all_eq_true]
  constructor
  · intro h o ho hok
    have := h o (List.mem_range.mpr ho)
    rw [hok] at this
    simpa using this
  · intro h o ho
    have h2 := h o (List.mem_range.mp ho)
    cases e : ge o k with
    | false => rfl
    | true =>
      have := h2 e
      simp [this.1, this.2]
theorem lmG_is {n : Nat} {ge bf : Nat → Nat → Bool} (hO : lawO n ge bf) : ∀ k, k ≤ n → (∀ v, v ∈ lmG n ge bf k ↔ v < k ∧ ∀ o, o < n → ge o v = true → ge v o = true ∧ v ≤ o) ∧ (lmG n ge bf k).Pairwise (fun a b => bf a b = true) := by
  intro k
  induction k with
  | zero => intro _; exact ⟨fun v => ⟨fun h => absurd h List.not_mem_nil, fun h => absurd h.1 (Nat.not_lt_zero _)⟩, List.Pairwise.nil⟩
  | succ k ih =>
    intro hk
    obtain ⟨h1, h3⟩ := ih (by omega)
    have hO2 := hO
    obtain ⟨o1, o2, o3, o4, o5⟩ := hO
    unfold lmG
    generalize lmG n ge bf k = C at *
    by_cases c : (List.range n).all (fun o => !(ge o k) || (ge k o && decide (k ≤ o))) = true
    · rw [if_pos c]
      have c2 := lmB_iff.mp c
      refine ⟨fun v => ?_, ?_⟩
      · rw [insM_mem, h1 v]
        constructor
        · rintro (rfl | ⟨a1, a2⟩)
          · exact ⟨by omega, c2⟩
          · exact ⟨by omega, a2⟩
        · rintro ⟨a1, a2⟩
          rcases Nat.lt_or_ge v k with d | d
          · exact Or.inr ⟨d, a2⟩
          · exact Or.inl (by omega)
      · refine ins_sort hO2 (by omega) (fun v hv => ?_) h3 (fun v hv => ?_)
        · have := ((h1 v).mp hv).1
          omega
        · have hv1 := ((h1 v).mp hv).1
          refine o5 k v (by omega) (by omega) (fun h => ?_)
          have := (c2 v (by omega) h.2).2
          omega
    · rw [if_neg c]
      refine ⟨fun v => ?_, h3⟩
      rw [h1 v]
      constructor
      · rintro ⟨a1, a2⟩
        exact ⟨by omega, a2⟩
      · rintro ⟨a1, a2⟩
        rcases Nat.lt_or_ge v k with d | d
        · exact ⟨d, a2⟩
        · have e : v = k := by omega
          subst e
          exact absurd (lmB_iff.mpr a2) c
theorem lim_same {n : Nat} {ge bf ge2 bf2 : Nat → Nat → Bool} (hO : lawO n ge bf) (hO2 : lawO n ge2 bf2) (h1 : ∀ a b, a < n → b < n → ge a b = ge2 a b) (h2 : ∀ a b, a < n → b < n → bf a b = bf2 a b) : glG ge bf n = lmG n ge2 bf2 n := by
  obtain ⟨a1, a2, a3⟩ := glG_is hO n (Nat.le_refl _)
  obtain ⟨b1, b2⟩ := lmG_is hO2 n (Nat.le_refl _)
  have hm : ∀ v, v ∈ glG ge bf n ↔ v ∈ lmG n ge2 bf2 n := by
    intro v
    rw [a1 v, b1 v]
    constructor
    · rintro ⟨c1, c2⟩
      exact ⟨c1, fun o ho h => by rw [← h1 o v ho c1] at h; rw [← h1 v o c1 ho]; exact c2 o ho h⟩
    · rintro ⟨c1, c2⟩
      exact ⟨c1, fun o ho h => by rw [h1 o v ho c1] at h; rw [h1 v o c1 ho]; exact c2 o ho h⟩
  refine sort_eq (n := n) hO.2.2.1 _ _ (fun v hv => ((a1 v).mp hv).1) a3 ?_ hm
  refine List.Pairwise.imp_of_mem ?_ b2
  intro a b ha hb h
  rw [h2 a b ((b1 a).mp ha).1 ((b1 b).mp hb).1]
  exact h
/-! the orders of both sides, by numbers -/
def lexV (u v : Vv) : Prop := ∃ q, q < 5 ∧ (∀ j, j < q → u j = v j) ∧ u q < v q
theorem lex_as {u v : Vv} (h : lexV u v) : ¬ lexV v u := by
  rintro ⟨r, hr, h3, h4⟩
  obtain ⟨q, hq, h1, h2⟩ := h
  rcases Nat.lt_trichotomy q r with d | d | d
  · have := h3 q d; omega
  · subst d; omega
  · have := h1 r d; omega
theorem lex_tr {u v w : Vv} (h : lexV u v) (h2 : lexV v w) : lexV u w := by
  obtain ⟨q, hq, a1, a2⟩ := h
  obtain ⟨r, hr, b1, b2⟩ := h2
  rcases Nat.lt_trichotomy q r with d | d | d
  · exact ⟨q, hq, fun j hj => by rw [a1 j hj, b1 j (by omega)], by rw [← b1 q d]; exact a2⟩
  · subst d; exact ⟨q, hq, fun j hj => by rw [a1 j hj, b1 j hj], by omega⟩
  · exact ⟨r, hr, fun j hj => by rw [a1 j (by omega), b1 j hj], by rw [a1 r d]; exact b2⟩
theorem lex_to {u v : Vv} (h : ¬ (leV u v ∧ leV v u)) : lexV u v ∨ lexV v u := by
  have hex : ∃ q, q < 5 ∧ u q ≠ v q := Classical.byContradiction (fun c => h ⟨fun q hq => by
    have : u q = v q := Classical.byContradiction (fun d => c ⟨q, hq, d⟩)
    omega, fun q hq => by
    have : u q = v q := Classical.byContradiction (fun d => c ⟨q, hq, d⟩)
    omega⟩)
  obtain ⟨q, ⟨hq, hne⟩, hmin⟩ := pk_least _ hex
  have hj : ∀ j, j < q → u j = v j := fun j hj => Classical.byContradiction (fun d => hmin j hj ⟨by omega, d⟩)
  rcases Nat.lt_or_ge (u q) (v q) with d | d
  · exact Or.inl ⟨q, hq, hj, d⟩
  · exact Or.inr ⟨q, hq, fun j h => (hj j h).symm, by omega⟩
theorem bef_C {pl b : Nat} (hpl : pl ≤ 5) (hb : b < 1000000) {x y x2 y2 : Rw} {c c2 : Vv} (h : relT pl b x y c) (h2 : relT pl b x2 y2 c2) : befP pl x x2 = true ↔ lexV c c2 := by
  have hE : ∀ q, q < 5 → (x q = x2 q ↔ c q = c2 q) := fun q hq => by
    rw [(h q hq).1, (h2 q hq).1, nI_eq (mo_lt31 hb (h q hq).2.2.1).2 (mo_lt31 hb (h2 q hq).2.2.1).2]
  by_cases hex : ∃ q, q < pl ∧ ¬ x q = x2 q
  · obtain ⟨q, ⟨hq, hne⟩, hmin⟩ := pk_least _ hex
    have hj : ∀ j, j < q → x j = x2 j := fun j hj => Classical.byContradiction (fun d => hmin j hj ⟨by omega, d⟩)
    rw [befP_hit hq hj hne, decide_eq_true_eq, (h q (by omega)).1, (h2 q (by omega)).1, nI_ltI (mo_lt31 hb (h q (by omega)).2.2.1).2 (mo_lt31 hb (h2 q (by omega)).2.2.1).2]
    have hne2 : c q ≠ c2 q := fun e => hne ((hE q (by omega)).mpr e)
    constructor
    · intro d
      exact ⟨q, by omega, fun j hj2 => (hE j (by omega)).mp (hj j hj2), d⟩
    · rintro ⟨r, hr, d1, d2⟩
      rcases Nat.lt_trichotomy q r with e | e | e
      · exact absurd (d1 q e) hne2
      · subst e; exact d2
      · have := (hE r (by omega)).mp (hj r e); omega
  · have hj : ∀ j, j < pl → x j = x2 j := fun j hj => Classical.byContradiction (fun d => hex ⟨j, hj, d⟩)
    rw [befP_none hj]
    refine ⟨fun e => absurd e (by decide), ?_⟩
    rintro ⟨r, hr, d1, d2⟩
    rcases Nat.lt_or_ge r pl with e | e
    · have := (hE r hr).mp (hj r e); omega
    · have := (h r hr).2.2.2 e
      have := (h2 r hr).2.2.2 e
      omega
theorem bef_M {pl b : Nat} (hb : b < 1000000) {x y x2 y2 : Rw} {c c2 : Vv} (h : relT pl b x y c) (h2 : relT pl b x2 y2 c2) : befM y y2 = true ↔ lexV c c2 := by
  have hm : ∀ q, q < 5 → mo (c q) < 2 ^ 30 ∧ mo (c2 q) < 2 ^ 30 := fun q hq => by
    have := (h q hq).2.2.1
    have := (h2 q hq).2.2.1
    unfold mo
    constructor <;> split <;> omega
  have hS : ∀ q, q < 5 → (y q - y2 q).toInt = (mo (c q) : Int) - mo (c2 q) := fun q hq => by
    rw [(h q hq).2.1, (h2 q hq).2.1, pk_sub_toInt (hm q hq).1 (hm q hq).2]
  have hE : ∀ q, q < 5 → (y q - y2 q = 0 ↔ c q = c2 q) := fun q hq => by
    have l1 := mo_le hb (h q hq).2.2.1 (h2 q hq).2.2.1
    have l2 := mo_le hb (h2 q hq).2.2.1 (h q hq).2.2.1
    rw [← Int32.toInt_inj, hS q hq]
    show (mo (c q) : Int) - mo (c2 q) = 0 ↔ _
    omega
  have hL : ∀ q, q < 5 → (y q - y2 q < 0 ↔ c q < c2 q) := fun q hq => by
    have l2 := mo_le hb (h2 q hq).2.2.1 (h q hq).2.2.1
    rw [Int32.lt_iff_toInt_lt, hS q hq]
    show (mo (c q) : Int) - mo (c2 q) < 0 ↔ _
    omega
  by_cases hex : ∃ q, q < 5 ∧ ¬ y q - y2 q = 0
  · obtain ⟨q, ⟨hq, hne⟩, hmin⟩ := pk_least _ hex
    have hj : ∀ j, j < q → y j - y2 j = 0 := fun j hj => Classical.byContradiction (fun d => hmin j hj ⟨by omega, d⟩)
    rw [bef_hit hq hj hne, decide_eq_true_eq, hL q hq]
    have hne2 : c q ≠ c2 q := fun e => hne ((hE q hq).mpr e)
    constructor
    · intro d
      exact ⟨q, by omega, fun j hj2 => (hE j (by omega)).mp (hj j hj2), d⟩
    · rintro ⟨r, hr, d1, d2⟩
      rcases Nat.lt_trichotomy q r with e | e | e
      · exact absurd (d1 q e) hne2
      · subst e; exact d2
      · have := (hE r (by omega)).mp (hj r e); omega
  · have hj : ∀ j, j < 5 → y j - y2 j = 0 := fun j hj => Classical.byContradiction (fun d => hex ⟨j, hj, d⟩)
    rw [bef_none hj]
    refine ⟨fun e => absurd e (by decide), ?_⟩
    rintro ⟨r, hr, d1, d2⟩
    have := (hE r hr).mp (hj r hr); omega
theorem law_of {n : Nat} {ge bf : Nat → Nat → Bool} {c : Nat → Vv} (h1 : ∀ a b, a < n → b < n → (ge a b = true ↔ leV (c b) (c a))) (h2 : ∀ a b, a < n → b < n → (bf a b = true ↔ lexV (c a) (c b))) : lawO n ge bf := by
  refine ⟨fun a ha => (h1 a a ha ha).mpr (leV_r _), fun a b d ha hb hd x y => (h1 a d ha hd).mpr (leV_t ((h1 b d hb hd).mp y) ((h1 a b ha hb).mp x)), fun a b ha hb x y => lex_as ((h2 a b ha hb).mp x) ((h2 b a hb ha).mp y), fun a b d ha hb hd x y => (h2 a d ha hd).mpr (lex_tr ((h2 a b ha hb).mp x) ((h2 b d hb hd).mp y)), fun a b ha hb x => ?_⟩
  rcases lex_to (u := c a) (v := c b) (fun z => x ⟨(h1 a b ha hb).mpr z.2, (h1 b a hb ha).mpr z.1⟩) with y | y
  · exact Or.inl ((h2 a b ha hb).mpr y)
  · exact Or.inr ((h2 b a hb ha).mpr y)
theorem glL_g (pl : Nat) (Ms : List Rw) : ∀ k, glL pl Ms k = glG (fun a b => tpP pl (Ms.getD a zR) (Ms.getD b zR)) (fun a b => befP pl (Ms.getD a zR) (Ms.getD b zR)) k := by
  intro k
  induction k with
  | zero => rfl
  | succ k ih => rw [glL_s, ih]; rfl
theorem limL_g (Ms : List Rw) : ∀ k, limL Ms k = lmG Ms.length (fun a b => tp5 (Ms.getD a zR) (Ms.getD b zR)) (fun a b => befM (Ms.getD a zR) (Ms.getD b zR)) k := by
  intro k
  induction k with
  | zero => rfl
  | succ k ih => rw [limL_s, ih]; rfl
/-- markings alike, one by one -/
def msR (pl b : Nat) (A B : List Rw) (c : Nat → Vv) : Prop := A.length = B.length ∧ ∀ k, k < A.length → relT pl b (A.getD k zR) (B.getD k zR) (c k)
theorem lim_eq {pl b : Nat} (hpl : pl ≤ 5) (hb : b < 1000000) {A B : List Rw} {c : Nat → Vv} (h : msR pl b A B c) : glL pl A A.length = limL B B.length ∧ (∀ o, o < A.length → ∃ u, u ∈ glL pl A A.length ∧ leV (c o) (c u)) ∧ (∀ v, v ∈ glL pl A A.length → v < A.length) := by
  obtain ⟨hl, h⟩ := h
  have g1 : ∀ a b9, a < A.length → b9 < A.length → (tpP pl (A.getD a zR) (A.getD b9 zR) = true ↔ leV (c b9) (c a)) := fun a b9 ha hb9 => relT_tpC hpl hb (h a ha) (h b9 hb9)
  have g2 : ∀ a b9, a < A.length → b9 < A.length → (befP pl (A.getD a zR) (A.getD b9 zR) = true ↔ lexV (c a) (c b9)) := fun a b9 ha hb9 => bef_C hpl hb (h a ha) (h b9 hb9)
  have g3 : ∀ a b9, a < A.length → b9 < A.length → (tp5 (B.getD a zR) (B.getD b9 zR) = true ↔ leV (c b9) (c a)) := fun a b9 ha hb9 => relT_tpM hb (h a ha) (h b9 hb9)
  have g4 : ∀ a b9, a < A.length → b9 < A.length → (befM (B.getD a zR) (B.getD b9 zR) = true ↔ lexV (c a) (c b9)) := fun a b9 ha hb9 => bef_M hb (h a ha) (h b9 hb9)
  have hO := law_of (n := A.length) (ge := fun a b => tpP pl (A.getD a zR) (A.getD b zR)) (bf := fun a b => befP pl (A.getD a zR) (A.getD b zR)) g1 g2
  have hO2 := law_of (n := A.length) (ge := fun a b => tp5 (B.getD a zR) (B.getD b zR)) (bf := fun a b => befM (B.getD a zR) (B.getD b zR)) g3 g4
  refine ⟨?_, fun o ho => ?_, fun v hv => (glL_in pl A A.length).2 v hv⟩
  · rw [glL_g, limL_g, ← hl]
    exact lim_same hO hO2 (fun a b9 ha hb9 => bb_eq (g1 a b9 ha hb9) (g3 a b9 ha hb9)) (fun a b9 ha hb9 => bb_eq (g2 a b9 ha hb9) (g4 a b9 ha hb9))
  · rw [glL_g]
    obtain ⟨u, hu, h1⟩ := (glG_is hO A.length (Nat.le_refl _)).2.1 o ho
    exact ⟨u, hu, (g1 u o ((((glG_is hO A.length (Nat.le_refl _)).1 u).mp hu).1) ho).mp h1⟩
