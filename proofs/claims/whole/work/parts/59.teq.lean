/-! what is told of the trees is told alike -/
def okM (b n : Nat) : Prop := n ≤ b ∨ n = 1000000000
theorem tol_eq {b m : Nat} (hb : b < 1000000) (h : okM b m) : tolM (nI 1000000000) (nI m) = tolM (nI 1000000) (nI (mo m)) := by
  have k := mo_lt31 hb h
  unfold tolM
  by_cases c : m = 1000000000
  · subst c
    rw [if_pos rfl, if_pos (show nI (mo 1000000000) = nI 1000000 from rfl)]
  · have e : mo m = m := if_neg c
    rw [if_neg (fun g => c ((nI_eq k.2 (by decide)).mp g)), e, if_neg (fun g => ?_)]
    have := (nI_eq k.2 (by decide)).mp g
    unfold okM at h
    omega
theorem mxC_is {b : Nat} (hb : b < 1000000) {A : List Rw} {c : Nat → Vv} {j : Nat} : ∀ (C : List Nat) (m0 : Nat), okM b m0 → (∀ v, v ∈ C → (A.getD v zR) j = nI (c v j) ∧ okM b (c v j)) → ∃ m, C.foldl (fun a v => if a < (A.getD v zR) j then (A.getD v zR) j else a) (nI m0) = nI m ∧ okM b m ∧ (m = m0 ∨ ∃ v, v ∈ C ∧ m = c v j) ∧ m0 ≤ m ∧ ∀ v, v ∈ C → c v j ≤ m := by
  intro C
  induction C with
  | nil => intro m0 h0 _; exact ⟨m0, rfl, h0, Or.inl rfl, Nat.le_refl _, fun v hv => absurd hv List.not_mem_nil⟩
  | cons v C ih =>
    intro m0 h0 hv
    obtain ⟨v1, v2⟩ := hv v List.mem_cons_self
    have k0 := mo_lt31 hb h0
    have k1 := mo_lt31 hb v2
    rw [List.foldl_cons, v1]
    have hlt := nI_ltI k0.2 k1.2
    by_cases d : m0 < c v j
    · rw [if_pos (hlt.mpr d)]
      obtain ⟨m, e1, e2, e3, e4, e5⟩ := ih (c v j) v2 (fun w hw => hv w (List.mem_cons_of_mem _ hw))
      refine ⟨m, e1, e2, ?_, by omega, ?_⟩
      · rcases e3 with e | ⟨w, hw, e⟩
        · exact Or.inr ⟨v, List.mem_cons_self, e⟩
        · exact Or.inr ⟨w, List.mem_cons_of_mem _ hw, e⟩
      · intro w hw
        rcases List.mem_cons.mp hw with rfl | hw
        · exact e4
        · exact e5 w hw
    · rw [if_neg (fun g => d (hlt.mp g))]
      obtain ⟨m, e1, e2, e3, e4, e5⟩ := ih m0 h0 (fun w hw => hv w (List.mem_cons_of_mem _ hw))
      refine ⟨m, e1, e2, ?_, e4, ?_⟩
      · rcases e3 with e | ⟨w, hw, e⟩
        · exact Or.inl e
        · exact Or.inr ⟨w, List.mem_cons_of_mem _ hw, e⟩
      · intro w hw
        rcases List.mem_cons.mp hw with rfl | hw
        · omega
        · exact e5 w hw
theorem mxM_is {b : Nat} (hb : b < 1000000) {j : Nat} {P : Nat → Prop} : ∀ (B : List Rw) (m0 : Nat), okM b m0 → (∀ x, x ∈ B → ∃ n, P n ∧ okM b n ∧ x j = nI (mo n)) → ∃ m, B.foldl (fun a x => if x j ≤ a then a else x j) (nI (mo m0)) = nI (mo m) ∧ okM b m ∧ (m = m0 ∨ P m) ∧ m0 ≤ m ∧ ∀ x, x ∈ B → ∀ n, okM b n → x j = nI (mo n) → n ≤ m := by
  intro B
  induction B with
  | nil => intro m0 h0 _; exact ⟨m0, rfl, h0, Or.inl rfl, Nat.le_refl _, fun v hv => absurd hv List.not_mem_nil⟩
  | cons x B ih =>
    intro m0 h0 hv
    obtain ⟨n, v0, v2, v1⟩ := hv x List.mem_cons_self
    have k0 := mo_lt31 hb h0
    have k1 := mo_lt31 hb v2
    have huniq : ∀ n2, okM b n2 → x j = nI (mo n2) → n2 = n := by
      intro n2 h2 e
      have k2 := mo_lt31 hb h2
      rw [v1, nI_eq k1.1 k2.1] at e
      have l1 := mo_le hb h2 v2
      have l2 := mo_le hb v2 h2
      omega
    rw [List.foldl_cons, v1]
    have hlt := (nI_leI k1.1 k0.1).trans (mo_le hb v2 h0)
    by_cases d : n ≤ m0
    · rw [if_pos (hlt.mpr d)]
      obtain ⟨m, e1, e2, e3, e4, e5⟩ := ih m0 h0 (fun w hw => hv w (List.mem_cons_of_mem _ hw))
      refine ⟨m, e1, e2, e3, e4, ?_⟩
      intro w hw n2 h2 h3
      rcases List.mem_cons.mp hw with rfl | hw
      · rw [huniq n2 h2 h3]; omega
      · exact e5 w hw n2 h2 h3
    · rw [if_neg (fun g => d (hlt.mp g))]
      obtain ⟨m, e1, e2, e3, e4, e5⟩ := ih n v2 (fun w hw => hv w (List.mem_cons_of_mem _ hw))
      refine ⟨m, e1, e2, ?_, by omega, ?_⟩
      · rcases e3 with e | e
        · subst e; exact Or.inr v0
        · exact Or.inr e
      · intro w hw n2 h2 h3
        rcases List.mem_cons.mp hw with rfl | hw
        · rw [huniq n2 h2 h3]; exact e4
        · exact e5 w hw n2 h2 h3
theorem mem_getD {α : Type} {B : List α} {x d : α} (h : x ∈ B) : ∃ k, k < B.length ∧ B.getD k d = x := by
  obtain ⟨k, hk⟩ := List.getElem?_of_mem h
  exact ⟨k, lt_of_some hk, getD_of hk⟩
theorem getD_mem {α : Type} {B : List α} {d : α} {k : Nat} (h : k < B.length) : B.getD k d ∈ B := by
  rw [getD_of (List.getElem?_eq_getElem h)]
  exact List.getElem_mem h
def treeOK (gp : Nat) (A B : List Rw) (C : List Nat) (fr : Nat → Bool) (lv : Int32) : Prop :=
  A.length = B.length ∧ A.length ≤ 1000 ∧ C.length ≤ 1000 ∧ (∀ v, v ∈ C → v < A.length)
  ∧ (∀ j, j < gp → tolM (nI 1000000000) (mxC A C j) = tolM (nI 1000000) (mxM B j))
  ∧ (∀ k, k < C.length → ∀ j, j < gp → tolM (nI 1000000000) ((A.getD (C.getD k 0) zR) j) = tolM (nI 1000000) ((B.getD (C.getD k 0) zR) j))
  ∧ (∀ (f3 a2 : Nat → Int32) (tg : Vv), (∀ q, q < 5 → f3 q = nI (tg q) ∧ a2 q = nI (tg q) ∧ tg q ≤ 20 ∧ (gp ≤ q → tg q = 0)) → C.any (fun v => tpP gp (A.getD v zR) f3) = B.any (fun x => tp5 x a2))
  ∧ (∀ x, liveM lv x = (inC x (nI 5) && fr x.toNatClampNeg))
theorem most_eq {pl b : Nat} (hpl : pl ≤ 5) (hb : b < 1000000) {A B : List Rw} {c : Nat → Vv} (h : msR pl b A B c) {C : List Nat} (hC : ∀ v, v ∈ C → v < A.length) (hcov : ∀ o, o < A.length → ∃ u, u ∈ C ∧ leV (c o) (c u)) {j : Nat} (hj : j < 5) : tolM (nI 1000000000) (mxC A C j) = tolM (nI 1000000) (mxM B j) := by
  obtain ⟨hl, h⟩ := h
  obtain ⟨m, e1, e2, e3, e4, e5⟩ := mxC_is hb (A := A) (c := c) (j := j) C 0 (Or.inl (Nat.zero_le _)) (fun v hv => ⟨(h v (hC v hv) j hj).1, (h v (hC v hv) j hj).2.2.1⟩)
  obtain ⟨m2, f1, f2, f3, f4, f5⟩ := mxM_is hb (j := j) (P := fun n => ∃ k, k < A.length ∧ n = c k j) B 0 (Or.inl (Nat.zero_le _)) (fun x hx => by
    obtain ⟨k, hk, hkx⟩ := mem_getD (d := zR) hx
    have hr := h k (by omega) j hj
    exact ⟨c k j, ⟨k, by omega, rfl⟩, hr.2.2.1, by rw [← hkx]; exact hr.2.1⟩)
  have e : m = m2 := by
    refine Nat.le_antisymm ?_ ?_
    · rcases e3 with g | ⟨v, hv, g⟩
      · omega
      · have hr := h v (hC v hv) j hj
        rw [g]
        exact f5 _ (getD_mem (d := zR) (by have := hC v hv; omega)) (c v j) hr.2.2.1 hr.2.1
    · rcases f3 with g | ⟨k, hk, g⟩
      · omega
      · obtain ⟨u, hu, hle⟩ := hcov k hk
        have := hle j hj
        have := e5 u hu
        omega
  have x1 : mxC A C j = nI m := e1
  have x2 : mxM B j = nI (mo m2) := f1
  rw [x1, x2, ← e]
  exact tol_eq hb e2
theorem cov_eq {pl b : Nat} (hpl : pl ≤ 5) (hb : b < 1000000) (hb2 : 20 ≤ b) {A B : List Rw} {c : Nat → Vv} (h : msR pl b A B c) {C : List Nat} (hC : ∀ v, v ∈ C → v < A.length) (hcov : ∀ o, o < A.length → ∃ u, u ∈ C ∧ leV (c o) (c u)) {f3 a2 : Nat → Int32} {tg : Vv} (hT : ∀ q, q < 5 → f3 q = nI (tg q) ∧ a2 q = nI (tg q) ∧ tg q ≤ 20 ∧ (pl ≤ q → tg q = 0)) : C.any (fun v => tpP pl (A.getD v zR) f3) = B.any (fun x => tp5 x a2) := by
  obtain ⟨hl, h⟩ := h
  have ht : relT pl b f3 a2 tg := fun q hq => by
    obtain ⟨h1, h2, h3, h4⟩ := hT q hq
    exact ⟨h1, by rw [mo_s (by omega)]; exact h2, by omega, h4⟩
  refine bb_eq (P := ∃ o, o < A.length ∧ leV tg (c o)) ?_ ?_
  · rw [List.any_eq_true]
    constructor
    · rintro ⟨v, hv, e⟩
      exact ⟨v, hC v hv, (relT_tpC hpl hb (h v (hC v hv)) ht).mp e⟩
    · rintro ⟨o, ho, e⟩
      obtain ⟨u, hu, hle⟩ := hcov o ho
      exact ⟨u, hu, (relT_tpC hpl hb (h u (hC u hu)) ht).mpr (leV_t e hle)⟩
  · rw [List.any_eq_true]
    constructor
    · rintro ⟨x, hx, e⟩
      obtain ⟨k, hk, rfl⟩ := mem_getD (d := zR) hx
      exact ⟨k, by omega, (relT_tpM hb (h k (by omega)) ht).mp e⟩
    · rintro ⟨o, ho, e⟩
      exact ⟨_, getD_mem (d := zR) (by omega), (relT_tpM hb (h o ho) ht).mpr e⟩
theorem mks_at {A : List Nd} {k : Nat} (h : k < A.length) : ∃ x, A[k]? = some x ∧ (mks A).getD k zR = x.2.1 := by
  refine ⟨A[k], List.getElem?_eq_getElem h, getD_of ?_⟩
  unfold mks
  rw [List.getElem?_map, List.getElem?_eq_getElem h]
  rfl
theorem ms_of {pl : Nat} {A B : List Nd} (h : treeR pl A B) (hl : A.length ≤ 1001) : ∃ c, msR pl 6000 (mks A) (mks B) c := by
  have h1 : ∀ k, ∃ c : Vv, k < A.length → relT pl 6000 ((mks A).getD k zR) ((mks B).getD k zR) c := by
    intro k
    by_cases d : k < A.length
    · obtain ⟨x, hx, ex⟩ := mks_at d
      obtain ⟨y, hy, ey⟩ := mks_at (A := B) (k := k) (by have := h.1; omega)
      obtain ⟨c, hc⟩ := rel_m (b2 := 6000) (h.2 k x y hx hy).1 (by omega)
      exact ⟨c, fun _ => by rw [ex, ey]; exact hc⟩
    · exact ⟨fun _ => 0, fun e => absurd e d⟩
  exact ⟨fun k => Classical.choose (h1 k), by rw [mks_len, mks_len]; exact h.1, fun k hk => Classical.choose_spec (h1 k) (by rw [mks_len] at hk; exact hk)⟩
theorem tree_eq {pl tr : Nat} {T Gv : Nat → Vv} {tk gv : Nat → Nat → Int32} {a4 a5 : Nat → Int32} (hpl : pl ≤ 5) (htr : tr ≤ 6) (hA : arcT pl tr T Gv tk gv a4 a5) {fi : Vv} {f2 a1 : Nat → Int32} (hf : ∀ q, q < 5 → f2 q = nI (fi q) ∧ a1 q = nI (fi q) ∧ fi q ≤ 20 ∧ (pl ≤ q → fi q = 0)) :
    (growC pl (canP pl tk) (kidP pl (nI 1000000000) tk gv) tr f2 1001).length = (growG (canR a4) (kidR (nI 1000000) a4 a5) tr a1 1001).length ∧ ((growC pl (canP pl tk) (kidP pl (nI 1000000000) tk gv) tr f2 1001).length ≤ 1000 →
      glL pl (mks (growC pl (canP pl tk) (kidP pl (nI 1000000000) tk gv) tr f2 1001)) (mks (growC pl (canP pl tk) (kidP pl (nI 1000000000) tk gv) tr f2 1001)).length = limL (mks (growG (canR a4) (kidR (nI 1000000) a4 a5) tr a1 1001)) (mks (growG (canR a4) (kidR (nI 1000000) a4 a5) tr a1 1001)).length
      ∧ treeOK pl (mks (growC pl (canP pl tk) (kidP pl (nI 1000000000) tk gv) tr f2 1001)) (mks (growG (canR a4) (kidR (nI 1000000) a4 a5) tr a1 1001)) (glL pl (mks (growC pl (canP pl tk) (kidP pl (nI 1000000000) tk gv) tr f2 1001)) (mks (growC pl (canP pl tk) (kidP pl (nI 1000000000) tk gv) tr f2 1001)).length) (firC pl (canP pl tk) (kidP pl (nI 1000000000) tk gv) tr f2 1001) (livL tr a4 (mks (growG (canR a4) (kidR (nI 1000000) a4 a5) tr a1 1001)) (nI 0))) := by
  have hR := grow_R hpl hA hf 1001
  refine ⟨hR.1, fun hle => ?_⟩
  obtain ⟨c, hc⟩ := ms_of hR (by omega)
  have hfir : ∀ q, firC pl (canP pl tk) (kidP pl (nI 1000000000) tk gv) tr f2 1001 q = true ↔ _ := fun q => firC_all (q := q) (n := 1001) (Nat.le_trans hle (by omega))
  generalize growC pl (canP pl tk) (kidP pl (nI 1000000000) tk gv) tr f2 1001 = A at *
  generalize growG (canR a4) (kidR (nI 1000000) a4 a5) tr a1 1001 = B at *
  obtain ⟨l1, l2, l3⟩ := lim_eq hpl (by omega) hc
  refine ⟨l1, hc.1, by rw [mks_len]; exact hle, ?_, l3, fun j hj => most_eq hpl (by omega) hc l3 l2 (by omega), fun k hk j hj => ?_, fun f3 a2 tg hT => cov_eq hpl (by omega) (by omega) hc l3 l2 hT, fun x => live_eq (fun j hj => ?_) x⟩
  · have h1 := (glL_in pl (mks A) (mks A).length).1
    have h2 := mks_len A
    omega
  · have hv := l3 _ (getD_mem (d := 0) hk)
    obtain ⟨r1, r2, r3, r4⟩ := hc.2 _ hv j (by omega)
    rw [r1, r2]
    exact tol_eq (b := 6000) (by omega) r3
  · rw [hfir j, livL_bt tr htr a4 (by omega)]
    rw [show nI 0 = 0 from rfl, b_0]
    constructor
    · rintro (h | ⟨h, x, hx, h2⟩)
      · cases h
      · obtain ⟨k, hk, rfl⟩ := mem_getD (d := zR) hx
        have hl := hc.1
        refine ⟨h, _, getD_mem (d := zR) (show k < (mks A).length by omega), ?_⟩
        rw [can_R hpl hA h (b := 6000) (by omega) ⟨_, hc.2 k (by omega)⟩]
        exact h2
    · rintro ⟨h, z, hz, h2⟩
      obtain ⟨k, hk, rfl⟩ := mem_getD (d := zR) hz
      have hl := hc.1
      refine Or.inr ⟨h, _, getD_mem (d := zR) (show k < (mks B).length by omega), ?_⟩
      rw [← can_R hpl hA h (b := 6000) (by omega) ⟨_, hc.2 k hk⟩]
      exact h2
