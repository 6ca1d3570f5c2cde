/-! the rounds end alike, and their rows are the same -/
theorem Us_cg {tr : Nat} {T Gv : Nat → Vv} {tg : Vv} {i : Nat} {u v : Vv} (h : ∀ q, q < 5 → u q = v q) : Us tr T Gv tg i u ↔ Us tr T Gv tg i v :=
  ⟨fun a => Us_up i _ _ a (fun q hq => by rw [h q hq]; exact Nat.le_refl _), fun a => Us_up i _ _ a (fun q hq => by rw [h q hq]; exact Nat.le_refl _)⟩
theorem anyR {b : Nat} (hb : b < 2 ^ 31) {X : List Rw} (hX : ∀ y, y ∈ X → GR b y) {f : Rw} {w : Vv} (hw : ∀ q, q < 5 → f q = nI (w q) ∧ w q ≤ b) : X.any (fun x => tp5 f x) = true ↔ upL phR X w := by
  obtain ⟨g1, g2⟩ := GR_of hb hw
  have h := gAd_any (φ := phR) (le := leR) (leR_iff hb) hX g1
  have e : X.any (fun x => tp5 f x) = X.any (fun y => leR y f) := rfl
  rw [e, h]
  constructor
  · rintro ⟨x, hx, h⟩; exact ⟨x, hx, (leV_cg2 g2).mp h⟩
  · rintro ⟨x, hx, h⟩; exact ⟨x, hx, (leV_cg2 g2).mpr h⟩
theorem anyC {b : Nat} (hb : b < 512) {X : List Int64} (hX : ∀ y, y ∈ X → GC b y) {w : Vv} (hw : ∀ q, q < 5 → w q ≤ b) : X.any (fun y => atlR (pkV w) y) = true ↔ upL phC X w := by
  have g2 := phC_pk (v := w) (fun q hq => by have := hw q hq; omega)
  have h := gAd_any (φ := phC) (le := leC) (leC_iff hb) hX (x := pkV w) ⟨w, hw, rfl⟩
  have e : X.any (fun y => atlR (pkV w) y) = X.any (fun y => leC y (pkV w)) := rfl
  rw [e, h]
  constructor
  · rintro ⟨x, hx, h⟩; exact ⟨x, hx, (leV_cg2 g2).mp h⟩
  · rintro ⟨x, hx, h⟩; exact ⟨x, hx, (leV_cg2 g2).mpr h⟩
theorem if_cg {P Q : Prop} {i1 : Decidable P} {i2 : Decidable Q} {α : Type} {a b c d : α} (h : P ↔ Q) (h1 : Q → a = c) (h2 : ¬ Q → b = d) : (if P then a else b) = (if Q then c else d) := by
  by_cases q : Q
  · rw [if_pos (h.mpr q), if_pos q]; exact h1 q
  · rw [if_neg (fun p => q (h.mp p)), if_neg q]; exact h2 q
section EE
variable {pl tr : Nat} {T Gv : Nat → Vv} {fi tg : Vv} {a1 a2 a4 a5 : Nat → Int32} {t6 t7 : Nat → Int64} {s0 : Rg}
theorem same_iff (hA : arcR tr T Gv a4 a5) (hT : ∀ q, q < 5 → tgM pl a2 q = nI (tg q) ∧ tg q ≤ 20) {i : Nat} (hi : i + 1 ≤ 60) : sameB (LsM pl tr a2 a4 a5 (i + 1)) (LsM pl tr a2 a4 a5 i) = true ↔ ∀ v, Us tr T Gv tg (i + 1) v → Us tr T Gv tg i v := by
  obtain ⟨h1, h2, h3⟩ := RJ hA hT (i + 1) hi
  obtain ⟨k1, k2, k3⟩ := RJ hA hT i (by omega)
  have k1b : ∀ x, x ∈ LsM pl tr a2 a4 a5 i → GR (20 + 5 * (i + 1)) x := fun x hx => GR_m (k1 x hx) (by omega)
  unfold sameB
  rw [Bool.and_eq_true, decide_eq_true_eq, List.all_eq_true]
  constructor
  · rintro ⟨_, h⟩ v hv
    obtain ⟨x, hx, h4⟩ := (h2 v).mpr hv
    have h5 := (anyR (b := 20 + 5 * (i + 1)) (by omega) k1b (fun q hq => GR_at (by omega) (h1 x hx) hq)).mp (h x hx)
    exact Us_up i _ _ ((k2 _).mp h5) h4
  · intro h
    refine ⟨an_len h3 k3 (fun v => ?_), fun x hx => ?_⟩
    · rw [h2 v, k2 v]
      exact ⟨h v, Us_s⟩
    · exact (anyR (b := 20 + 5 * (i + 1)) (by omega) k1b (fun q hq => GR_at (by omega) (h1 x hx) hq)).mpr ((k2 _).mpr (h _ ((h2 _).mp ⟨x, hx, leV_r _⟩)))
theorem old_iff {i : Nat} {s : Rg} (h : CJ tr T Gv tg (i + 1) s) : s.1.2.1 = s.1.1.length ↔ ∀ v, Us tr T Gv tg (i + 1) v → Us tr T Gv tg i v := by
  obtain ⟨h1, h2, h3, h4, h5, h6, h7, h8⟩ := h
  constructor
  · intro e v hv
    obtain ⟨x, hx, h9⟩ := (h2 v).mpr hv
    have hx2 : x ∈ s.1.1.take s.1.2.1 := by rw [e, List.take_length]; exact hx
    exact Us_up i _ _ (h5 x hx2).2 h9
  · intro h
    refine Nat.le_antisymm h4 (Nat.le_of_not_lt (fun c => ?_))
    have hd : 0 < (s.1.1.drop s.1.2.1).length := by rw [List.length_drop]; omega
    obtain ⟨x, hx⟩ := List.exists_mem_of_length_pos hd
    exact h6 x hx (by omega) (h _ ((h2 _).mp ⟨x, List.mem_of_mem_drop hx, leV_r _⟩))
theorem old_0 {s : Rg} (h : CJ tr T Gv tg 0 s) : s.1.2.1 ≠ s.1.1.length := by
  obtain ⟨h1, h2, h3, h4, h5, h6, h7, h8⟩ := h
  intro e
  obtain ⟨x, hx, h9⟩ := (h2 tg).mpr (leV_r _)
  have hx2 : x ∈ s.1.1.take s.1.2.1 := by rw [e, List.take_length]; exact hx
  exact absurd (h5 x hx2).1 (Nat.lt_irrefl _)
theorem hit_M (hA : arcR tr T Gv a4 a5) (hT : ∀ q, q < 5 → tgM pl a2 q = nI (tg q) ∧ tg q ≤ 20) (hF : ∀ q, q < 5 → a1 q = nI (fi q) ∧ fi q ≤ 20) {i : Nat} (hi : i ≤ 60) : (LsM pl tr a2 a4 a5 i).any (fun x => tp5 a1 x) = true ↔ Us tr T Gv tg i fi := by
  obtain ⟨h1, h2, h3⟩ := RJ hA hT i hi
  rw [anyR (b := 20 + 5 * i) (by omega) h1 (fun q hq => ⟨(hF q hq).1, by have := (hF q hq).2; omega⟩), h2 fi]
theorem end_eq (hA : arcR tr T Gv a4 a5) (hT : ∀ q, q < 5 → tgM pl a2 q = nI (tg q) ∧ tg q ≤ 20) (hF : ∀ q, q < 5 → a1 q = nI (fi q) ∧ fi q ≤ 20) (hC : arcC9 tr T Gv t6 t7) (h0 : CJ tr T Gv tg 0 s0) {i : Nat} (hi : i ≤ 60) : (LsM pl tr a2 a4 a5 i).length = (rgS tr t6 t7 s0 i).1.1.length ∧ endM (LsM pl tr a2 a4 a5) a1 i = endR tr t6 t7 s0 (pkV fi) i := by
  obtain ⟨h1, h2, h3⟩ := RJ hA hT i hi
  have hJ := CJ_all hC h0 i hi
  obtain ⟨k1, k2, k3, k4, k5, k6, k7, k8⟩ := hJ
  have hl : (LsM pl tr a2 a4 a5 i).length = (rgS tr t6 t7 s0 i).1.1.length := an_len h3 k3 (fun v => by rw [h2 v, k2 v])
  refine ⟨hl, ?_⟩
  unfold endM endR endC
  refine if_cg ?_ (fun _ => rfl) (fun _ => ?_)
  · rw [hit_M hA hT hF hi]
    unfold adT
    rw [anyC (b := 20 + 5 * i) (by omega) k1 (fun q hq => by have := (hF q hq).2; omega), k2 fi]
  rw [hl]
  refine if_cg Iff.rfl (fun _ => rfl) (fun _ => ?_)
  refine if_cg ?_ (fun _ => rfl) (fun _ => rfl)
  cases i with
  | zero => exact ⟨fun h => absurd h.1 (Nat.lt_irrefl _), fun h => absurd h (old_0 (CJ_all hC h0 0 hi))⟩
  | succ i =>
    rw [old_iff (CJ_all hC h0 (i + 1) hi), ← same_iff hA hT hi]
    exact ⟨fun h => h.2, fun h => ⟨by omega, h⟩⟩
theorem endM_v (Ls : Nat → List Rw) (f1 : Rw) (i : Nat) : endM Ls f1 i = nI 1 ∨ endM Ls f1 i = -1 ∨ endM Ls f1 i = nI 0 ∨ endM Ls f1 i = nI 2 := by
  unfold endM
  split
  · exact Or.inl rfl
  · split
    · exact Or.inr (Or.inl rfl)
    · split
      · exact Or.inr (Or.inr (Or.inl rfl))
      · split
        · exact Or.inr (Or.inl rfl)
        · exact Or.inr (Or.inr (Or.inr rfl))
theorem endM_60 (Ls : Nat → List Rw) (f1 : Rw) : endM Ls f1 60 ≠ nI 2 := by
  unfold endM
  split
  · decide
  · split
    · decide
    · split
      · decide
      · split
        · decide
        · rename_i h; exact absurd rfl h
theorem endM_hit {Ls : Nat → List Rw} {f1 : Rw} {i : Nat} (h : endM Ls f1 i = nI 1) : (Ls i).any (fun x => tp5 f1 x) = true := by
  by_cases c : (Ls i).any (fun x => tp5 f1 x) = true
  · exact c
  · unfold endM at h
    rw [if_neg c] at h
    split at h
    · exact absurd h (by decide)
    · split at h
      · exact absurd h (by decide)
      · split at h <;> exact absurd h (by decide)
theorem endM_go {Ls : Nat → List Rw} {f1 : Rw} {i : Nat} (h : endM Ls f1 i = nI 2) : ¬ (Ls i).any (fun x => tp5 f1 x) = true := by
  intro c
  rw [endM_1 c] at h
  exact absurd h (by decide)
end EE
/-! the row: the first transition that stays in the rounds -/
def frV (T Gv : Nat → Vv) (v : Vv) (t : Nat) : Vv := fun q => v q - T t q + Gv t q
def leadV (tr : Nat) (T Gv : Nat → Vv) (tg : Vv) (v : Vv) (j t : Nat) : Prop := t < tr ∧ leV (T t) v ∧ Us tr T Gv tg j (frV T Gv v t)
noncomputable def pickV (tr : Nat) (T Gv : Nat → Vv) (tg : Vv) (v : Vv) (j : Nat) : Nat := Classical.epsilon (fun t => leadV tr T Gv tg v j t ∧ ∀ s, s < t → ¬ leadV tr T Gv tg v j s)
theorem pickV_is {tr : Nat} {T Gv : Nat → Vv} {tg v : Vv} {j : Nat} (h : ∃ t, leadV tr T Gv tg v j t) : leadV tr T Gv tg v j (pickV tr T Gv tg v j) ∧ ∀ s, s < pickV tr T Gv tg v j → ¬ leadV tr T Gv tg v j s :=
  Classical.epsilon_spec (p := fun t => leadV tr T Gv tg v j t ∧ ∀ s, s < t → ¬ leadV tr T Gv tg v j s) (pk_least _ h)
noncomputable def gSv (tr : Nat) (T Gv : Nat → Vv) (tg fi : Vv) (la : Nat) : Nat → Vv
  | 0 => fi
  | k + 1 => frV T Gv (gSv tr T Gv tg fi la k) (pickV tr T Gv tg (gSv tr T Gv tg fi la k) (la - k - 1))
noncomputable def gTv (tr : Nat) (T Gv : Nat → Vv) (tg fi : Vv) (la k : Nat) : Nat := pickV tr T Gv tg (gSv tr T Gv tg fi la k) (la - k - 1)
section GG
variable {tr : Nat} {T Gv : Nat → Vv} {fi tg : Vv} {la : Nat}
theorem gS_inv (h1 : Us tr T Gv tg la fi) (h2 : ∀ j, j < la → ¬ Us tr T Gv tg j fi) (hG : ∀ t, t < tr → ∀ q, q < 5 → Gv t q ≤ 5) (hf : ∀ q, q < 5 → fi q ≤ 20) : ∀ k, k ≤ la → Us tr T Gv tg (la - k) (gSv tr T Gv tg fi la k) ∧ (∀ j, j < la - k → ¬ Us tr T Gv tg j (gSv tr T Gv tg fi la k)) ∧ (∀ q, q < 5 → gSv tr T Gv tg fi la k q ≤ 20 + 5 * k) ∧ (k < la → leadV tr T Gv tg (gSv tr T Gv tg fi la k) (la - k - 1) (gTv tr T Gv tg fi la k) ∧ ∀ s, s < gTv tr T Gv tg fi la k → ¬ leadV tr T Gv tg (gSv tr T Gv tg fi la k) (la - k - 1) s) := by
  have hpick : ∀ k, k < la → Us tr T Gv tg (la - k) (gSv tr T Gv tg fi la k) → (∀ j, j < la - k → ¬ Us tr T Gv tg j (gSv tr T Gv tg fi la k)) → leadV tr T Gv tg (gSv tr T Gv tg fi la k) (la - k - 1) (gTv tr T Gv tg fi la k) ∧ ∀ s, s < gTv tr T Gv tg fi la k → ¬ leadV tr T Gv tg (gSv tr T Gv tg fi la k) (la - k - 1) s := by
    intro k hk u1 u2
    refine pickV_is ?_
    obtain ⟨j, hj⟩ : ∃ j, la - k = j + 1 := ⟨la - k - 1, by omega⟩
    rw [hj] at u1
    rw [show la - k - 1 = j by omega]
    rcases u1 with u | ⟨t, ht, u3, u4⟩
    · exact absurd u (u2 j (by omega))
    · exact ⟨t, ht, u3, u4⟩
  intro k
  induction k with
  | zero => intro _; exact ⟨h1, h2, fun q hq => hf q hq, fun hk => hpick 0 hk h1 h2⟩
  | succ k ih =>
    intro hk
    obtain ⟨u1, u2, u3, u4⟩ := ih (by omega)
    obtain ⟨⟨p1, p2, p3⟩, p4⟩ := u4 (by omega)
    have e : gSv tr T Gv tg fi la (k + 1) = frV T Gv (gSv tr T Gv tg fi la k) (gTv tr T Gv tg fi la k) := rfl
    have w1 : Us tr T Gv tg (la - (k + 1)) (gSv tr T Gv tg fi la (k + 1)) := by
      rw [e, show la - (k + 1) = la - k - 1 by omega]; exact p3
    have w2 : ∀ j, j < la - (k + 1) → ¬ Us tr T Gv tg j (gSv tr T Gv tg fi la (k + 1)) := by
      intro j hj h
      rw [e] at h
      exact u2 (j + 1) (by omega) (Or.inr ⟨_, p1, p2, h⟩)
    refine ⟨w1, w2, fun q hq => ?_, fun hk2 => hpick (k + 1) hk2 w1 w2⟩
    rw [e]
    have a := u3 q hq
    have b := hG _ p1 q hq
    show gSv tr T Gv tg fi la k q - T (gTv tr T Gv tg fi la k) q + Gv (gTv tr T Gv tg fi la k) q ≤ _
    omega
end GG
theorem i32_mv {n g t : Nat} (h : t ≤ n) : nI n + (nI g - nI t) = nI (n - t + g) ∧ nI n + nI g - nI t = nI (n - t + g) := by
  have e : nI n - nI t + nI g = nI (n - t + g) := by rw [pk_sub h, nI_add]
  refine ⟨?_, ?_⟩
  · rw [← e, Int32.sub_eq_add_neg, Int32.sub_eq_add_neg, Int32.add_assoc, Int32.add_comm (nI g)]
  · rw [← e, Int32.sub_eq_add_neg, Int32.sub_eq_add_neg, Int32.add_assoc, Int32.add_assoc, Int32.add_comm (nI g)]
section LL
variable {pl tr : Nat} {T Gv : Nat → Vv} {fi tg : Vv} {a1 a2 a4 a5 : Nat → Int32} {t6 t7 : Nat → Int64} {s0 : Rg}
theorem lead_M (htr : tr ≤ 6) (hA : arcR tr T Gv a4 a5) (hT : ∀ q, q < 5 → tgM pl a2 q = nI (tg q) ∧ tg q ≤ 20) {j : Nat} (hj : j ≤ 60) {f : Rw} {v : Vv} (hv : ∀ q, q < 5 → f q = nI (v q) ∧ v q ≤ 400) {t : Nat} (ht : t < tr) : leadsB tr a4 a5 f (LsM pl tr a2 a4 a5 j) t = true ↔ leadV tr T Gv tg v j t := by
  obtain ⟨h1, h2, h3⟩ := RJ hA hT j hj
  unfold leadsB leadV
  rw [Bool.and_eq_true, canM_row (x := f) htr ht (fun q hq => by rw [Nat.zero_add])]
  unfold canR
  rw [tp5_iff]
  have hc : (∀ q, q < 5 → ¬ f q < a4 (5 * t + q)) ↔ leV (T t) v := by
    constructor
    · intro h q hq
      obtain ⟨b1, b2, b3, b4⟩ := hA t ht q hq
      have := h q hq
      rw [(hv q hq).1, b1, nI_ltI (by have := (hv q hq).2; omega) (by omega)] at this
      omega
    · intro h q hq
      obtain ⟨b1, b2, b3, b4⟩ := hA t ht q hq
      rw [(hv q hq).1, b1, nI_ltI (by have := (hv q hq).2; omega) (by omega)]
      have := h q hq
      omega
  rw [hc]
  constructor
  · rintro ⟨c1, c2⟩
    refine ⟨ht, c1, (h2 _).mp ?_⟩
    refine (anyR (b := 500) (by omega) (fun y hy => GR_m (h1 y hy) (by omega)) (fun q hq => ?_)).mp c2
    obtain ⟨b1, b2, b3, b4⟩ := hA t ht q hq
    have a := hv q hq
    have d := c1 q hq
    refine ⟨?_, by show v q - T t q + Gv t q ≤ 500; omega⟩
    show f q + a5 (5 * t + q) - a4 (5 * t + q) = _
    rw [a.1, b1, b2, (i32_mv d).2]
    rfl
  · rintro ⟨_, c1, c2⟩
    refine ⟨c1, ?_⟩
    refine (anyR (b := 500) (by omega) (fun y hy => GR_m (h1 y hy) (by omega)) (fun q hq => ?_)).mpr ((h2 _).mpr c2)
    obtain ⟨b1, b2, b3, b4⟩ := hA t ht q hq
    have a := hv q hq
    have d := c1 q hq
    refine ⟨?_, by show v q - T t q + Gv t q ≤ 500; omega⟩
    show f q + a5 (5 * t + q) - a4 (5 * t + q) = _
    rw [a.1, b1, b2, (i32_mv d).2]
    rfl
theorem lead_C (hC : arcC9 tr T Gv t6 t7) {b : Nat} (hb : b ≤ 500) {K : List Int64} (hK : ∀ y, y ∈ K → GC b y) {j : Nat} (hU : ∀ v, upL phC K v ↔ Us tr T Gv tg j v) {v : Vv} (hv : ∀ q, q < 5 → v q ≤ 400) {t : Nat} (ht : t < tr) : leadC t6 t7 (pkV v) K t = true ↔ leadV tr T Gv tg v j t := by
  obtain ⟨c1, c2, c3⟩ := hC t ht
  unfold leadC leadV
  rw [Bool.and_eq_true, c1, c2, pk_atl (fun q hq => by have := hv q hq; omega) (fun q hq => by have := c3 q hq; omega)]
  constructor
  · rintro ⟨d1, d2⟩
    rw [pkV_sub d1, pkV_add] at d2
    exact ⟨ht, d1, (hU _).mp ((anyC (b := 500) (by omega) (fun y hy => GC_m (hK y hy) hb) (fun q hq => by
      have := hv q hq; have := c3 q hq; show v q - T t q + Gv t q ≤ 500; omega)).mp d2)⟩
  · rintro ⟨_, d1, d2⟩
    refine ⟨d1, ?_⟩
    rw [pkV_sub d1, pkV_add]
    exact (anyC (b := 500) (by omega) (fun y hy => GC_m (hK y hy) hb) (fun q hq => by
      have := hv q hq; have := c3 q hq; show v q - T t q + Gv t q ≤ 500; omega)).mpr ((hU _).mpr d2)
theorem rg_pre : ∀ (d m : Nat), ∃ Z, (rgS tr t6 t7 s0 (m + d)).2.1 = (rgS tr t6 t7 s0 m).2.1 ++ Z := by
  intro d
  induction d with
  | zero => intro m; exact ⟨[], by rw [List.append_nil]; rfl⟩
  | succ d ih =>
    intro m
    obtain ⟨Z, hZ⟩ := ih m
    refine ⟨Z ++ (rgS tr t6 t7 s0 (m + d)).1.1.drop (rgS tr t6 t7 s0 (m + d)).1.2.1, ?_⟩
    rw [← List.append_assoc, ← hZ]
    rfl
end LL
theorem rounds_eq {pl tr : Nat} {T Gv : Nat → Vv} {fi tg : Vv} {a1 a2 a4 a5 f2 f3 : Nat → Int32} {tk gv : Nat → Nat → Int32} (t6 t7 : Nat → Int64) (l8 l10 : Nat) (htr : tr ≤ 6) (hA : arcR tr T Gv a4 a5) (hT : ∀ q, q < 5 → tgM pl a2 q = nI (tg q) ∧ tg q ≤ 20) (hF : ∀ q, q < 5 → a1 q = nI (fi q) ∧ fi q ≤ 20) (hK : ∀ t, t < tr → ∀ q, q < 5 → tk t q = nI (T t q) ∧ gv t q = nI (Gv t q)) (hT2 : ∀ q, q < 5 → f3 q = nI (tg q)) (hF2 : ∀ q, q < 5 → f2 q = nI (fi q)) :
    ∃ (la : Nat) (gt : Nat → Nat), la ≤ 60 ∧ endM (LsM pl tr a2 a4 a5) a1 la ≠ nI 2 ∧ (∀ j, j < la → endM (LsM pl tr a2 a4 a5) a1 j = nI 2)
      ∧ (endM (LsM pl tr a2 a4 a5) a1 la = nI 1 → ∀ k, k < la → gt k < tr ∧ leadsB tr a4 a5 (gAt a4 a5 a1 gt k) (LsM pl tr a2 a4 a5 (la - k - 1)) (gt k) = true ∧ ∀ t, t < gt k → leadsB tr a4 a5 (gAt a4 a5 a1 gt k) (LsM pl tr a2 a4 a5 (la - k - 1)) t = false)
      ∧ (endR tr (cpJ (tkP tk) t6 tr) (cpJ (tkP gv) t7 tr) (s0C f3 l8 l10) (pkO f2 5) la) = endM (LsM pl tr a2 a4 a5) a1 la
      ∧ (∀ j, j < la → endR tr (cpJ (tkP tk) t6 tr) (cpJ (tkP gv) t7 tr) (s0C f3 l8 l10) (pkO f2 5) j = nI 2)
      ∧ ((endR tr (cpJ (tkP tk) t6 tr) (cpJ (tkP gv) t7 tr) (s0C f3 l8 l10) (pkO f2 5) la) = nI 1 → ∀ k, k < la → gt k < tr ∧ leadC (cpJ (tkP tk) t6 tr) (cpJ (tkP gv) t7 tr) (cAt (pkO f2 5) (cpJ (tkP tk) t6 tr) (cpJ (tkP gv) t7 tr) gt k) ((rgS tr (cpJ (tkP tk) t6 tr) (cpJ (tkP gv) t7 tr) (s0C f3 l8 l10) la).2.1.take (rgS tr (cpJ (tkP tk) t6 tr) (cpJ (tkP gv) t7 tr) (s0C f3 l8 l10) (la - 1 - k + 1)).2.1.length) (gt k) = true ∧ ∀ t, t < gt k → leadC (cpJ (tkP tk) t6 tr) (cpJ (tkP gv) t7 tr) (cAt (pkO f2 5) (cpJ (tkP tk) t6 tr) (cpJ (tkP gv) t7 tr) gt k) ((rgS tr (cpJ (tkP tk) t6 tr) (cpJ (tkP gv) t7 tr) (s0C f3 l8 l10) la).2.1.take (rgS tr (cpJ (tkP tk) t6 tr) (cpJ (tkP gv) t7 tr) (s0C f3 l8 l10) (la - 1 - k + 1)).2.1.length) t = false)
      ∧ (∀ j, j ≤ la → (LsM pl tr a2 a4 a5 j).length = (rgS tr (cpJ (tkP tk) t6 tr) (cpJ (tkP gv) t7 tr) (s0C f3 l8 l10) j).1.1.length) := by
  have hC : arcC9 tr T Gv (cpJ (tkP tk) t6 tr) (cpJ (tkP gv) t7 tr) := by
    intro t ht
    rw [cpJ_lt ht, cpJ_lt ht]
    refine ⟨pkO_is (fun q hq => ⟨(hK t ht q hq).1, ?_⟩), pkO_is (fun q hq => ⟨(hK t ht q hq).2, ?_⟩), fun q hq => ?_⟩
    · have := hA t ht q hq; omega
    · have := hA t ht q hq; omega
    · exact (hA t ht q hq).2.2
  have h0 : CJ tr T Gv tg 0 (s0C f3 l8 l10) := CJ_0 (fun q hq => ⟨hT2 q hq, (hT q hq).2⟩)
  have e4 : pkO f2 5 = pkV fi := pkO_is (fun q hq => ⟨hF2 q hq, by have := (hF q hq).2; omega⟩)
  have hE : ∀ i, i ≤ 60 → _ := fun i hi => end_eq hA hT hF hC h0 (i := i) hi
  rw [e4]
  generalize cpJ (tkP tk) t6 tr = T6 at *
  generalize cpJ (tkP gv) t7 tr = T7 at *
  generalize s0C f3 l8 l10 = s0 at *
  obtain ⟨la, hla, hmin⟩ := pk_least (fun i => endM (LsM pl tr a2 a4 a5) a1 i ≠ nI 2) ⟨60, endM_60 _ _⟩
  have hla60 : la ≤ 60 := Nat.le_of_not_lt (fun c => hmin 60 c (endM_60 _ _))
  have hgo : ∀ j, j < la → endM (LsM pl tr a2 a4 a5) a1 j = nI 2 := fun j hj => Classical.byContradiction (fun c => hmin j hj c)
  have hinv : endM (LsM pl tr a2 a4 a5) a1 la = nI 1 → _ := fun h => gS_inv (fi := fi) (tg := tg) (la := la) (T := T) (Gv := Gv) (tr := tr) ((hit_M hA hT hF hla60).mp (endM_hit h)) (fun j hj c => endM_go (hgo j hj) ((hit_M hA hT hF (by omega)).mpr c)) (fun t ht q hq => (hA t ht q hq).2.2.2) (fun q hq => (hF q hq).2)
  refine ⟨la, gTv tr T Gv tg fi la, hla60, hla, hgo, fun h1 k hk => ?_, (hE la hla60).2.symm, fun j hj => by rw [← (hE j (by omega)).2]; exact hgo j hj, fun h1 k hk => ?_, fun j hj => (hE j (by omega)).1⟩
  · have hv := hinv h1
    have hat : ∀ k, k ≤ la → ∀ q, q < 5 → gAt a4 a5 a1 (gTv tr T Gv tg fi la) k q = nI (gSv tr T Gv tg fi la k q) := by
      intro k
      induction k with
      | zero => intro _ q hq; exact (hF q hq).1
      | succ k ih =>
        intro hk q hq
        obtain ⟨p1, p2, p3⟩ := (((hv k (by omega)).2.2.2) (by omega)).1
        have e1 := ih (by omega) q hq
        obtain ⟨b1, b2, b3, b4⟩ := hA _ p1 q hq
        show gAt a4 a5 a1 (gTv tr T Gv tg fi la) k q + (a5 _ - a4 _) = nI _
        rw [e1, b1, b2, (i32_mv (p2 q hq)).1]
        rfl
    obtain ⟨w1, w2, w3, w4⟩ := hv k (by omega)
    obtain ⟨p, p4⟩ := w4 hk
    have hb : ∀ q, q < 5 → gAt a4 a5 a1 (gTv tr T Gv tg fi la) k q = nI (gSv tr T Gv tg fi la k q) ∧ gSv tr T Gv tg fi la k q ≤ 400 := fun q hq => ⟨hat k (by omega) q hq, by have := w3 q hq; omega⟩
    refine ⟨p.1, (lead_M htr hA hT (by omega) hb p.1).mpr p, fun t ht => ?_⟩
    cases hc : leadsB tr a4 a5 (gAt a4 a5 a1 (gTv tr T Gv tg fi la) k) (LsM pl tr a2 a4 a5 (la - k - 1)) t with
    | false => rfl
    | true => exact absurd ((lead_M htr hA hT (by omega) hb (Nat.lt_trans ht p.1)).mp hc) (p4 t ht)
  · rw [← (hE la hla60).2] at h1
    have hv := hinv h1
    have hat : ∀ k, k ≤ la → cAt (pkV fi) T6 T7 (gTv tr T Gv tg fi la) k = pkV (gSv tr T Gv tg fi la k) := by
      intro k
      induction k with
      | zero => intro _; rfl
      | succ k ih =>
        intro hk
        obtain ⟨p1, p2, p3⟩ := (((hv k (by omega)).2.2.2) (by omega)).1
        obtain ⟨b1, b2, b3⟩ := hC _ p1
        show cAt (pkV fi) T6 T7 (gTv tr T Gv tg fi la) k - T6 _ + T7 _ = pkV _
        rw [ih (by omega), b1, b2, pkV_sub p2, pkV_add]
        rfl
    obtain ⟨w1, w2, w3, w4⟩ := hv k (by omega)
    obtain ⟨p, p4⟩ := w4 hk
    have hw : ∀ q, q < 5 → gSv tr T Gv tg fi la k q ≤ 400 := fun q hq => by have := w3 q hq; omega
    have hm : la - 1 - k + 1 = la - k := by omega
    rw [hm, hat k (by omega)]
    obtain ⟨Z, hZ⟩ := rg_pre (tr := tr) (t6 := T6) (t7 := T7) (s0 := s0) k (la - k)
    rw [show la - k + k = la by omega] at hZ
    rw [hZ, List.take_left]
    have hJ := CJ_all hC h0 (la - k) (by omega)
    have hU : ∀ v, upL phC (rgS tr T6 T7 s0 (la - k)).2.1 v ↔ Us tr T Gv tg (la - k - 1) v := fun v => by
      rw [hJ.2.2.2.2.2.2.2 v]
      exact ⟨fun h => h.2, fun h => ⟨by omega, h⟩⟩
    have hL : ∀ t, t < tr → (leadC T6 T7 (pkV (gSv tr T Gv tg fi la k)) (rgS tr T6 T7 s0 (la - k)).2.1 t = true ↔ _) := fun t ht => lead_C hC (b := 20 + 5 * (la - k)) (by omega) hJ.2.2.2.2.2.2.1 hU hw ht
    refine ⟨p.1, (hL _ p.1).mpr p, fun t ht => ?_⟩
    cases hc : leadC T6 T7 (pkV (gSv tr T Gv tg fi la k)) (rgS tr T6 T7 s0 (la - k)).2.1 t with
    | false => rfl
    | true => exact absurd ((hL t (Nat.lt_trans ht p.1)).mp hc) (p4 t ht)
