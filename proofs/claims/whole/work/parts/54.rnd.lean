/-! THE ROUNDS: reference and class, each as the sets Us -/
def phR (x : Rw) : Vv := fun q => (x q).toNatClampNeg
def GR (b : Nat) (x : Rw) : Prop := ∀ q, q < 5 → ∃ n, n ≤ b ∧ x q = nI n
def leR (x y : Rw) : Bool := tp5 y x
theorem GR_at {b : Nat} {x : Rw} (hb : b < 2 ^ 31) (h : GR b x) {q : Nat} (hq : q < 5) : x q = nI (phR x q) ∧ phR x q ≤ b := by
  obtain ⟨n, hn, h1⟩ := h q hq
  have h2 : phR x q = n := by unfold phR; rw [h1, nI_clamp (by omega)]
  rw [h2]
  exact ⟨h1, hn⟩
theorem GR_of {b : Nat} {x : Rw} {v : Vv} (hb : b < 2 ^ 31) (h : ∀ q, q < 5 → x q = nI (v q) ∧ v q ≤ b) : GR b x ∧ ∀ q, q < 5 → phR x q = v q := by
  refine ⟨fun q hq => ⟨v q, (h q hq).2, (h q hq).1⟩, fun q hq => ?_⟩
  obtain ⟨h1, h2⟩ := h q hq
  unfold phR
  rw [h1, nI_clamp (by omega)]
theorem GR_m {b c : Nat} {x : Rw} (h : GR b x) (hb : b ≤ c) : GR c x := fun q hq => by
  obtain ⟨n, hn, h1⟩ := h q hq
  exact ⟨n, by omega, h1⟩
theorem leR_iff {b : Nat} (hb : b < 2 ^ 31) (x y : Rw) (hx : GR b x) (hy : GR b y) : leR x y = true ↔ leV (phR x) (phR y) := by
  unfold leR
  rw [tp5_iff]
  constructor
  · intro h q hq
    obtain ⟨a1, a2⟩ := GR_at hb hx hq
    obtain ⟨b1, b2⟩ := GR_at hb hy hq
    have := h q hq
    rw [a1, b1, nI_ltI (by omega) (by omega)] at this
    omega
  · intro h q hq
    obtain ⟨a1, a2⟩ := GR_at hb hx hq
    obtain ⟨b1, b2⟩ := GR_at hb hy hq
    rw [a1, b1, nI_ltI (by omega) (by omega)]
    have := h q hq
    omega
theorem leV_cg {u u2 v : Vv} (h : ∀ q, q < 5 → u q = u2 q) : leV u v ↔ leV u2 v :=
  ⟨fun a q hq => by rw [← h q hq]; exact a q hq, fun a q hq => by rw [h q hq]; exact a q hq⟩
theorem leV_cg2 {u v v2 : Vv} (h : ∀ q, q < 5 → v q = v2 q) : leV u v ↔ leV u v2 :=
  ⟨fun a q hq => by rw [← h q hq]; exact a q hq, fun a q hq => by rw [h q hq]; exact a q hq⟩
/-- the arcs of a transition, as the reference has them -/
def arcR (tr : Nat) (T Gv : Nat → Vv) (f4 f5 : Nat → Int32) : Prop := ∀ t, t < tr → ∀ q, q < 5 → f4 (5 * t + q) = nI (T t q) ∧ f5 (5 * t + q) = nI (Gv t q) ∧ T t q ≤ 5 ∧ Gv t q ≤ 5
theorem preM_is {tr : Nat} {T Gv : Nat → Vv} {f4 f5 : Nat → Int32} (hA : arcR tr T Gv f4 f5) {b : Nat} (hb : b < 2 ^ 29) {x : Rw} (hx : GR b x) {t : Nat} (ht : t < tr) : ∀ q, q < 5 → preM f4 f5 x t q = nI (preV T Gv (phR x) t q) ∧ preV T Gv (phR x) t q ≤ b + 5 := by
  intro q hq
  obtain ⟨a1, a2, a3, a4⟩ := hA t ht q hq
  obtain ⟨b1, b2⟩ := GR_at (by omega) hx hq
  have h2 : preV T Gv (phR x) t q = T t q + (phR x q - Gv t q) := rfl
  refine ⟨?_, by rw [h2]; omega⟩
  rw [h2]
  unfold preM
  rw [a1, a2, b1]
  generalize phR x q = n at *
  by_cases c : n ≤ Gv t q
  · have h3 : nI n - nI (Gv t q) ≤ 0 := by
      rcases Nat.lt_or_ge n (Gv t q) with d | d
      · exact Int32.le_of_lt (pk_sneg (by omega) d)
      · rw [show n = Gv t q by omega, pk_sub (Nat.le_refl _), Nat.sub_self]; exact Int32.le_refl _
    rw [if_pos h3, nI_add]
    congr 1
    omega
  · rw [pk_sub (by omega), if_neg (nI_nle (by omega) (by omega)), nI_add]
def LsM (pl tr : Nat) (a2 a4 a5 : Nat → Int32) : Nat → List Rw
  | 0 => tkIn [] (tgM pl a2)
  | i + 1 => stepK tr a4 a5 (LsM pl tr a2 a4 a5 i) (LsM pl tr a2 a4 a5 i)
def prL (tr : Nat) (f4 f5 : Nat → Int32) (B : List Rw) : List Rw := B.flatMap (fun x => (List.range tr).map (preM f4 f5 x))
theorem tkIn_g (X : List Rw) (w : Rw) : tkIn X w = gAd leR X w := rfl
theorem stepK_g (tr : Nat) (f4 f5 : Nat → Int32) (B X : List Rw) : stepK tr f4 f5 B X = gFo leR (prL tr f4 f5 B) X := by
  unfold gFo prL
  rw [fo_flat]
  unfold stepK
  congr 1
  funext Y x
  rw [List.foldl_map]
  rfl
theorem prL_mem {tr : Nat} {f4 f5 : Nat → Int32} {B : List Rw} {y : Rw} : y ∈ prL tr f4 f5 B ↔ ∃ x, x ∈ B ∧ ∃ t, t < tr ∧ preM f4 f5 x t = y := by
  unfold prL
  simp only [List.mem_flatMap, List.mem_map, List.mem_range]
theorem RJ {pl tr : Nat} {T Gv : Nat → Vv} {tg : Vv} {a2 a4 a5 : Nat → Int32} (hA : arcR tr T Gv a4 a5) (hT : ∀ q, q < 5 → tgM pl a2 q = nI (tg q) ∧ tg q ≤ 20) : ∀ i, i ≤ 60 → (∀ x, x ∈ LsM pl tr a2 a4 a5 i → GR (20 + 5 * i) x) ∧ (∀ v, upL phR (LsM pl tr a2 a4 a5 i) v ↔ Us tr T Gv tg i v) ∧ anL phR (LsM pl tr a2 a4 a5 i) := by
  intro i
  induction i with
  | zero =>
    intro _
    have h0 : LsM pl tr a2 a4 a5 0 = [tgM pl a2] := rfl
    rw [h0]
    obtain ⟨g1, g2⟩ := GR_of (by omega) hT
    refine ⟨fun x hx => by rw [List.mem_singleton.mp hx]; exact g1, fun v => ?_, List.pairwise_singleton _ _⟩
    constructor
    · rintro ⟨x, hx, h⟩
      rw [List.mem_singleton.mp hx] at h
      exact (leV_cg g2).mp h
    · intro h
      exact ⟨_, List.mem_singleton.mpr rfl, (leV_cg g2).mpr h⟩
  | succ i ih =>
    intro hi
    obtain ⟨h1, h2, h3⟩ := ih (by omega)
    have hp : ∀ y, y ∈ prL tr a4 a5 (LsM pl tr a2 a4 a5 i) → GR (20 + 5 * (i + 1)) y := by
      intro y hy
      obtain ⟨x, hx, t, ht, rfl⟩ := prL_mem.mp hy
      exact GR_m (GR_of (by omega) (preM_is hA (b := 20 + 5 * i) (by omega) (h1 x hx) ht)).1 (by omega)
    obtain ⟨k1, k2, k3⟩ := gFo_all (G := GR (20 + 5 * (i + 1))) (φ := phR) (le := leR) (leR_iff (by omega)) (prL tr a4 a5 (LsM pl tr a2 a4 a5 i)) (LsM pl tr a2 a4 a5 i) hp (fun y hy => GR_m (h1 y hy) (by omega))
    have e : LsM pl tr a2 a4 a5 (i + 1) = gFo leR (prL tr a4 a5 (LsM pl tr a2 a4 a5 i)) (LsM pl tr a2 a4 a5 i) := stepK_g _ _ _ _ _
    rw [e]
    refine ⟨k1, fun v => ?_, k3 h3⟩
    rw [k2 v, ← Us_step (φ := phR) (L := LsM pl tr a2 a4 a5 i) h2 (Y := LsM pl tr a2 a4 a5 i) (fun y hy => hy) (fun x hx => Or.inl hx) v]
    constructor
    · rintro (h | ⟨y, hy, h⟩)
      · exact Or.inl h
      · obtain ⟨x, hx, t, ht, rfl⟩ := prL_mem.mp hy
        exact Or.inr ⟨x, hx, t, ht, (leV_cg (GR_of (by omega) (preM_is hA (b := 20 + 5 * i) (by omega) (h1 x hx) ht)).2).mp h⟩
    · rintro (h | ⟨x, hx, t, ht, h⟩)
      · exact Or.inl h
      · exact Or.inr ⟨_, prL_mem.mpr ⟨x, hx, t, ht, rfl⟩, (leV_cg (GR_of (by omega) (preM_is hA (b := 20 + 5 * i) (by omega) (h1 x hx) ht)).2).mpr h⟩
/-! the class's rounds -/
def phC (y : Int64) : Vv := fun q => y.toBitVec.toNat / 1024 ^ q % 1024
def GC (b : Nat) (y : Int64) : Prop := ∃ v : Vv, (∀ q, q < 5 → v q ≤ b) ∧ y = pkV v
def leC (x y : Int64) : Bool := atlR y x
theorem phC_pk {v : Vv} (h : ∀ q, q < 5 → v q < 1024) : ∀ q, q < 5 → phC (pkV v) q = v q := by
  intro q hq
  have h0 := h 0 (by omega)
  have h1 := h 1 (by omega)
  have h2 := h 2 (by omega)
  have h3 := h 3 (by omega)
  have h4 := h 4 (by omega)
  unfold phC pkV
  rw [wb_tn (pq_lt64 h)]
  rcases (show q = 0 ∨ q = 1 ∨ q = 2 ∨ q = 3 ∨ q = 4 by omega) with rfl | rfl | rfl | rfl | rfl <;> simp only [pq_m] <;> omega
theorem GC_m {b c : Nat} {y : Int64} (h : GC b y) (hb : b ≤ c) : GC c y := by
  obtain ⟨v, h1, h2⟩ := h
  exact ⟨v, fun q hq => by have := h1 q hq; omega, h2⟩
theorem GC_at {b : Nat} {y : Int64} (hb : b < 512) (h : GC b y) : y = pkV (phC y) ∧ ∀ q, q < 5 → phC y q ≤ b := by
  obtain ⟨v, h1, rfl⟩ := h
  have h2 := phC_pk (v := v) (fun q hq => by have := h1 q hq; omega)
  refine ⟨pkV_cg (fun q hq => (h2 q hq).symm), fun q hq => by rw [h2 q hq]; exact h1 q hq⟩
theorem leC_iff {b : Nat} (hb : b < 512) (x y : Int64) (hx : GC b x) (hy : GC b y) : leC x y = true ↔ leV (phC x) (phC y) := by
  obtain ⟨x1, x2⟩ := GC_at hb hx
  obtain ⟨y1, y2⟩ := GC_at hb hy
  unfold leC
  rw [x1, y1, pk_atl (fun q hq => by have := y2 q hq; omega) (fun q hq => by have := x2 q hq; omega), ← x1, ← y1]
  rfl
/-- the arcs of a transition, as the class has them -/
def arcC9 (tr : Nat) (T Gv : Nat → Vv) (t6 t7 : Nat → Int64) : Prop := ∀ t, t < tr → t6 t = pkV (T t) ∧ t7 t = pkV (Gv t) ∧ ∀ q, q < 5 → T t q ≤ 5 ∧ Gv t q ≤ 5
def preC (t6 t7 : Nat → Int64) (y : Int64) (u : Nat) : Int64 := lssR y (t7 u) + t6 u
theorem preC_is {tr : Nat} {T Gv : Nat → Vv} {t6 t7 : Nat → Int64} (hA : arcC9 tr T Gv t6 t7) {b : Nat} (hb : b + 5 < 512) {y : Int64} (hy : GC b y) {t : Nat} (ht : t < tr) : GC (b + 5) (preC t6 t7 y t) ∧ ∀ q, q < 5 → phC (preC t6 t7 y t) q = preV T Gv (phC y) t q := by
  obtain ⟨a1, a2, a3⟩ := hA t ht
  obtain ⟨y1, y2⟩ := GC_at (by omega) hy
  have e : preC t6 t7 y t = pkV (preV T Gv (phC y) t) := by
    unfold preC
    rw [a1, a2]
    conv => lhs; rw [y1]
    rw [pk_lss (fun q hq => by have := y2 q hq; omega) (fun q hq => by have := a3 q hq; omega), pkV_add]
    exact pkV_cg (fun q _ => Nat.add_comm _ _)
  have hb2 : ∀ q, q < 5 → preV T Gv (phC y) t q ≤ b + 5 := by
    intro q hq
    have := y2 q hq
    have := a3 q hq
    show T t q + (phC y q - Gv t q) ≤ b + 5
    omega
  rw [e]
  exact ⟨⟨_, hb2, rfl⟩, phC_pk (fun q hq => by have := hb2 q hq; omega)⟩
def pcL (tr : Nat) (t6 t7 : Nat → Int64) (B : List Int64) : List Int64 := B.flatMap (fun x => (List.range tr).map (preC t6 t7 x))
theorem pcL_mem {tr : Nat} {t6 t7 : Nat → Int64} {B : List Int64} {y : Int64} : y ∈ pcL tr t6 t7 B ↔ ∃ x, x ∈ B ∧ ∃ t, t < tr ∧ preC t6 t7 x t = y := by
  unfold pcL
  simp only [List.mem_flatMap, List.mem_map, List.mem_range]
theorem sbL_g (tr : Nat) (t6 t7 : Nat → Int64) (Y : List Int64) (s : Sg) : sbL tr t6 t7 Y s = (pcL tr t6 t7 Y).foldl adS s := by
  unfold pcL
  rw [fo_flat]
  unfold sbL
  congr 1
  funext s y
  rw [List.foldl_map]
  rfl
theorem adS_1 (s : Sg) (x : Int64) : (adS s x).1 = gAd leC s.1 x := rfl
theorem adS_f : ∀ (ps : List Int64) (s : Sg), (ps.foldl adS s).1 = gFo leC ps s.1 := by
  intro ps
  induction ps with
  | nil => intro s; rfl
  | cons p ps ih => intro s; exact ih (adS s p)
def cIv (L0 : List Int64) (b : Nat) (s : Sg) : Prop := (∀ y, y ∈ s.1 → GC b y) ∧ s.2.1 ≤ s.1.length ∧ (∀ y, y ∈ s.1.take s.2.1 → y ∈ L0) ∧ (∀ y, y ∈ s.1.drop s.2.1 → ¬ upL phC L0 (phC y)) ∧ (∀ v, upL phC L0 v → upL phC s.1 v)
theorem cIv_s {L0 : List Int64} {b : Nat} (hb : b < 512) {s : Sg} {x : Int64} (h : cIv L0 b s) (hx : GC b x) : cIv L0 b (adS s x) := by
  obtain ⟨h1, h2, h3, h4, h5⟩ := h
  have hG := gAd_G (le := leC) h1 hx
  have hU := gAd_up (φ := phC) (le := leC) (leC_iff hb) h1 hx
  by_cases c : adT s.1 x = true
  · have e1 : (adS s x).1 = s.1 := if_pos c
    have e2 : (adS s x).2.1 = s.2.1 := if_pos c
    unfold cIv
    rw [e1, e2]
    exact ⟨h1, h2, h3, h4, h5⟩
  · have e1 : (adS s x).1 = s.1.filter (adF x) ++ [x] := if_neg c
    have e2 : (adS s x).2.1 = ((s.1.take s.2.1).filter (adF x)).length := if_neg c
    have e3 : s.1.filter (adF x) = (s.1.take s.2.1).filter (adF x) ++ (s.1.drop s.2.1).filter (adF x) := by
      rw [← List.filter_append, List.take_append_drop]
    have hn : ¬ upL phC s.1 (phC x) := fun h => c ((gAd_any (φ := phC) (le := leC) (leC_iff hb) h1 hx).mpr h)
    have hall : ∀ v, upL phC L0 v → upL phC (adS s x).1 v := fun v hv => (hU v).mpr (Or.inl (h5 v hv))
    have hG2 : ∀ y, y ∈ (adS s x).1 → GC b y := hG
    refine ⟨hG2, ?_, ?_, ?_, hall⟩
    · rw [e1, e2, e3, List.length_append, List.length_append]
      omega
    · intro y hy
      rw [e1, e2, e3, List.append_assoc, List.take_left] at hy
      exact h3 y (List.mem_filter.mp hy).1
    · intro y hy
      rw [e1, e2, e3, List.append_assoc, List.drop_left] at hy
      rcases List.mem_append.mp hy with h6 | h6
      · exact h4 y (List.mem_filter.mp h6).1
      · rw [List.mem_singleton.mp h6]
        exact fun h7 => hn (h5 _ h7)
theorem cIv_f {L0 : List Int64} {b : Nat} (hb : b < 512) : ∀ (ps : List Int64) (s : Sg), (∀ y, y ∈ ps → GC b y) → cIv L0 b s → cIv L0 b (ps.foldl adS s) := by
  intro ps
  induction ps with
  | nil => intro s _ h; exact h
  | cons p ps ih => intro s hp h; exact ih (adS s p) (fun y hy => hp y (List.mem_cons_of_mem _ hy)) (cIv_s hb h (hp p List.mem_cons_self))
def CJ (tr : Nat) (T Gv : Nat → Vv) (tg : Vv) (i : Nat) (s : Rg) : Prop :=
  (∀ y, y ∈ s.1.1 → GC (20 + 5 * i) y) ∧ (∀ v, upL phC s.1.1 v ↔ Us tr T Gv tg i v) ∧ anL phC s.1.1 ∧ s.1.2.1 ≤ s.1.1.length ∧ (∀ x, x ∈ s.1.1.take s.1.2.1 → 0 < i ∧ Us tr T Gv tg (i - 1) (phC x)) ∧ (∀ x, x ∈ s.1.1.drop s.1.2.1 → 0 < i → ¬ Us tr T Gv tg (i - 1) (phC x)) ∧ (∀ y, y ∈ s.2.1 → GC (20 + 5 * i) y) ∧ (∀ v, upL phC s.2.1 v ↔ (0 < i ∧ Us tr T Gv tg (i - 1) v))
theorem CJ_0 {tr : Nat} {T Gv : Nat → Vv} {tg : Vv} {f3 : Nat → Int32} {l8 l10 : Nat} (hT : ∀ q, q < 5 → f3 q = nI (tg q) ∧ tg q ≤ 20) : CJ tr T Gv tg 0 (s0C f3 l8 l10) := by
  have e : pkO f3 5 = pkV tg := pkO_is (fun q hq => ⟨(hT q hq).1, by have := (hT q hq).2; omega⟩)
  have g2 := phC_pk (v := tg) (fun q hq => by have := (hT q hq).2; omega)
  unfold s0C
  rw [e]
  refine ⟨fun y hy => ?_, fun v => ?_, List.pairwise_singleton _ _, Nat.zero_le _, fun x hx => ?_, fun _ _ h => absurd h (Nat.lt_irrefl _), fun y hy => ?_, fun v => ?_⟩
  · rw [List.mem_singleton.mp hy]; exact ⟨tg, fun q hq => (hT q hq).2, rfl⟩
  · constructor
    · rintro ⟨x, hx, h⟩
      rw [List.mem_singleton.mp hx] at h
      exact (leV_cg g2).mp h
    · intro h
      exact ⟨_, List.mem_singleton.mpr rfl, (leV_cg g2).mpr h⟩
  · exact absurd hx (by simp)
  · cases hy
  · constructor
    · rintro ⟨x, hx, _⟩
      cases hx
    · rintro ⟨h, _⟩
      exact absurd h (Nat.lt_irrefl _)
theorem CJ_s {tr : Nat} {T Gv : Nat → Vv} {tg : Vv} {t6 t7 : Nat → Int64} (hA : arcC9 tr T Gv t6 t7) {i : Nat} {s : Rg} (hi : i < 60) (h : CJ tr T Gv tg i s) : CJ tr T Gv tg (i + 1) (rgN tr t6 t7 s) := by
  obtain ⟨h1, h2, h3, h4, h5, h6, h7, h8⟩ := h
  have hpc : ∀ y, y ∈ pcL tr t6 t7 (s.1.1.drop s.1.2.1) → GC (20 + 5 * (i + 1)) y := by
    intro y hy
    obtain ⟨x, hx, t, ht, rfl⟩ := pcL_mem.mp hy
    exact GC_m (preC_is hA (b := 20 + 5 * i) (by omega) (h1 x (List.mem_of_mem_drop hx)) ht).1 (by omega)
  have hL1 : ∀ y, y ∈ s.1.1 → GC (20 + 5 * (i + 1)) y := fun y hy => GC_m (h1 y hy) (by omega)
  have e : (rgN tr t6 t7 s).1 = (pcL tr t6 t7 (s.1.1.drop s.1.2.1)).foldl adS (s.1.1, s.1.1.length, s.1.2.2) := sbL_g _ _ _ _ _
  have e1 : (rgN tr t6 t7 s).1.1 = gFo leC (pcL tr t6 t7 (s.1.1.drop s.1.2.1)) s.1.1 := by rw [e, adS_f]
  have e2 : (rgN tr t6 t7 s).2.1 = s.2.1 ++ s.1.1.drop s.1.2.1 := rfl
  obtain ⟨k1, k2, k3⟩ := gFo_all (G := GC (20 + 5 * (i + 1))) (φ := phC) (le := leC) (leC_iff (by omega)) (pcL tr t6 t7 (s.1.1.drop s.1.2.1)) s.1.1 hpc hL1
  have hc : cIv s.1.1 (20 + 5 * (i + 1)) (rgN tr t6 t7 s).1 := by
    rw [e]
    refine cIv_f (by omega) _ _ hpc ⟨hL1, Nat.le_refl _, fun y hy => List.mem_of_mem_take hy, fun y hy => ?_, fun v hv => hv⟩
    have hy2 : y ∈ s.1.1.drop s.1.1.length := hy
    rw [List.drop_length] at hy2
    cases hy2
  obtain ⟨c1, c2, c3, c4, c5⟩ := hc
  have hO : ∀ x, x ∈ s.1.1 → x ∈ s.1.1.drop s.1.2.1 ∨ ∀ t, t < tr → Us tr T Gv tg i (preV T Gv (phC x) t) := by
    intro x hx
    rw [← List.take_append_drop s.1.2.1 s.1.1] at hx
    rcases List.mem_append.mp hx with h9 | h9
    · right
      intro t ht
      obtain ⟨p1, p2⟩ := h5 x h9
      obtain ⟨j, rfl⟩ : ∃ j, i = j + 1 := ⟨i - 1, by omega⟩
      obtain ⟨q1, q2⟩ := pre_iff.mp (leV_r (preV T Gv (phC x) t))
      exact Or.inr ⟨t, ht, q1, Us_up j _ _ p2 q2⟩
    · exact Or.inl h9
  refine ⟨c1, fun v => ?_, by rw [e1]; exact k3 h3, c2, fun x hx => ⟨by omega, ?_⟩, fun x hx _ => ?_, ?_, fun v => ?_⟩
  · rw [e1, k2 v, ← Us_step (φ := phC) (L := s.1.1) h2 (Y := s.1.1.drop s.1.2.1) (fun y hy => List.mem_of_mem_drop hy) hO v]
    constructor
    · rintro (h | ⟨y, hy, h⟩)
      · exact Or.inl h
      · obtain ⟨x, hx, t, ht, rfl⟩ := pcL_mem.mp hy
        exact Or.inr ⟨x, hx, t, ht, (leV_cg (preC_is hA (b := 20 + 5 * i) (by omega) (h1 x (List.mem_of_mem_drop hx)) ht).2).mp h⟩
    · rintro (h | ⟨x, hx, t, ht, h⟩)
      · exact Or.inl h
      · exact Or.inr ⟨_, pcL_mem.mpr ⟨x, hx, t, ht, rfl⟩, (leV_cg (preC_is hA (b := 20 + 5 * i) (by omega) (h1 x (List.mem_of_mem_drop hx)) ht).2).mpr h⟩
  · exact (h2 _).mp ⟨x, c3 x hx, leV_r _⟩
  · exact fun h9 => c4 x hx ((h2 _).mpr h9)
  · intro y hy
    rw [e2] at hy
    rcases List.mem_append.mp hy with h9 | h9
    · exact GC_m (h7 y h9) (by omega)
    · exact hL1 y (List.mem_of_mem_drop h9)
  · rw [e2]
    show _ ↔ 0 < i + 1 ∧ Us tr T Gv tg i v
    constructor
    · rintro ⟨x, hx, h9⟩
      refine ⟨by omega, ?_⟩
      rcases List.mem_append.mp hx with h10 | h10
      · obtain ⟨p1, p2⟩ := (h8 v).mp ⟨x, h10, h9⟩
        obtain ⟨j, rfl⟩ : ∃ j, i = j + 1 := ⟨i - 1, by omega⟩
        exact Or.inl p2
      · exact (h2 v).mp ⟨x, List.mem_of_mem_drop h10, h9⟩
    · rintro ⟨_, h9⟩
      obtain ⟨x, hx, h10⟩ := (h2 v).mpr h9
      rw [← List.take_append_drop s.1.2.1 s.1.1] at hx
      rcases List.mem_append.mp hx with h11 | h11
      · obtain ⟨p1, p2⟩ := h5 x h11
        obtain ⟨y, hy, h12⟩ := (h8 v).mpr ⟨p1, Us_up _ _ _ p2 h10⟩
        exact ⟨y, List.mem_append.mpr (Or.inl hy), h12⟩
      · exact ⟨x, List.mem_append.mpr (Or.inr h11), h10⟩
theorem CJ_all {tr : Nat} {T Gv : Nat → Vv} {tg : Vv} {t6 t7 : Nat → Int64} (hA : arcC9 tr T Gv t6 t7) {s0 : Rg} (h0 : CJ tr T Gv tg 0 s0) : ∀ i, i ≤ 60 → CJ tr T Gv tg i (rgS tr t6 t7 s0 i) := by
  intro i
  induction i with
  | zero => intro _; exact h0
  | succ i ih => intro hi; exact CJ_s hA (by omega) (ih (by omega))
