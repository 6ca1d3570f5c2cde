theorem sbI_mono {b : Nat} {s : Sg} (t6 t7 : Nat → Int64) (y : Int64) (h : okS b s) : ∀ t d, b + (t + d) ≤ 1451 → dbl (sbI t6 t7 y t s).2.2 (sbI t6 t7 y (t + d) s).2.2 := by
  intro t d
  induction d with
  | zero => intro hb; exact dbl_r (okS_I t6 t7 y h t (by omega)).1.2.2.2.2
  | succ d ih =>
    intro hb
    have h1 := ih (by omega)
    have h2 := okS_I t6 t7 y h (t + d) (by omega)
    rw [show t + (d + 1) = (t + d) + 1 by omega, sbI_s]
    exact dbl_t h1 (okS_s h2.1 (by omega) _).2
theorem sbL_mono {b tr : Nat} {s : Sg} (t6 t7 : Nat → Int64) (htr : tr ≤ 6) (h : okS b s) (Y : List Int64) (hb : b + 6 * Y.length ≤ 1451) (j : Nat) : dbl (sbL tr t6 t7 (Y.take j) s).2.2 (sbL tr t6 t7 Y s).2.2 := by
  have hl : (Y.take j).length + (Y.drop j).length = Y.length := by rw [← List.length_append, List.take_append_drop]
  have h1 := okS_L t6 t7 htr h (Y.take j) (by omega)
  have h2 := okS_L t6 t7 htr h1.1 (Y.drop j) (by omega)
  have e : sbL tr t6 t7 Y s = sbL tr t6 t7 (Y.drop j) (sbL tr t6 t7 (Y.take j) s) := by
    unfold sbL
    rw [← List.foldl_append, List.take_append_drop]
  rw [e]
  exact h2.2
def cpJ (h f : Nat → Int64) (k : Nat) : Nat → Int64 := fun q => if q < k then h q else f q
theorem cpJ_0 (h f : Nat → Int64) : cpJ h f 0 = f := funext fun q => if_neg (Nat.not_lt_zero q)
theorem cpJ_s (h f : Nat → Int64) (k : Nat) : vp_updL (cpJ h f k) k (h k) = cpJ h f (k + 1) := by
  funext q
  unfold vp_updL cpJ
  by_cases h1 : q = k
  · subst h1; rw [if_pos rfl, if_pos (Nat.lt_succ_self q)]
  · by_cases h2 : q < k
    · rw [if_neg h1, if_pos h2, if_pos (Nat.lt_succ_of_lt h2)]
    · rw [if_neg h1, if_neg h2, if_neg (by omega)]
theorem cpJ_lt {h f : Nat → Int64} {k q : Nat} (hq : q < k) : cpJ h f k q = h q := if_pos hq
def cAt (e4 : Int64) (t6 t7 : Nat → Int64) (gt : Nat → Nat) : Nat → Int64
  | 0 => e4
  | k + 1 => cAt e4 t6 t7 gt k - t6 (gt k) + t7 (gt k)
def leadC (t6 t7 : Nat → Int64) (a : Int64) (K : List Int64) (t : Nat) : Bool := atlR a (t6 t) && K.any (fun y => atlR (a - t6 t + t7 t) y)
abbrev Rg : Type := Sg × List Int64 × Nat
def rgN (tr : Nat) (t6 t7 : Nat → Int64) (s : Rg) : Rg := (sbL tr t6 t7 (s.1.1.drop s.1.2.1) (s.1.1, s.1.1.length, s.1.2.2), s.2.1 ++ s.1.1.drop s.1.2.1, apL s.2.1.length s.2.2 (s.1.1.length - s.1.2.1))
def rgS (tr : Nat) (t6 t7 : Nat → Int64) (s0 : Rg) : Nat → Rg
  | 0 => s0
  | i + 1 => rgN tr t6 t7 (rgS tr t6 t7 s0 i)
def okR (i : Nat) (s : Rg) : Prop := okS 1400 s.1 ∧ s.2.1.length ≤ 200 * i ∧ s.2.1.length ≤ s.2.2 ∧ s.2.2 ≤ 24600 ∧ 0 < s.2.2
theorem okR_s {i tr : Nat} {s : Rg} (t6 t7 : Nat → Int64) (htr : tr ≤ 6) (hi : i < 60) (h : okR i s) (hX : s.1.1.length ≤ 200) : okR (i + 1) (rgN tr t6 t7 s) ∧ dbl s.1.2.2 (rgN tr t6 t7 s).1.2.2 ∧ dbl s.2.2 (rgN tr t6 t7 s).2.2 := by
  obtain ⟨⟨h1, h2, h3, h4, h5⟩, h6, h7, h8, h9⟩ := h
  have hd : (s.1.1.drop s.1.2.1).length = s.1.1.length - s.1.2.1 := List.length_drop
  have hs0 : okS 200 (s.1.1, s.1.1.length, s.1.2.2) := ⟨hX, h2, h3, Nat.le_refl _, h5⟩
  have hL := okS_L (tr := tr) t6 t7 htr hs0 (s.1.1.drop s.1.2.1) (by omega)
  have ha := apL_dbl (k := s.2.1.length) h9 (s.1.1.length - s.1.2.1)
  have ha2 := apL_ge (k := s.2.1.length) h7 h9 (s.1.1.length - s.1.2.1)
  have ha3 := apL_le (k := s.2.1.length) (len := s.2.2) (c := 12300) (by omega) (s.1.1.length - s.1.2.1) (by omega)
  refine ⟨⟨okS_m hL.1 (by omega), ?_, ?_, by show apL _ _ _ ≤ 24600; omega, Nat.lt_of_lt_of_le h9 ha.2.1⟩, hL.2, ha⟩
  · show (s.2.1 ++ s.1.1.drop s.1.2.1).length ≤ _
    rw [List.length_append]; omega
  · show (s.2.1 ++ s.1.1.drop s.1.2.1).length ≤ apL _ _ _
    rw [List.length_append]; omega
theorem endC_go {X : List Int64} {old : Nat} {fi : Int64} {i : Nat} (h : endC X old fi i = nI 2) : X.length ≤ 200 ∧ i ≠ 60 := by
  unfold endC at h
  split at h
  · exact absurd h (by decide)
  · split at h
    · exact absurd h (by decide)
    · split at h
      · exact absurd h (by decide)
      · split at h
        · exact absurd h (by decide)
        · exact ⟨by omega, by assumption⟩
def endR (tr : Nat) (t6 t7 : Nat → Int64) (s0 : Rg) (fi : Int64) (i : Nat) : Int32 := endC (rgS tr t6 t7 s0 i).1.1 (rgS tr t6 t7 s0 i).1.2.1 fi i
theorem okR_all {tr la : Nat} {t6 t7 : Nat → Int64} {s0 : Rg} {fi : Int64} (htr : tr ≤ 6) (h0 : okR 0 s0) (hla : la ≤ 60) (hgo : ∀ j, j < la → endR tr t6 t7 s0 fi j = nI 2) : ∀ i, i ≤ la → okR i (rgS tr t6 t7 s0 i) ∧ dbl s0.1.2.2 (rgS tr t6 t7 s0 i).1.2.2 ∧ dbl s0.2.2 (rgS tr t6 t7 s0 i).2.2 := by
  intro i
  induction i with
  | zero => intro _; exact ⟨h0, dbl_r h0.1.2.2.2.2, dbl_r h0.2.2.2.2⟩
  | succ i ih =>
    intro hi
    obtain ⟨a, b, c⟩ := ih (by omega)
    obtain ⟨d, e, f⟩ := okR_s t6 t7 htr (by omega) a (endC_go (hgo i (by omega))).1
    exact ⟨d, dbl_t b e, dbl_t c f⟩
theorem okR_mono {tr la : Nat} {t6 t7 : Nat → Int64} {s0 : Rg} {fi : Int64} (htr : tr ≤ 6) (h0 : okR 0 s0) (hla : la ≤ 60) (hgo : ∀ j, j < la → endR tr t6 t7 s0 fi j = nI 2) : ∀ d i, i + d ≤ la → dbl (rgS tr t6 t7 s0 i).1.2.2 (rgS tr t6 t7 s0 (i + d)).1.2.2 ∧ dbl (rgS tr t6 t7 s0 i).2.2 (rgS tr t6 t7 s0 (i + d)).2.2 := by
  intro d
  induction d with
  | zero =>
    intro i hi
    obtain ⟨a, -, -⟩ := okR_all htr h0 hla hgo i (by omega)
    exact ⟨dbl_r a.1.2.2.2.2, dbl_r a.2.2.2.2⟩
  | succ d ih =>
    intro i hi
    obtain ⟨a, b⟩ := ih i (by omega)
    obtain ⟨k, -, -⟩ := okR_all htr h0 hla hgo (i + d) (by omega)
    obtain ⟨-, e, f⟩ := okR_s t6 t7 htr (by omega) k (endC_go (hgo (i + d) (by omega))).1
    exact ⟨dbl_t a e, dbl_t b f⟩
