theorem wt_f {e0 x : Int32} {la : Nat} (c1 : ¬ x < 0) (c : ¬ (if e0 = nI 1 then nI la else -1) ≤ x) : e0 = nI 1 ∧ ¬ nI la ≤ x := by
  by_cases h : e0 = nI 1
  · rw [if_pos h] at c; exact ⟨h, c⟩
  · rw [if_neg h] at c
    exfalso
    apply c
    have h1 := Int32.not_lt.mp c1
    rw [Int32.le_iff_toInt_le] at h1 ⊢
    have h2 : (-1 : Int32).toInt = -1 := by decide
    have h3 : (0 : Int32).toInt = 0 := by decide
    omega
theorem wt_t {e0 x : Int32} {la : Nat} (c : (if e0 = nI 1 then nI la else -1) ≤ x) : ¬ (e0 = nI 1 ∧ inB x (nI la) = true) := by
  rintro ⟨h1, h2⟩
  rw [if_pos h1] at c
  simp [inB, c] at h2
theorem ls_in {x e1 : Int32} (he : e1 = -1 ∨ ∃ la : Nat, la ≤ 60 ∧ e1 = nI la) (c1 : ¬ x < 0) (c2 : ¬ e1 < x) : ∃ j : Nat, j ≤ 60 ∧ x = nI j := by
  obtain ⟨j, h3, rfl⟩ := nI_of c1
  rcases he with rfl | ⟨la, hla, rfl⟩
  · exfalso
    apply c2
    rw [Int32.lt_iff_toInt_lt, nI_toInt h3]
    have h2 : (-1 : Int32).toInt = -1 := by decide
    omega
  · refine ⟨j, ?_, rfl⟩
    have := Nat.le_of_not_lt (fun q => c2 ((nI_ltI (by omega) h3).mpr q))
    omega
