theorem fmo_1 {ws : va_W} {k : Nat} {q : Nat × va_E} (h : ws[k]? = some q) : [k].filterMap (fun i => ws[i]?) = [q] := by simp [h]
def tkP (tk : Nat → Nat → Int32) : Nat → Int64 := fun t => pkO (tk t) 5
def s0C (f3 : Nat → Int32) (l8 l10 : Nat) : Rg := (([pkO f3 5], 0, l8), [], l10)
theorem okR_0 {f3 : Nat → Int32} {l8 l10 : Nat} (h8 : 0 < l8) (h8b : l8 ≤ 2 * 1450) (h10 : 0 < l10) (h10b : l10 ≤ 24600) : okR 0 (s0C f3 l8 l10) := ⟨⟨by show 1 ≤ 1400; omega, by show 1 ≤ l8; omega, h8b, by show 0 ≤ 1; omega, h8⟩, Nat.le_refl _, Nat.zero_le _, h10b, h10⟩
theorem rg_len {tr : Nat} {t6 t7 : Nat → Int64} {s0 : Rg} {fi : Int64} {la : Nat} (htr : tr ≤ 6) (h0 : okR 0 s0) (hla : la ≤ 60) (hgo : ∀ j, j < la → endR tr t6 t7 s0 fi j = nI 2) {i : Nat} (hi : i < la) : (rgS tr t6 t7 s0 (i + 1)).2.1 = (rgS tr t6 t7 s0 i).2.1 ++ (rgS tr t6 t7 s0 i).1.1.drop (rgS tr t6 t7 s0 i).1.2.1 := rfl
