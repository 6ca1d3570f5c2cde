theorem tc_upd {h5 h6 h7 : Nat → Int32} {T : List Nd} {a b : Int32} (h : treeC h5 h6 h7 T) : treeC h5 (upd h6 T.length a) (upd h7 T.length b) T := by
  intro k nd hk
  have hkl := lt_of_some hk
  obtain ⟨x, y, z⟩ := h k nd hk
  refine ⟨x, by rw [pk_un (by omega)]; exact y, fun h0 => ?_⟩
  obtain ⟨c1, c2, c3⟩ := z h0
  exact ⟨c1, by rw [pk_un (by omega)]; exact c2, c3⟩
theorem tc_root {h5 h6 h7 : Nat → Int32} {x : Rw} (h1 : ∀ q, q < 5 → h5 q = x q) (h2 : h7 0 = nI 0) : treeC h5 h6 h7 [(0, x, [])] := by
  intro k nd hk
  have h0 : k < 1 := lt_of_some hk
  have hk0 : k = 0 := by omega
  subst hk0
  cases hk
  exact ⟨fun q hq => by rw [Nat.mul_zero, Nat.zero_add]; exact h1 q hq, h2, fun h => absurd h (Nat.lt_irrefl 0)⟩
theorem fir_old {pl : Nat} {can : Rw → Nat → Bool} {kid : List Rw → Nat → Rw} {tr : Nat} {x : Rw} {k : Nat} {nd : Nd} (hk : (growC pl can kid tr x k)[k]? = some nd) (ho : oldP pl nd.2.1 nd.2.2 = true) (q : Nat) : firC pl can kid tr x (k + 1) q = firC pl can kid tr x k q := by
  show (firC pl can kid tr x k q || (match (growC pl can kid tr x k)[k]? with
    | none => false
    | some nd => !(oldP pl nd.2.1 nd.2.2) && decide (q < tr) && can nd.2.1 q)) = _
  rw [hk]
  simp [ho]
theorem fir_new {pl : Nat} {can : Rw → Nat → Bool} {kid : List Rw → Nat → Rw} {tr : Nat} {x : Rw} {k : Nat} {nd : Nd} (hk : (growC pl can kid tr x k)[k]? = some nd) (ho : oldP pl nd.2.1 nd.2.2 = false) (q : Nat) : firC pl can kid tr x (k + 1) q = frN (can nd.2.1) (firC pl can kid tr x k) tr q := by
  show (firC pl can kid tr x k q || (match (growC pl can kid tr x k)[k]? with
    | none => false
    | some nd => !(oldP pl nd.2.1 nd.2.2) && decide (q < tr) && can nd.2.1 q)) = _
  rw [hk]
  unfold frN
  simp [ho]
