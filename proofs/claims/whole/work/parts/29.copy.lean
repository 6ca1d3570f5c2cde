section WY
variable {p : Program} {l : Launch} {e : Env} {R : Room} {s : State} {m : MethodId} {args : Array Value} {below : List Frame} {meth : Method} {c : Code} {H : Heap} {locs : List Loc} {cells slots : Nat} {Q : State → Prop}
variable {cc : ByteArray} {pc : Nat} {ls : Array Slot} {rest : List Value} {D : va_G} {A : Nat → Prop} {ws : va_W} {H0 : Heap} {tys : List (ClassId × FieldType)} {a : Nat}
theorem wk_copyI (hexec : p.tables.exec = Jvm.exec) (hb : c.code = cc) (hml : c.maxLocals = ls.size) {own : String} {index : Nat} (hown : s.vm.findClass own = some m.cls) (hlink : (Cond.methodLink own index arraycopyName).before args s = true) (hnat : (Cond.native arraycopyName).before args s = true) (hstat : (Cond.static arraycopyName).before args s = true) (hini : (Cond.initialized "java/lang/System").before args s = true)
    (hK : va_K D vwCl tys s) (hP : va_P D vwCl ws H) (hD : va_D A ws) (hS : va_S A H0 H locs) (q0 q1 t0 t1 : Nat) {a0 : Nat} {c0 c1 : ClassId} {n0 n1 : Nat} {f g : Nat → Int32} (ha0 : ws[q0]? = some (a0, .inl (c0, n0, .inl f))) (ha1 : ws[q1]? = some (a, .inl (c1, n1, .inl g))) (ht0 : tys[t0]? = some (c0, .int)) (ht1 : tys[t1]? = some (c1, .int))
    {sp dp n : Nat} (h4 : sp + n ≤ n0) (h5 : dp + n ≤ n1) (hn0 : n0 < 2 ^ 31) (hn1 : n1 < 2 ^ 31)
    (hframes : 1 ≤ R.frames) (hlocals : (rest.map fun v => v.category).sum + (nativeFrameWords "java/lang/System" "arraycopy" 5 + 11) ≤ R.locals) (hdg : decode cc pc = .ok (.invokestatic index, 3))
    (kk : ∀ (H1 : Heap) (locs1 : List Loc), va_P D vwCl (ws.set q1 (a, .inl (c1, n1, .inl (va_cpy f g sp dp n)))) H1 → va_D A (ws.set q1 (a, .inl (c1, n1, .inl (va_cpy f g sp dp n)))) → va_S A H0 H1 locs1 → W p l e R s m args below meth c H1 locs1 cells slots Q (F0 m (pc + 3) ls rest)) : W p l e R s m args below meth c H locs cells slots Q (F0 m pc ls (.int (nI n) :: .int (nI dp) :: .ref a :: .int (nI sp) :: .ref a0 :: rest)) := by
  refine va_copyi hexec hb hml hown hlink hnat hstat hini hK hP hD hS q0 q1 t0 t1 ha0 ha1 ht0 ht1 rfl (nI_pos (by omega)) (nI_pos (by omega)) (nI_pos (by omega)) (by rw [nI_clamp (by omega), nI_clamp (by omega)]; exact h4) (by rw [nI_clamp (by omega), nI_clamp (by omega)]; exact h5) (fun _ _ => rfl) hframes hlocals hdg ?_
  rw [nI_clamp (by omega), nI_clamp (by omega), nI_clamp (by omega)]
  exact kk
theorem wk_copyJ (hexec : p.tables.exec = Jvm.exec) (hb : c.code = cc) (hml : c.maxLocals = ls.size) {own : String} {index : Nat} (hown : s.vm.findClass own = some m.cls) (hlink : (Cond.methodLink own index arraycopyName).before args s = true) (hnat : (Cond.native arraycopyName).before args s = true) (hstat : (Cond.static arraycopyName).before args s = true) (hini : (Cond.initialized "java/lang/System").before args s = true)
    (hK : va_K D vwCl tys s) (hP : va_P D vwCl ws H) (hD : va_D A ws) (hS : va_S A H0 H locs) (q0 q1 t0 t1 : Nat) {a0 : Nat} {c0 c1 : ClassId} {n0 n1 : Nat} {f g : Nat → Int64} (ha0 : ws[q0]? = some (a0, .inl (c0, n0, .inr (.inl f)))) (ha1 : ws[q1]? = some (a, .inl (c1, n1, .inr (.inl g)))) (ht0 : tys[t0]? = some (c0, .long)) (ht1 : tys[t1]? = some (c1, .long))
    {sp dp n : Nat} (h4 : sp + n ≤ n0) (h5 : dp + n ≤ n1) (hn0 : n0 < 2 ^ 31) (hn1 : n1 < 2 ^ 31)
    (hframes : 1 ≤ R.frames) (hlocals : (rest.map fun v => v.category).sum + (nativeFrameWords "java/lang/System" "arraycopy" 5 + 11) ≤ R.locals) (hdg : decode cc pc = .ok (.invokestatic index, 3))
    (kk : ∀ (H1 : Heap) (locs1 : List Loc), va_P D vwCl (ws.set q1 (a, .inl (c1, n1, .inr (.inl (va_cpy f g sp dp n))))) H1 → va_D A (ws.set q1 (a, .inl (c1, n1, .inr (.inl (va_cpy f g sp dp n))))) → va_S A H0 H1 locs1 → W p l e R s m args below meth c H1 locs1 cells slots Q (F0 m (pc + 3) ls rest)) : W p l e R s m args below meth c H locs cells slots Q (F0 m pc ls (.int (nI n) :: .int (nI dp) :: .ref a :: .int (nI sp) :: .ref a0 :: rest)) := by
  refine va_copyl hexec hb hml hown hlink hnat hstat hini hK hP hD hS q0 q1 t0 t1 ha0 ha1 ht0 ht1 rfl (nI_pos (by omega)) (nI_pos (by omega)) (nI_pos (by omega)) (by rw [nI_clamp (by omega), nI_clamp (by omega)]; exact h4) (by rw [nI_clamp (by omega), nI_clamp (by omega)]; exact h5) (fun _ _ => rfl) hframes hlocals hdg ?_
  rw [nI_clamp (by omega), nI_clamp (by omega), nI_clamp (by omega)]
  exact kk
end WY
/-! how a pile's row grows: its length, the cells and places that come -/
def grL (k len : Nat) : Nat := if k < len then len else 2 * len
def dC9 (l1 l0 : Nat) : Nat := Nat.log2 l1 - Nat.log2 l0
def dS9 (l1 l0 : Nat) : Nat := 2 * l1 - 2 * l0
theorem lg2 {len : Nat} (h : 0 < len) : Nat.log2 (2 * len) = Nat.log2 len + 1 := Nat.log2_two_mul (by omega)
theorem gr_y {k len : Nat} (h : k < len) : grL k len = len := if_pos h
theorem gr_n {k len : Nat} (h : len ≤ k) : grL k len = 2 * len := if_neg (by omega)
theorem gr_ge (k len : Nat) : len ≤ grL k len := by unfold grL; split <;> omega
theorem dC_self (k : Nat) : dC9 k k = 0 := Nat.sub_self _
theorem dS_self (k : Nat) : dS9 k k = 0 := Nat.sub_self _
theorem dC_gr {k len : Nat} (h : len ≤ k) (h0 : 0 < len) : dC9 (grL k len) len = 1 := by unfold dC9; rw [gr_n h, lg2 h0]; omega
theorem dS_gr {k len : Nat} (h : len ≤ k) : dS9 (grL k len) len = 2 * len := by unfold dS9; rw [gr_n h]; omega
/-- lengths that came by doubling -/
def dbl (l0 l1 : Nat) : Prop := 0 < l0 ∧ l0 ≤ l1 ∧ Nat.log2 l0 ≤ Nat.log2 l1
theorem dbl_r {l0 : Nat} (h : 0 < l0) : dbl l0 l0 := ⟨h, Nat.le_refl _, Nat.le_refl _⟩
theorem dbl_t {a b c : Nat} (h1 : dbl a b) (h2 : dbl b c) : dbl a c := ⟨h1.1, Nat.le_trans h1.2.1 h2.2.1, Nat.le_trans h1.2.2 h2.2.2⟩
theorem dbl_gr {k len : Nat} (h : 0 < len) : dbl len (grL k len) := by
  refine ⟨h, gr_ge k len, ?_⟩
  unfold grL
  split
  · exact Nat.le_refl _
  · rw [lg2 h]; omega
theorem dC_add {a b c : Nat} (h1 : dbl a b) (h2 : dbl b c) : dC9 b a + dC9 c b = dC9 c a := by unfold dC9; have := h1.2.2; have := h2.2.2; omega
theorem dS_add {a b c : Nat} (h1 : dbl a b) (h2 : dbl b c) : dS9 b a + dS9 c b = dS9 c a := by unfold dS9; have := h1.2.1; have := h2.2.1; omega
theorem dC_le {a b c : Nat} (h1 : dbl a b) (h2 : dbl b c) : dC9 b a ≤ dC9 c a := by have := dC_add h1 h2; omega
theorem dS_le {a b c : Nat} (h1 : dbl a b) (h2 : dbl b c) : dS9 b a ≤ dS9 c a := by have := dS_add h1 h2; omega
theorem listV_put {f : Nat → Int64} {X : List Int64} {x : Int64} (h : listV f X) : listV (vp_updL f X.length x) (X ++ [x]) := by
  intro k y hy
  by_cases hk : k < X.length
  · rw [List.getElem?_append_left hk] at hy
    rw [pk_uLn (by omega)]
    exact h k y hy
  · rw [List.getElem?_append_right (by omega)] at hy
    have h0 : k - X.length < 1 := lt_of_some hy
    rw [show k - X.length = 0 by omega] at hy
    cases hy
    rw [show k = X.length by omega]
    exact pk_uLs
theorem listV_cpy {f g : Nat → Int64} {X : List Int64} {len : Nat} (h : listV f X) (hl : X.length ≤ len) : listV (va_cpy f g 0 0 len) X := by
  intro k y hy
  have := lt_of_some hy
  rw [pk_cpy_in (by omega) (by omega), Nat.sub_zero, Nat.zero_add]
  exact h k y hy
