/-! THE LAW: what holds between two calls -/
theorem most_R {om om2 : Int32} {gp : Nat} {A B : List Rw} {C : List Nat} (hgp : gp ≤ 5) (h : ∀ j, j < gp → tolM om (mxC A C j) = tolM om2 (mxM B j)) (x : Int32) : (if inB x (nI gp) = true then tolM om (mxC A C x.toNatClampNeg) else -1) = (if inB x (nI gp) = true then tolM om2 (mxM B x.toNatClampNeg) else -1) := by
  by_cases c : inB x (nI gp) = true
  · rw [if_pos c, if_pos c]
    obtain ⟨j, hj, rfl⟩ := inB_nI (by omega) c
    rw [nI_clamp (by omega)]
    exact h j hj
  · rw [if_neg c, if_neg c]
theorem limit_R {gp : Nat} {A B : List Rw} {C : List Nat} (hgp : gp ≤ 5) (hC : C.length ≤ 1000) (h : ∀ k, k < C.length → ∀ j, j < gp → tolM (nI 1000000000) ((A.getD (C.getD k 0) zR) j) = tolM (nI 1000000) ((B.getD (C.getD k 0) zR) j)) (x y : Int32) : (if inB y (nI gp) = true ∧ inB x (nI C.length) = true then tolM (nI 1000000000) ((A.getD (C.getD x.toNatClampNeg 0) zR) y.toNatClampNeg) else -1) = (if inB y (nI gp) = true ∧ inB x (nI C.length) = true then tolM (nI 1000000) ((B.getD (C.getD x.toNatClampNeg 0) zR) y.toNatClampNeg) else -1) := by
  by_cases c : inB y (nI gp) = true ∧ inB x (nI C.length) = true
  · rw [if_pos c, if_pos c]
    obtain ⟨j, hj, rfl⟩ := inB_nI (by omega) c.1
    obtain ⟨k, hk, rfl⟩ := inB_nI (by omega) c.2
    rw [nI_clamp (show j < 2 ^ 31 by omega), nI_clamp (show k < 2 ^ 31 by omega)]
    exact h k hk j hj
  · rw [if_neg c, if_neg c]
section NR
variable {pl tr : Nat} {f2 f3 : Nat → Int32} {tk gv : Nat → Nat → Int32} {a1 a2 a4 a5 : Nat → Int32}
theorem covers_R (hN : netR pl tr f2 f3 tk gv a1 a2 a4 a5) {gp : Nat} {A B : List Rw} {C : List Nat} (h : ∀ (f3 a2 : Nat → Int32) (tg : Vv), (∀ q, q < 5 → f3 q = nI (tg q) ∧ a2 q = nI (tg q) ∧ tg q ≤ 20 ∧ (gp ≤ q → tg q = 0)) → C.any (fun v => tpP gp (A.getD v zR) f3) = B.any (fun x => tp5 x a2)) : bI (decide (gp = pl) && C.any (fun v => tpP gp (A.getD v zR) f3)) = bI (decide (gp = pl) && B.any (fun x => tp5 x a2)) := by
  obtain ⟨hpl, htr, h1, ⟨tg, h2⟩, h3⟩ := hN
  by_cases c : gp = pl
  · subst c
    rw [h f3 a2 tg h2]
  · rw [decide_eq_false c, Bool.false_and, Bool.false_and]
theorem sea_val {Ls : Nat → List Rw} {f1 : Rw} {la : Nat} (h : endM Ls f1 la ≠ nI 2) : endM Ls f1 la = nI 1 ∨ endM Ls f1 la = -1 ∨ endM Ls f1 la = nI 0 := by
  rcases endM_v Ls f1 la with e | e | e | e
  · exact Or.inl e
  · exact Or.inr (Or.inl e)
  · exact Or.inr (Or.inr e)
  · exact absurd e h
theorem rounds_R (hN : netR pl tr f2 f3 tk gv a1 a2 a4 a5) (t6 t7 : Nat → Int64) (l8 l10 : Nat) : ∃ (la : Nat) (gt : Nat → Nat), la ≤ 60 ∧ endM (LsM pl tr a2 a4 a5) a1 la ≠ nI 2 ∧ (∀ j, j < la → endM (LsM pl tr a2 a4 a5) a1 j = nI 2) ∧ (endM (LsM pl tr a2 a4 a5) a1 la = nI 1 → ∀ k, k < la → gt k < tr ∧ leadsB tr a4 a5 (gAt a4 a5 a1 gt k) (LsM pl tr a2 a4 a5 (la - k - 1)) (gt k) = true ∧ ∀ t, t < gt k → leadsB tr a4 a5 (gAt a4 a5 a1 gt k) (LsM pl tr a2 a4 a5 (la - k - 1)) t = false) ∧ (endR tr (cpJ (tkP tk) t6 tr) (cpJ (tkP gv) t7 tr) (s0C f3 l8 l10) (pkO f2 5) la) = endM (LsM pl tr a2 a4 a5) a1 la ∧ (∀ j, j < la → endR tr (cpJ (tkP tk) t6 tr) (cpJ (tkP gv) t7 tr) (s0C f3 l8 l10) (pkO f2 5) j = nI 2) ∧ ((endR tr (cpJ (tkP tk) t6 tr) (cpJ (tkP gv) t7 tr) (s0C f3 l8 l10) (pkO f2 5) la) = nI 1 → ∀ k, k < la → gt k < tr ∧ leadC (cpJ (tkP tk) t6 tr) (cpJ (tkP gv) t7 tr) (cAt (pkO f2 5) (cpJ (tkP tk) t6 tr) (cpJ (tkP gv) t7 tr) gt k) ((rgS tr (cpJ (tkP tk) t6 tr) (cpJ (tkP gv) t7 tr) (s0C f3 l8 l10) la).2.1.take (rgS tr (cpJ (tkP tk) t6 tr) (cpJ (tkP gv) t7 tr) (s0C f3 l8 l10) (la - 1 - k + 1)).2.1.length) (gt k) = true ∧ ∀ t, t < gt k → leadC (cpJ (tkP tk) t6 tr) (cpJ (tkP gv) t7 tr) (cAt (pkO f2 5) (cpJ (tkP tk) t6 tr) (cpJ (tkP gv) t7 tr) gt k) ((rgS tr (cpJ (tkP tk) t6 tr) (cpJ (tkP gv) t7 tr) (s0C f3 l8 l10) la).2.1.take (rgS tr (cpJ (tkP tk) t6 tr) (cpJ (tkP gv) t7 tr) (s0C f3 l8 l10) (la - 1 - k + 1)).2.1.length) t = false) ∧ (∀ j, j ≤ la → (LsM pl tr a2 a4 a5 j).length = (rgS tr (cpJ (tkP tk) t6 tr) (cpJ (tkP gv) t7 tr) (s0C f3 l8 l10) j).1.1.length) := by
  obtain ⟨hpl, htr, ⟨fi, h1⟩, ⟨tg, h2⟩, T, Gv, h3⟩ := hN
  refine rounds_eq (T := T) (Gv := Gv) (fi := fi) (tg := tg) t6 t7 l8 l10 htr (fun t ht q hq => ?_) (fun q hq => ?_) (fun q hq => ⟨(h1 q hq).2.1, (h1 q hq).2.2.1⟩) (fun t ht q hq => ?_) (fun q hq => (h2 q hq).1) (fun q hq => (h1 q hq).1)
  · obtain ⟨g1, g2, g3, g4, g5, g6, g7⟩ := h3 t (by omega) q hq
    exact ⟨g3, g4, g5, g6⟩
  · obtain ⟨g1, g2, g3, g4⟩ := h2 q hq
    refine ⟨?_, g3⟩
    rcases Nat.lt_or_ge q pl with d | d
    · rw [tgM_lt d]; exact g2
    · rw [tgM_ge d, g4 d]
  · obtain ⟨g1, g2, g3, g4, g5, g6, g7⟩ := h3 t (by omega) q hq
    exact ⟨g1, g2⟩
theorem grow_RR (hN : netR pl tr f2 f3 tk gv a1 a2 a4 a5) {ra rb : Int32} {u : Bool × Int32 × Int32 × (Nat → Int32) × (Nat → Int32) × (Nat → Int32) × (Nat → Int32) × (Nat → Int32)} {v : Bool × Int32 × Int32 × Int32 × Int32 × (Nat → Int32) × (Nat → Int32) × (Nat → Int32) × (Nat → Int32)} (hu : (fun (r9 : Int32) (u : Bool × Int32 × Int32 × (Nat → Int32) × (Nat → Int32) × (Nat → Int32) × (Nat → Int32) × (Nat → Int32)) => (fun u => ((growC pl (canP pl tk) (kidP pl (nI 1000000000) tk gv) tr f2 1001).length ≤ 1000 → u.1 = true ∧ u.2.1 = nI (growC pl (canP pl tk) (kidP pl (nI 1000000000) tk gv) tr f2 1001).length ∧ u.2.2.1 = nI (glL pl (mks (growC pl (canP pl tk) (kidP pl (nI 1000000000) tk gv) tr f2 1001)) (mks (growC pl (canP pl tk) (kidP pl (nI 1000000000) tk gv) tr f2 1001)).length).length ∧ rowsV u.2.2.2.2.1 0 (mks (growC pl (canP pl tk) (kidP pl (nI 1000000000) tk gv) tr f2 1001)) ∧ (∀ q, q < 6 → u.2.2.2.1 q = bI (firC pl (canP pl tk) (kidP pl (nI 1000000000) tk gv) tr f2 1001 q)) ∧ idxV u.2.2.2.2.2.2.2 (glL pl (mks (growC pl (canP pl tk) (kidP pl (nI 1000000000) tk gv) tr f2 1001)) (mks (growC pl (canP pl tk) (kidP pl (nI 1000000000) tk gv) tr f2 1001)).length)) ∧ (¬ (growC pl (canP pl tk) (kidP pl (nI 1000000000) tk gv) tr f2 1001).length ≤ 1000 → u.1 = false)) u ∧ r9 = if u.1 = true then u.2.1 else -1) ra u) (hv : (fun (r9 : Int32) (u : Bool × Int32 × Int32 × Int32 × Int32 × (Nat → Int32) × (Nat → Int32) × (Nat → Int32) × (Nat → Int32)) => ((growG (canR a4) (kidR (nI 1000000) a4 a5) tr a1 1001).length ≤ 1000 → r9 = nI (growG (canR a4) (kidR (nI 1000000) a4 a5) tr a1 1001).length ∧ u.1 = true ∧ u.2.1 = nI (growG (canR a4) (kidR (nI 1000000) a4 a5) tr a1 1001).length ∧ u.2.2.1 = nI pl ∧ u.2.2.2.1 = livL tr a4 (mks (growG (canR a4) (kidR (nI 1000000) a4 a5) tr a1 1001)) (nI 0) ∧ u.2.2.2.2.1 = nI (limL (mks (growG (canR a4) (kidR (nI 1000000) a4 a5) tr a1 1001)) (mks (growG (canR a4) (kidR (nI 1000000) a4 a5) tr a1 1001)).length).length ∧ rowsV u.2.2.2.2.2.1 0 (mks (growG (canR a4) (kidR (nI 1000000) a4 a5) tr a1 1001)) ∧ idxV u.2.2.2.2.2.2.2.1 (limL (mks (growG (canR a4) (kidR (nI 1000000) a4 a5) tr a1 1001)) (mks (growG (canR a4) (kidR (nI 1000000) a4 a5) tr a1 1001)).length)) ∧ (¬ (growG (canR a4) (kidR (nI 1000000) a4 a5) tr a1 1001).length ≤ 1000 → r9 = -1 ∧ u.1 = false)) rb v) : ra = rb ∧ v.1 = u.1 ∧ treR u.1 (nI pl) u.2.2.1 u.2.2.2.1 u.2.2.2.2.1 u.2.2.2.2.2.2.2 v.2.2.1 v.2.1 v.2.2.2.1 v.2.2.2.2.1 v.2.2.2.2.2.1 v.2.2.2.2.2.2.2.1 := by
  obtain ⟨hpl, htr, ⟨fi, h1⟩, ⟨tg, h2⟩, T, Gv, h3⟩ := hN
  obtain ⟨e1, e2⟩ := tree_eq (tr := tr) hpl htr (fun t ht q hq => h3 t (by omega) q hq) h1
  obtain ⟨⟨hu1, hu2⟩, hu3⟩ := hu
  obtain ⟨hv1, hv2⟩ := hv
  by_cases c : (growC pl (canP pl tk) (kidP pl (nI 1000000000) tk gv) tr f2 1001).length ≤ 1000
  · obtain ⟨p1, p2, p3, p4, p5, p6⟩ := hu1 c
    obtain ⟨q1, q2, q3, q4, q5, q6, q7, q8⟩ := hv1 (by rw [← e1]; exact c)
    obtain ⟨x1, x2⟩ := e2 c
    refine ⟨?_, by rw [p1, q2], fun _ => ⟨pl, mks (growC pl (canP pl tk) (kidP pl (nI 1000000000) tk gv) tr f2 1001), mks (growG (canR a4) (kidR (nI 1000000) a4 a5) tr a1 1001), glL pl (mks (growC pl (canP pl tk) (kidP pl (nI 1000000000) tk gv) tr f2 1001)) (mks (growC pl (canP pl tk) (kidP pl (nI 1000000000) tk gv) tr f2 1001)).length, firC pl (canP pl tk) (kidP pl (nI 1000000000) tk gv) tr f2 1001, hpl, rfl, q4, p3, ?_, ?_, p4, q7, p6, ?_, p5, ?_⟩⟩
    · rw [hu3, if_pos p1, p2, q1, e1]
    · rw [q6, x1]
    · rw [q3, mks_len]
    · rw [x1]; exact q8
    · rw [q5]; exact x2
  · have p1 := hu2 c
    obtain ⟨q1, q2⟩ := hv2 (by rw [← e1]; exact c)
    refine ⟨?_, by rw [p1, q2], fun h => ?_⟩
    · rw [hu3, if_neg (by rw [p1]; decide), q1]
    · rw [p1] at h; exact absurd h (by decide)
end NR

def LI (D : va_G) (A : Nat → Prop) (cI cJ cZ cA : ClassId) (s : State) (b rt rg sa ta r : Nat → Nat) (x0 x1 cn : Nat) (H : Heap) (locs : List Loc) (k n : Nat) : Prop := ∃ (q8 q10 pl tr l8 l10 : Nat) (f2 f3 fn : Nat → Int32) (tk gv : Nat → Nat → Int32) (e0 e1 e5 e9 e12 n8 n10 : Int32) (e4 : Int64) (c2 c3 c11 : Nat → Int32) (t6 t7 p8 p10 : Nat → Int64) (g : Bool) (g1 g2 g3 : Int32) (h4 h5 h6 h7 h8 : Nat → Int32) (i7 i8 i9 i13 i15 i18 i19 i22 i23 : Int32) (a1 a2 a4 a5 a6 a10 a11 a12 a14 a16 a20 a21 a24 a25 a26 : Nat → Int32), va_P D vwCl (nw cI cA b rt rg (nI pl) (nI tr) f2 f3 tk gv ++ ([(x0, .inr (4, [.ref (b 0), .ref x1, .ref (sa 0), .ref (ta 0)])), (x1, .inl (cI, 5, .inl fn))] ++ (sw cI cJ sa e0 e1 e4 e5 e9 e12 c2 c3 t6 t7 c11 n8 q8 l8 p8 n10 q10 l10 p10 ++ (tw cI cZ ta (bI g) g1 g2 g3 h4 h5 h6 h7 h8 ++ (mw cI r (nI pl) (nI tr) i7 i8 i9 i13 i15 (bI g) i18 i19 i22 i23 a1 a2 a4 a5 a6 a10 a11 a12 a14 a16 a20 a21 a24 a25 a26))))) H ∧ va_D A (nw cI cA b rt rg (nI pl) (nI tr) f2 f3 tk gv ++ ([(x0, .inr (4, [.ref (b 0), .ref x1, .ref (sa 0), .ref (ta 0)])), (x1, .inl (cI, 5, .inl fn))] ++ (sw cI cJ sa e0 e1 e4 e5 e9 e12 c2 c3 t6 t7 c11 n8 q8 l8 p8 n10 q10 l10 p10 ++ (tw cI cZ ta (bI g) g1 g2 g3 h4 h5 h6 h7 h8 ++ (mw cI r (nI pl) (nI tr) i7 i8 i9 i13 i15 (bI g) i18 i19 i22 i23 a1 a2 a4 a5 a6 a10 a11 a12 a14 a16 a20 a21 a24 a25 a26))))) ∧ va_S A s.heap H locs ∧ netR pl tr f2 f3 tk gv a1 a2 a4 a5 ∧ vecR pl (20 + 5 * cn) fn a6 ∧ seaR e0 e1 c2 c3 i7 i8 a10 a16 ∧ treR g g1 g3 h4 h5 h8 i18 i19 i22 i23 a20 a24 ∧ pileR l8 l10 k n
def LC (p : Program) (s : State) (m : MethodId) (c : Code) (args : Array Value) (A : Nat → Prop) (D : va_G) (cI cJ cZ cA : ClassId) (sb L : Nat) (xs : Nat → Int32) : Prop := p.tables.exec = Jvm.exec ∧ c.code = cL_law ∧ c.maxLocals = 4 ∧ s.vm.findClass RL = some m.cls ∧ (∀ w ∈ wsL_law, w.before args s = true) ∧ va_K D vwCl (tysC cI cJ cZ cA) s ∧ va_X sb L xs s s.heap ∧ sb < s.heap.size ∧ ¬ A sb ∧ (∀ q, s.heap.size ≤ q → A q) ∧ L ≤ 2560
