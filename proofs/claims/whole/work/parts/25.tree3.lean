/-! what is read off the tree -/
def tolM (om x : Int32) : Int32 := if x = om then -2 else x
def mxM (Ms : List Rw) (j : Nat) : Int32 := Ms.foldl (fun a x => if x j ≤ a then a else x j) (nI 0)
theorem mxM_s {Ms : List Rw} {k j : Nat} {x : Rw} (hx : Ms[k]? = some x) : mxM (Ms.take (k + 1)) j = if x j ≤ mxM (Ms.take k) j then mxM (Ms.take k) j else x j := by
  unfold mxM
  rw [take_s hx, List.foldl_append]
  rfl
def liveM (v : Int32) (x : Int32) : Bool := inB x (nI 6) && decide ((v >>> (x &&& 31)) &&& nI 1 = nI 1)
theorem cov_end {f g : Nat → Int32} {Ms : List Rw} {t : Bool} {P0 : Prop} {i0 : Decidable P0} (hX : rowsV f 0 Ms) (ht : t = true ↔ (P0 ∧ ∃ q, q < Ms.length ∧ tpB f (5 * q) g 0 = true)) : t = (decide P0 && Ms.any (fun x => tp5 x g)) := by
  refine bb_eq ht ?_
  rw [Bool.and_eq_true, List.any_eq_true]
  constructor
  · rintro ⟨h1, x, hx, h2⟩
    obtain ⟨k, hk⟩ := List.mem_iff_getElem?.mp hx
    have hr : ∀ q, q < 5 → f (5 * k + q) = x q := fun q hq => by have := hX k x hk q hq; rw [Nat.zero_add] at this; exact this
    exact ⟨of_decide_eq_true h1, k, lt_of_some hk, by rw [tpB_row hr (fun q _ => by rw [Nat.zero_add])]; exact h2⟩
  · rintro ⟨h1, k, hk, h2⟩
    obtain ⟨x, hx, hr⟩ := rowsV_at0 hX hk
    rw [tpB_row hr (v := g) (fun q _ => by rw [Nat.zero_add])] at h2
    exact ⟨decide_eq_true h1, x, List.mem_of_getElem? hx, h2⟩
