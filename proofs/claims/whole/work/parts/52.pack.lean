theorem wb_tb (n : Nat) : (lN n).toBitVec = BitVec.ofNat 64 n := rfl
theorem wb_inj {a b : Int64} (h : a.toBitVec = b.toBitVec) : a = b := Int64.toBitVec_inj.mp h
theorem wb_tn {n : Nat} (h : n < 2 ^ 64) : (lN n).toBitVec.toNat = n := by rw [wb_tb, BitVec.toNat_ofNat, Nat.mod_eq_of_lt h]
theorem wb_of (x : Int64) : ∃ n, n < 2 ^ 64 ∧ x = lN n := ⟨x.toBitVec.toNat, x.toBitVec.isLt, wb_inj (by rw [wb_tb]; simp)⟩
theorem wb_of32 (x : Int32) : ∃ n, n < 2 ^ 32 ∧ x = nI n := ⟨x.toBitVec.toNat, x.toBitVec.isLt, Int32.toBitVec_inj.mp (by show _ = BitVec.ofNat 32 _; simp)⟩
theorem wb_c : ∀ k, k < 64 → ((nI k).toInt64 &&& 63) = lN k := by decide +kernel
theorem wb_cu : ∀ k, k < 64 → ((nI k).toInt64.toUInt64 &&& Int64.toUInt64 63) = UInt64.ofNat k := by decide +kernel
theorem wb_sm : ∀ k, k < 64 → (BitVec.ofNat 64 k).smod 64 = BitVec.ofNat 64 k := by decide +kernel
theorem wb_pw {a b : Nat} (h : a ≤ b) : 2 ^ b = 2 ^ a * 2 ^ (b - a) := by rw [← Nat.pow_add]; congr 1; omega
theorem wb_lt2 {a b : Nat} (h : a < b) : 2 ^ a < 2 ^ b := Nat.pow_lt_pow_right (by decide) h
theorem wb_mod (n : Nat) : lN n = lN (n % 2 ^ 64) := wb_inj (by rw [wb_tb, wb_tb]; apply BitVec.eq_of_toNat_eq; rw [BitVec.toNat_ofNat, BitVec.toNat_ofNat, Nat.mod_mod])
theorem wb_shr {n k : Nat} (hn : n < 2 ^ 64) (hk : k < 64) : ((lN n).toUInt64 >>> ((nI k).toInt64.toUInt64 &&& Int64.toUInt64 63)).toInt64 = lN (n / 2 ^ k) := by
  rw [wb_cu k hk]
  apply wb_inj
  apply BitVec.eq_of_toNat_eq
  show ((lN n).toUInt64 >>> UInt64.ofNat k).toNat = (BitVec.ofNat 64 _).toNat
  have h1 : (UInt64.ofNat k).toNat = k := by
    show (BitVec.ofNat 64 k).toNat = k
    rw [BitVec.toNat_ofNat, Nat.mod_eq_of_lt (by omega)]
  have h2 : (lN n).toUInt64.toNat = n := wb_tn hn
  rw [UInt64.toNat_shiftRight, h1, h2, Nat.mod_eq_of_lt hk, Nat.shiftRight_eq_div_pow, BitVec.toNat_ofNat, Nat.mod_eq_of_lt (Nat.lt_of_le_of_lt (Nat.div_le_self _ _) hn)]
theorem wb_shl (n : Nat) {k : Nat} (hk : k < 64) : lN n <<< ((nI k).toInt64 &&& 63) = lN (n * 2 ^ k) := by
  rw [wb_c k hk]
  apply wb_inj
  rw [Int64.toBitVec_shiftLeft, wb_tb, wb_tb, wb_tb, wb_sm k hk]
  apply BitVec.eq_of_toNat_eq
  rw [BitVec.shiftLeft_eq', BitVec.toNat_shiftLeft, BitVec.toNat_ofNat, BitVec.toNat_ofNat, BitVec.toNat_ofNat, Nat.mod_eq_of_lt (show k < 2 ^ 64 by omega), Nat.shiftLeft_eq, Nat.mul_mod, Nat.mod_mod, ← Nat.mul_mod]
theorem wb_and {a b : Nat} (ha : a < 2 ^ 64) (hb : b < 2 ^ 64) : lN a &&& lN b = lN (a &&& b) := by
  apply wb_inj
  rw [Int64.toBitVec_and, wb_tb, wb_tb, wb_tb]
  apply BitVec.eq_of_toNat_eq
  rw [BitVec.toNat_and, BitVec.toNat_ofNat, BitVec.toNat_ofNat, BitVec.toNat_ofNat, Nat.mod_eq_of_lt ha, Nat.mod_eq_of_lt hb, Nat.mod_eq_of_lt (Nat.and_lt_two_pow _ hb)]
theorem wb_or {a b : Nat} (ha : a < 2 ^ 64) (hb : b < 2 ^ 64) : lN a ||| lN b = lN (a ||| b) := by
  apply wb_inj
  rw [Int64.toBitVec_or, wb_tb, wb_tb, wb_tb]
  apply BitVec.eq_of_toNat_eq
  rw [BitVec.toNat_or, BitVec.toNat_ofNat, BitVec.toNat_ofNat, BitVec.toNat_ofNat, Nat.mod_eq_of_lt ha, Nat.mod_eq_of_lt hb, Nat.mod_eq_of_lt (Nat.or_lt_two_pow ha hb)]
def bt (x : Int32) (i : Nat) : Bool := x.toBitVec.getLsbD i
theorem b_ext {x y : Int32} (h : ∀ i, i < 32 → bt x i = bt y i) : x = y := Int32.toBitVec_inj.mp (BitVec.eq_of_getLsbD_eq (fun i hi => h i hi))
theorem b_or (x y : Int32) (i : Nat) : bt (x ||| y) i = (bt x i || bt y i) := by unfold bt; rw [Int32.toBitVec_or, BitVec.getLsbD_or]
theorem b_and (x y : Int32) (i : Nat) : bt (x &&& y) i = (bt x i && bt y i) := by unfold bt; rw [Int32.toBitVec_and, BitVec.getLsbD_and]
theorem b_xor (x y : Int32) (i : Nat) : bt (x ^^^ y) i = (bt x i ^^ bt y i) := by unfold bt; rw [Int32.toBitVec_xor, BitVec.getLsbD_xor]
theorem b_big {x : Int32} {i : Nat} (h : 32 ≤ i) : bt x i = false := BitVec.getLsbD_of_ge _ _ h
theorem b_255 (i : Nat) : bt 255 i = decide (i < 8) := by
  rcases Nat.lt_or_ge i 32 with h | h
  · exact (by decide +kernel : ∀ i, i < 32 → bt 255 i = decide (i < 8)) i h
  · rw [b_big h, decide_eq_false (by omega)]
theorem b_65535 (i : Nat) : bt 65535 i = decide (i < 16) := by
  rcases Nat.lt_or_ge i 32 with h | h
  · exact (by decide +kernel : ∀ i, i < 32 → bt 65535 i = decide (i < 16)) i h
  · rw [b_big h, decide_eq_false (by omega)]
theorem b_m1 : ∀ i, i < 32 → bt (-1) i = true := by decide +kernel
theorem b_0 (i : Nat) : bt 0 i = false := BitVec.getLsbD_zero
theorem s_l : ∀ n, n < 32 → ((nI n &&& 31).toBitVec.smod 32).toNat = n := by decide +kernel
theorem s_u : ∀ n, n < 32 → (((nI n).toUInt32 &&& Int32.toUInt32 31).toBitVec % 32).toNat = n := by decide +kernel
theorem b_shl (n : Nat) (hn : n < 32) (x : Int32) {i : Nat} (hi : i < 32) : bt (x <<< (nI n &&& 31)) i = (decide (n ≤ i) && bt x (i - n)) := by
  unfold bt
  rw [Int32.toBitVec_shiftLeft]
  show (x.toBitVec <<< ((nI n &&& 31).toBitVec.smod 32).toNat).getLsbD i = _
  rw [s_l n hn, BitVec.getLsbD_shiftLeft]
  rcases Nat.lt_or_ge i n with h | h
  · simp [h, Nat.not_le.mpr h]
  · simp [hi, h, Nat.not_lt.mpr h]
theorem b_ushr (n : Nat) (hn : n < 32) (x : Int32) (i : Nat) : bt ((x.toUInt32 >>> ((nI n).toUInt32 &&& Int32.toUInt32 31)).toInt32) i = bt x (n + i) := by
  show (x.toUInt32 >>> ((nI n).toUInt32 &&& Int32.toUInt32 31)).toBitVec.getLsbD i = x.toUInt32.toBitVec.getLsbD (n + i)
  rw [UInt32.toBitVec_shiftRight]
  show (x.toUInt32.toBitVec >>> (((nI n).toUInt32 &&& Int32.toUInt32 31).toBitVec % 32).toNat).getLsbD i = _
  rw [s_u n hn, BitVec.getLsbD_ushiftRight]
theorem b_sshr (n : Nat) (hn : n < 32) (x : Int32) {i : Nat} (hi : i < 32) : bt (x >>> (nI n &&& 31)) i = if n + i < 32 then bt x (n + i) else bt x 31 := by
  unfold bt
  rw [Int32.toBitVec_shiftRight]
  show (x.toBitVec.sshiftRight ((nI n &&& 31).toBitVec.smod 32).toNat).getLsbD i = _
  rw [s_l n hn, BitVec.getLsbD_sshiftRight, BitVec.msb_eq_getLsbD_last]
  simp [hi]
/-! PACKED: a marking of five places in one number, ten bits a place -/
def pq_m (v : Nat → Nat) : Nat := v 0 + 1024 * (v 1 + 1024 * (v 2 + 1024 * (v 3 + 1024 * v 4)))
theorem pq_and2 {a b c d : Nat} (hb : b < 1024) (hd : d < 1024) : (b + 1024 * a) &&& (d + 1024 * c) = (b &&& d) + 1024 * (a &&& c) := by
  have e : (1024 : Nat) = 2 ^ 10 := by decide
  have hb' : b < 2 ^ 10 := by omega
  have hd' : d < 2 ^ 10 := by omega
  have hbd : b &&& d < 2 ^ 10 := Nat.and_lt_two_pow _ hd'
  apply Nat.eq_of_testBit_eq
  intro i
  rw [Nat.add_comm b, Nat.add_comm d, Nat.add_comm (b &&& d), e, Nat.testBit_and, Nat.testBit_two_pow_mul_add a hb', Nat.testBit_two_pow_mul_add c hd', Nat.testBit_two_pow_mul_add _ hbd]
  split
  · rw [Nat.testBit_and]
  · rw [Nat.testBit_and]
theorem pq_or2 {a b c d : Nat} (hb : b < 1024) (hd : d < 1024) : (b + 1024 * a) ||| (d + 1024 * c) = (b ||| d) + 1024 * (a ||| c) := by
  have e : (1024 : Nat) = 2 ^ 10 := by decide
  have hb' : b < 2 ^ 10 := by omega
  have hd' : d < 2 ^ 10 := by omega
  have hbd : b ||| d < 2 ^ 10 := Nat.or_lt_two_pow hb' hd'
  apply Nat.eq_of_testBit_eq
  intro i
  rw [Nat.add_comm b, Nat.add_comm d, Nat.add_comm (b ||| d), e, Nat.testBit_or, Nat.testBit_two_pow_mul_add a hb', Nat.testBit_two_pow_mul_add c hd', Nat.testBit_two_pow_mul_add _ hbd]
  split
  · rw [Nat.testBit_or]
  · rw [Nat.testBit_or]
theorem pq_and {u v : Nat → Nat} (hu : ∀ p, p < 5 → u p < 1024) (hv : ∀ p, p < 5 → v p < 1024) : pq_m u &&& pq_m v = pq_m (fun p => u p &&& v p) := by
  unfold pq_m
  rw [pq_and2 (hu 0 (by omega)) (hv 0 (by omega)), pq_and2 (hu 1 (by omega)) (hv 1 (by omega)), pq_and2 (hu 2 (by omega)) (hv 2 (by omega)), pq_and2 (hu 3 (by omega)) (hv 3 (by omega))]
theorem pq_or {u v : Nat → Nat} (hu : ∀ p, p < 5 → u p < 1024) (hv : ∀ p, p < 5 → v p < 1024) : pq_m u ||| pq_m v = pq_m (fun p => u p ||| v p) := by
  unfold pq_m
  rw [pq_or2 (hu 0 (by omega)) (hv 0 (by omega)), pq_or2 (hu 1 (by omega)) (hv 1 (by omega)), pq_or2 (hu 2 (by omega)) (hv 2 (by omega)), pq_or2 (hu 3 (by omega)) (hv 3 (by omega))]
theorem pq_lt {u : Nat → Nat} (hu : ∀ p, p < 5 → u p < 1024) : pq_m u < 2 ^ 50 := by
  have := hu 0 (by omega); have := hu 1 (by omega); have := hu 2 (by omega); have := hu 3 (by omega); have := hu 4 (by omega)
  unfold pq_m; omega
theorem pq_inj {u v : Nat → Nat} (hu : ∀ p, p < 5 → u p < 1024) (hv : ∀ p, p < 5 → v p < 1024) (h : pq_m u = pq_m v) : ∀ p, p < 5 → u p = v p := by
  have := hu 0 (by omega); have := hu 1 (by omega); have := hu 2 (by omega); have := hu 3 (by omega); have := hu 4 (by omega)
  have := hv 0 (by omega); have := hv 1 (by omega); have := hv 2 (by omega); have := hv 3 (by omega); have := hv 4 (by omega)
  unfold pq_m at h
  intro p hp
  rcases (show p = 0 ∨ p = 1 ∨ p = 2 ∨ p = 3 ∨ p = 4 by omega) with rfl | rfl | rfl | rfl | rfl <;> omega
theorem pq_congr {u v : Nat → Nat} (h : ∀ p, p < 5 → u p = v p) : pq_m u = pq_m v := by
  unfold pq_m
  rw [h 0 (by omega), h 1 (by omega), h 2 (by omega), h 3 (by omega), h 4 (by omega)]
theorem pq_b : ∀ x, x < 512 → x ||| 512 = x + 512 := by decide +kernel
theorem pq_c : ∀ x, x < 1024 → x &&& 512 = if 512 ≤ x then 512 else 0 := by decide +kernel
theorem pq_d : ∀ x, x < 1024 → x &&& 511 = x % 512 := by decide +kernel
def pq_B : Nat := pq_m (fun _ => 512)
theorem pq_orB {u : Nat → Nat} (hu : ∀ p, p < 5 → u p < 512) : pq_m u ||| pq_B = pq_m (fun p => u p + 512) := by
  unfold pq_B
  rw [pq_or (fun p hp => by have := hu p hp; omega) (fun _ _ => by omega)]
  exact pq_congr (fun p hp => pq_b _ (hu p hp))
theorem pq_sub {u v : Nat → Nat} (h : ∀ p, p < 5 → v p ≤ u p) : pq_m u - pq_m v = pq_m (fun p => u p - v p) ∧ pq_m v ≤ pq_m u := by
  have := h 0 (by omega); have := h 1 (by omega); have := h 2 (by omega); have := h 3 (by omega); have := h 4 (by omega)
  simp only [pq_m]
  constructor <;> omega
theorem pq_add (u v : Nat → Nat) : pq_m u + pq_m v = pq_m (fun p => u p + v p) := by
  simp only [pq_m]; omega
/-- the borrow test: is u at least v at each place -/
theorem pq_ge {u v : Nat → Nat} (hu : ∀ p, p < 5 → u p < 512) (hv : ∀ p, p < 5 → v p < 512) : ((pq_m u ||| pq_B) - pq_m v) &&& pq_B = pq_B ↔ ∀ p, p < 5 → v p ≤ u p := by
  rw [pq_orB hu, (pq_sub (fun p hp => by have := hv p hp; omega)).1]
  unfold pq_B
  rw [pq_and (fun p hp => by have := hu p hp; omega) (fun _ _ => by omega)]
  constructor
  · intro h p hp
    have h1 := pq_inj (fun p hp => by
      show (u p + 512 - v p) &&& 512 < 1024
      exact Nat.and_lt_two_pow (n := 10) _ (by decide)) (fun _ _ => by omega) h p hp
    have h2 : (u p + 512 - v p) &&& 512 = 512 := h1
    rw [pq_c _ (by have := hu p hp; omega)] at h2
    split at h2
    · omega
    · omega
  · intro h
    refine pq_congr (fun p hp => ?_)
    show (u p + 512 - v p) &&& 512 = 512
    rw [pq_c _ (by have := hu p hp; omega), if_pos (by have := h p hp; omega)]
/-- what lessened does -/
theorem pq_less {u v : Nat → Nat} (hu : ∀ p, p < 5 → u p < 512) (hv : ∀ p, p < 5 → v p < 512) :
    let d := (pq_m u ||| pq_B) - pq_m v
    let e := d &&& pq_B
    d &&& (e - e / 2 ^ 9) = pq_m (fun p => u p - v p) ∧ e / 2 ^ 9 ≤ e := by
  intro d e
  have hd : d = pq_m (fun p => u p + 512 - v p) := by
    show (pq_m u ||| pq_B) - pq_m v = _
    rw [pq_orB hu, (pq_sub (fun p hp => by have := hv p hp; omega)).1]
  have he : e = pq_m (fun p => if v p ≤ u p then 512 else 0) := by
    show d &&& pq_B = _
    rw [hd]
    unfold pq_B
    rw [pq_and (fun p hp => by have := hu p hp; omega) (fun _ _ => by omega)]
    refine pq_congr (fun p hp => ?_)
    show (u p + 512 - v p) &&& 512 = _
    rw [pq_c _ (by have := hu p hp; omega)]
    by_cases c : v p ≤ u p
    · rw [if_pos c, if_pos (by omega)]
    · rw [if_neg c, if_neg (by omega)]
  have he9 : e / 2 ^ 9 = pq_m (fun p => if v p ≤ u p then 1 else 0) := by
    rw [he]
    have h0 : ∀ a b : Nat, pq_m (fun p => if v p ≤ u p then 512 else 0) = 512 * pq_m (fun p => if v p ≤ u p then 1 else 0) := by
      intro _ _
      have e : ∀ p, (if v p ≤ u p then 512 else 0) = 512 * (if v p ≤ u p then 1 else 0) := fun p => by split <;> omega
      rw [pq_congr (fun p _ => e p)]
      simp only [pq_m]
      omega
    rw [h0 0 0]
    omega
  have hk : e - e / 2 ^ 9 = pq_m (fun p => if v p ≤ u p then 511 else 0) := by
    rw [he9, he]
    rw [(pq_sub (fun p _ => by split <;> omega)).1]
    refine pq_congr (fun p _ => ?_)
    split <;> omega
  refine ⟨?_, Nat.div_le_self _ _⟩
  rw [hk, hd, pq_and (fun p hp => by have := hu p hp; omega) (fun p _ => by split <;> omega)]
  refine pq_congr (fun p hp => ?_)
  by_cases c : v p ≤ u p
  · rw [if_pos c, pq_d _ (by have := hu p hp; omega)]
    have := hu p hp
    omega
  · rw [if_neg c, Nat.and_zero]
    omega
/-! packed numbers as Int64 -/
def pkV (v : Nat → Nat) : Int64 := lN (pq_m v)
theorem pkV_cg {u v : Nat → Nat} (h : ∀ p, p < 5 → u p = v p) : pkV u = pkV v := by unfold pkV; rw [pq_congr h]
theorem pq_B_eq : pq_B = 563500246630912 := by decide
theorem BB_eq : BB = lN pq_B := by rw [pq_B_eq]; rfl
theorem pq_lt64 {u : Nat → Nat} (hu : ∀ p, p < 5 → u p < 1024) : pq_m u < 2 ^ 64 := Nat.lt_of_lt_of_le (pq_lt hu) (by decide)
theorem pk_dif {u v : Nat → Nat} (hu : ∀ p, p < 5 → u p < 512) (hv : ∀ p, p < 5 → v p < 512) : (pkV u ||| BB) - pkV v = lN ((pq_m u ||| pq_B) - pq_m v) ∧ (pq_m u ||| pq_B) - pq_m v < 2 ^ 64 := by
  have h1 : pq_m u < 2 ^ 64 := pq_lt64 (fun p hp => by have := hu p hp; omega)
  have h2 : pq_B < 2 ^ 64 := by rw [pq_B_eq]; decide
  have h3 : pq_m u ||| pq_B < 2 ^ 64 := Nat.or_lt_two_pow h1 h2
  have h4 : pq_m v ≤ (pq_m u ||| pq_B) := by
    rw [pq_orB hu]
    exact (pq_sub (fun p hp => by have := hv p hp; omega)).2
  refine ⟨?_, by omega⟩
  unfold pkV
  rw [BB_eq, wb_or h1 h2, lN_sub h4]
theorem pk_atl {u v : Nat → Nat} (hu : ∀ p, p < 5 → u p < 512) (hv : ∀ p, p < 5 → v p < 512) : atlR (pkV u) (pkV v) = true ↔ ∀ p, p < 5 → v p ≤ u p := by
  obtain ⟨h1, h2⟩ := pk_dif hu hv
  have h3 : pq_B < 2 ^ 64 := by rw [pq_B_eq]; decide
  unfold atlR
  rw [decide_eq_true_eq, h1, BB_eq, wb_and h2 h3, pk_lEQ (Nat.lt_of_le_of_lt Nat.and_le_right (by rw [pq_B_eq]; decide)) (by rw [pq_B_eq]; decide)]
  exact pq_ge hu hv
theorem pk_lss {u v : Nat → Nat} (hu : ∀ p, p < 5 → u p < 512) (hv : ∀ p, p < 5 → v p < 512) : lssR (pkV u) (pkV v) = pkV (fun p => u p - v p) := by
  obtain ⟨h1, h2⟩ := pk_dif hu hv
  have h3 : pq_B < 2 ^ 64 := by rw [pq_B_eq]; decide
  obtain ⟨h4, h5⟩ := pq_less hu hv
  have h6 : ((pq_m u ||| pq_B) - pq_m v) &&& pq_B < 2 ^ 64 := Nat.lt_of_le_of_lt Nat.and_le_right h3
  unfold lssR
  rw [h1, BB_eq, wb_and h2 h3, wb_shr h6 (by decide : 9 < 64), lN_sub h5, wb_and h2 (by omega), h4]
  rfl
theorem pkV_add (u v : Nat → Nat) : pkV u + pkV v = pkV (fun p => u p + v p) := by
  unfold pkV
  rw [lN_add, pq_add]
theorem pkV_sub {u v : Nat → Nat} (h : ∀ p, p < 5 → v p ≤ u p) : pkV u - pkV v = pkV (fun p => u p - v p) := by
  unfold pkV
  rw [lN_sub (pq_sub h).2, (pq_sub h).1]
theorem pq_or10 {a b : Nat} (hb : b < 1024) : a * 2 ^ 10 ||| b = b + 1024 * a := by
  have h := pq_or2 (a := a) (b := 0) (c := 0) (d := b) (by omega) hb
  rw [Nat.zero_or, Nat.or_zero] at h
  rw [← show (0 + 1024 * a) = a * 2 ^ 10 by omega, ← h]
  rfl
theorem pkO_s {f : Nat → Int32} {k n a : Nat} (h : pkO f k = lN a) (hf : f (4 - k) = nI n) (hn : n < 512) (ha : a < 2 ^ 50) : pkO f (k + 1) = lN (n + 1024 * a) := by
  show (pkO f k <<< ((nI 10).toInt64 &&& 63)) ||| (f (4 - k)).toInt64 = _
  rw [h, hf, wb_shl _ (by decide : 10 < 64), nI_l (by omega), wb_or (by omega) (by omega), pq_or10 (by omega)]
theorem pkO_is {f : Nat → Int32} {v : Nat → Nat} (h : ∀ q, q < 5 → f q = nI (v q) ∧ v q < 512) : pkO f 5 = pkV v := by
  have b0 := h 0 (by omega)
  have b1 := h 1 (by omega)
  have b2 := h 2 (by omega)
  have b3 := h 3 (by omega)
  have b4 := h 4 (by omega)
  have s0 : pkO f 0 = lN 0 := rfl
  have s1 := pkO_s s0 b4.1 b4.2 (by omega)
  have s2 := pkO_s s1 b3.1 b3.2 (by omega)
  have s3 := pkO_s s2 b2.1 b2.2 (by omega)
  have s4 := pkO_s s3 b1.1 b1.2 (by omega)
  have s5 := pkO_s s4 b0.1 b0.2 (by omega)
  rw [s5]
  unfold pkV pq_m
  rfl
