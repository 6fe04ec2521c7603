/-! Longs by their bits. -/
theorem lb_and (x y : Int64) (k : Nat) : lb (x &&& y) k = (lb x k && lb y k) := by unfold lb; rw [Int64.toBitVec_and, BitVec.getLsbD_and]
theorem lb_or (x y : Int64) (k : Nat) : lb (x ||| y) k = (lb x k || lb y k) := by unfold lb; rw [Int64.toBitVec_or, BitVec.getLsbD_or]
theorem lb_xor (x y : Int64) (k : Nat) : lb (x ^^^ y) k = (lb x k != lb y k) := by unfold lb; rw [Int64.toBitVec_xor, BitVec.getLsbD_xor]
theorem lb_zero (k : Nat) : lb 0 k = false := by unfold lb; simp
theorem lb_m1 {k : Nat} (h : k < 64) : lb (-1) k = true := by
  have key : ∀ k, k < 64 → lb (-1) k = true := by decide +kernel
  exact key k h
theorem lb_ge {x : Int64} {k : Nat} (h : 64 ≤ k) : lb x k = false := BitVec.getLsbD_of_ge _ _ h
theorem lb_ext {x y : Int64} (h : ∀ k, k < 64 → lb x k = lb y k) : x = y := Int64.toBitVec_inj.mp (BitVec.eq_of_getLsbD_eq fun i hi => h i hi)
theorem lb_not {x : Int64} {k : Nat} (h : k < 64) : lb (x ^^^ -1) k = !lb x k := by rw [lb_xor, lb_m1 h]; cases lb x k <;> rfl
theorem lb_neg (x : Int64) : decide (x < 0) = lb x 63 := by
  have h1 : x.toBitVec.msb = lb x 63 := by rw [BitVec.msb_eq_getLsbD_last]; rfl
  rw [← h1, BitVec.msb_eq_toInt]
  congr 1
  rw [Int64.lt_iff_toInt_lt]
  rfl
theorem lb_nz {x : Int64} : x ≠ 0 ↔ ∃ k, k < 64 ∧ lb x k = true := by
  constructor
  · intro h
    apply Classical.byContradiction
    intro hn
    apply h
    apply lb_ext
    intro k hk
    rw [lb_zero]
    cases hx : lb x k with
    | false => rfl
    | true => exact absurd ⟨k, hk, hx⟩ hn
  · intro ⟨k, hk, h⟩ hz
    rw [hz, lb_zero] at h
    cases h
theorem lb_lOrg {k : Nat} (h : k < 64) : lb lOrg k = decide (k < 63) := by
  have key : ∀ k, k < 64 → lb lOrg k = decide (k < 63) := by decide +kernel
  exact key k h
theorem lb_lIns {k : Nat} (h : k < 64) : lb lIns k = decide (k = 63) := by
  have key : ∀ k, k < 64 → lb lIns k = decide (k = 63) := by decide +kernel
  exact key k h
theorem lb_bit {a k : Nat} (ha : a < 64) (h : k < 64) : lb (lbit a) k = decide (k = a) := by
  have key : ∀ a, a < 64 → ∀ k, k < 64 → lb (lbit a) k = decide (k = a) := by decide +kernel
  exact key a ha k h
theorem lbit_java {a : Nat} (ha : a < 64) : (1 : Int64) <<< ((nI a).toInt64 &&& 63) = lbit a := by
  have key : ∀ a, a < 64 → (1 : Int64) <<< ((nI a).toInt64 &&& 63) = lbit a := by decide +kernel
  exact key a ha
theorem and_bit {x : Int64} {a : Nat} (ha : a < 64) : x &&& lbit a ≠ 0 ↔ lb x a = true := by
  rw [lb_nz]
  constructor
  · intro ⟨k, hk, h⟩
    rw [lb_and, lb_bit ha hk] at h
    simp only [Bool.and_eq_true, decide_eq_true_eq] at h
    rw [← h.2]
    exact h.1
  · intro h
    exact ⟨a, ha, by rw [lb_and, lb_bit ha ha, h]; simp⟩
theorem bit_nz {x : Int64} {a : Nat} (ha : a < 64) : (x &&& lbit a = 0) ↔ lb x a = false := by
  have := and_bit (x := x) ha
  constructor
  · intro h
    cases hx : lb x a with
    | false => rfl
    | true => exact absurd h (this.mpr hx)
  · intro h
    apply Classical.byContradiction
    intro hn
    rw [this.mp hn] at h
    cases h
