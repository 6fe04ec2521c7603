/-! Comparisons and bytes, as the methods compute them, in numbers. -/
theorem c1_lt (n : Nat) (h : n < 2 ^ 31) : qcc1 .lt (nI n) = false := by simp only [qcc1, decide_eq_false_iff_not]; exact nI_pos h
theorem c2_ge {a b : Nat} (ha : a < 2 ^ 31) (hb : b < 2 ^ 31) : qcc2 .ge (nI a) (nI b) = decide (b ≤ a) := by simp only [qcc2, nI_leI hb ha]
theorem c2_lt {a b : Nat} (ha : a < 2 ^ 31) (hb : b < 2 ^ 31) : qcc2 .lt (nI a) (nI b) = decide (a < b) := by simp only [qcc2, nI_ltI ha hb]
theorem c2_gt {a b : Nat} (ha : a < 2 ^ 31) (hb : b < 2 ^ 31) : qcc2 .gt (nI a) (nI b) = decide (b < a) := by simp only [qcc2, nI_ltI hb ha]
theorem c2_le {a b : Nat} (ha : a < 2 ^ 31) (hb : b < 2 ^ 31) : qcc2 .le (nI a) (nI b) = decide (a ≤ b) := by simp only [qcc2, nI_leI ha hb]
theorem c2_eq {a b : Nat} (ha : a < 2 ^ 31) (hb : b < 2 ^ 31) : qcc2 .eq (nI a) (nI b) = decide (a = b) := by simp only [qcc2, nI_eq ha hb]
theorem c2_ne {a b : Nat} (ha : a < 2 ^ 31) (hb : b < 2 ^ 31) : qcc2 .ne (nI a) (nI b) = !decide (a = b) := by simp only [qcc2, nI_eq ha hb]
theorem c1_eq {a : Nat} (ha : a < 2 ^ 31) : qcc1 .eq (nI a) = decide (a = 0) := by simp only [qcc1]; rw [show (0 : Int32) = nI 0 from nI_0.symm]; simp only [nI_eq ha (by decide : 0 < 2 ^ 31)]
theorem c1_ne {a : Nat} (ha : a < 2 ^ 31) : qcc1 .ne (nI a) = !decide (a = 0) := by simp only [qcc1]; rw [show (0 : Int32) = nI 0 from nI_0.symm]; simp only [nI_eq ha (by decide : 0 < 2 ^ 31)]
theorem c1_le {a : Nat} (ha : a < 2 ^ 31) : qcc1 .le (nI a) = decide (a = 0) := by
  simp only [qcc1]
  rw [show (0 : Int32) = nI 0 from nI_0.symm]
  simp only [nI_leI ha (by decide : 0 < 2 ^ 31), Nat.le_zero]
theorem c1_gt {a : Nat} (ha : a < 2 ^ 31) : qcc1 .gt (nI a) = decide (0 < a) := by
  simp only [qcc1]
  rw [show (0 : Int32) = nI 0 from nI_0.symm]
  simp only [nI_ltI (by decide : 0 < 2 ^ 31) ha]
theorem c1_ge {a : Nat} (ha : a < 2 ^ 31) : qcc1 .ge (nI a) = true := by
  simp only [qcc1, decide_eq_true_eq]
  exact nI_pos' ha
/-- longs: what lcmp and a branch tell -/
theorem lg_le (x y : Int64) : qcc1 .le (lg_cmp x y) = decide (x ≤ y) := by simp only [qcc1, lg_cmp_le]
theorem lg_lt (x y : Int64) : qcc1 .lt (lg_cmp x y) = decide (x < y) := by simp only [qcc1, lg_cmp_lt]
theorem lg_ge (x y : Int64) : qcc1 .ge (lg_cmp x y) = decide (y ≤ x) := by simp only [qcc1, lg_cmp_ge]
theorem lg_gt (x y : Int64) : qcc1 .gt (lg_cmp x y) = decide (y < x) := by simp only [qcc1, lg_cmp_gt]
theorem lg_eq (x y : Int64) : qcc1 .eq (lg_cmp x y) = decide (x = y) := by simp only [qcc1, lg_cmp_eq]
theorem lg_ne (x y : Int64) : qcc1 .ne (lg_cmp x y) = !decide (x = y) := by simp only [qcc1, lg_cmp_eq]
theorem lN_toI {n : Nat} (h : n < 2 ^ 63) : (lN n).toInt = (n : Int) := Int64.toInt_ofNat_of_lt h
theorem lN_leN {a b : Nat} (ha : a < 2 ^ 63) (hb : b < 2 ^ 63) : lN a ≤ lN b ↔ a ≤ b := by rw [Int64.le_iff_toInt_le, lN_toI ha, lN_toI hb]; omega
theorem lN_ltN {a b : Nat} (ha : a < 2 ^ 63) (hb : b < 2 ^ 63) : lN a < lN b ↔ a < b := by rw [Int64.lt_iff_toInt_lt, lN_toI ha, lN_toI hb]; omega
theorem lN_eqN {a b : Nat} (ha : a < 2 ^ 63) (hb : b < 2 ^ 63) : lN a = lN b ↔ a = b := by rw [← Int64.toInt_inj, lN_toI ha, lN_toI hb]; omega
theorem nby_val {n k : Nat} (hn : n < 2 ^ 64) (hk : k < 8) : ((lN n).toUInt64 >>> ((nI 8 * nI k).toInt64.toUInt64 &&& Int64.toUInt64 63)).toInt64.toInt32 &&& nI 255 = nI (tby n k) := by
  rw [pk_mul, wb_shr hn (by omega), lN_i, pk_and _ 8 (by decide)]
  have e : (nI (n / 2 ^ (8 * k))).toBitVec.toNat = n / 2 ^ (8 * k) % 2 ^ 32 := by simp [nI]
  rw [e, Nat.mod_mod_of_dvd _ (by decide), tby, Nat.pow_mul]
theorem tlen_eq {n j : Nat} (h1 : 256 ^ j ≤ n) (h2 : n < 256 ^ (j + 1)) (hj : j < 8) : tlen n = j + 1 := by
  unfold tlen
  simp only [tlenA]
  rcases (show j = 0 ∨ j = 1 ∨ j = 2 ∨ j = 3 ∨ j = 4 ∨ j = 5 ∨ j = 6 ∨ j = 7 by omega) with rfl | rfl | rfl | rfl | rfl | rfl | rfl | rfl <;> simp only [Nat.reducePow, Nat.reduceAdd] at h1 h2 ⊢ <;> (repeat' split) <;> omega
theorem c_mul8 (k : Nat) : nI 8 * nI k = nI (8 * k) := pk_mul 8 k
theorem nI_inc (a : Nat) : nI a + Int32.ofInt 1 = nI (a + 1) := nI_add a 1
theorem nI_dec (a : Nat) : nI (a + 1) + Int32.ofInt (-1) = nI a := by
  rw [show Int32.ofInt (-1) = -1 from rfl]
  exact pk_m1 a
theorem lN_shr8 {n : Nat} (j : Nat) (hn : n < 2 ^ 64) : ((lN (n / 256 ^ j)).toUInt64 >>> ((nI 8).toInt64.toUInt64 &&& Int64.toUInt64 63)).toInt64 = lN (n / 256 ^ (j + 1)) := by
  have h1 : n / 256 ^ j ≤ n := Nat.div_le_self _ _
  rw [wb_shr (by omega) (by decide), Nat.div_div_eq_div_mul, show (2 : Nat) ^ 8 = 256 from rfl, ← Nat.pow_succ]
theorem nI_and255 (n : Nat) : (lN n).toInt32 &&& nI 255 = nI (n % 256) := by
  rw [lN_i, pk_and _ 8 (by decide)]
  have e : (nI n).toBitVec.toNat = n % 2 ^ 32 := by simp [nI]
  rw [e, Nat.mod_mod_of_dvd _ (by decide)]
theorem tlead_eq {n j : Nat} (h1 : 256 ^ j ≤ n) (h2 : n < 256 ^ (j + 1)) (hj : j < 8) : tlead n = n / 256 ^ j % 256 := by
  unfold tlead
  rw [tlen_eq h1 h2 hj]
  rfl
theorem qlc_0 : qlc 0 = lN 5 := rfl
theorem qlc_2 : qlc 2 = lN 3 := rfl
theorem qlc_3 : qlc 3 = lN 9223091661389692927 := rfl
theorem qlc_4 : qlc 4 = lN 2 := rfl
theorem qlc_5 : qlc 5 = lN 4 := rfl
theorem qlc_7 : qlc 7 = lN 9223090561878065152 := rfl
theorem qlc_8 : qlc 8 = lN 9223372036854775807 := rfl
theorem qlc_9 : qlc 9 = lN 1794 := rfl
theorem qlc_10 : qlc 10 = lN 255 := rfl
theorem qlc_11 : qlc 11 = lN 1536 := rfl
theorem qlc_12 : qlc 12 = lN 40 := rfl
theorem qlc_14 : qlc 14 = lN 4294967295 := rfl
theorem lN_z : (0 : Int64) = lN 0 := rfl
theorem lN_o : (1 : Int64) = lN 1 := rfl
theorem ret_t {b : Bool} {h : qH} (hb : b = true) : rI (pI (bI b) h) (some (.int (nI 1))) h := by subst hb; exact ⟨rfl, rfl⟩
theorem ret_f {b : Bool} {h : qH} (hb : b = false) : rI (pI (bI b) h) (some (.int (nI 0))) h := by subst hb; exact ⟨rfl, rfl⟩
