/-! Class Type: bytes of a TYPE. -/
section T1
variable (sc : Nat × (Nat → Int32)) (h : qH)
theorem c_Type_numbered (s : Nat) (hs : s < 256) : wp sc (m_Type_numbered, 0, qargs 0 [.int (nI s)], [], h) (rL (pL (lN (mStruct s)) h)) := by
  repeat' first | refine wp_ist rfl rfl rfl rfl ?_ | refine wp_lst rfl rfl rfl rfl ?_ | refine wp_iinc rfl rfl rfl rfl ?_ | refine wp_f rfl rfl rfl ?_ | refine wp_getf rfl (by repeat' first | assumption | refine qset_ne rfl ?_ | refine qset_self ?_ | refine qset_nf (by omega) ?_) rfl ?_ | refine wp_ast rfl rfl rfl rfl ?_ | refine wp_asN rfl rfl rfl rfl ?_ | refine wp_putf rfl (by repeat' first | assumption | refine qset_ne rfl ?_ | refine qset_self ?_ | refine qset_nf (by omega) ?_) (by exact Nat.le_of_ble_eq_true rfl) rfl ?_ | refine wp_iald rfl (by repeat' first | assumption | refine qset_ne rfl ?_ | refine qset_self ?_ | refine qset_nf (by omega) ?_) ?_ ?_ | refine wp_lald rfl (by repeat' first | assumption | refine qset_ne rfl ?_ | refine qset_self ?_ | refine qset_nf (by omega) ?_) ?_ ?_ | refine wp_zald rfl (by repeat' first | assumption | refine qset_ne rfl ?_ | refine qset_self ?_ | refine qset_nf (by omega) ?_) ?_ ?_ | refine wp_iast rfl (by repeat' first | assumption | refine qset_ne rfl ?_ | refine qset_self ?_ | refine qset_nf (by omega) ?_) ?_ ?_ | refine wp_last rfl (by repeat' first | assumption | refine qset_ne rfl ?_ | refine qset_self ?_ | refine qset_nf (by omega) ?_) ?_ ?_ | refine wp_alen rfl (by repeat' first | assumption | refine qset_ne rfl ?_ | refine qset_self ?_ | refine qset_nf (by omega) ?_) rfl ?_ | refine wp_zast rfl (by repeat' first | assumption | refine qset_ne rfl ?_ | refine qset_self ?_ | refine qset_nf (by omega) ?_) ?_ ?_ | refine wp_b rfl rfl (fun hc => ?_) (fun hc => ?_) | refine wp_v rfl rfl ?_ | refine ret_t ?_ | refine ret_f ?_
  refine ⟨?_, rfl⟩
  rw [nI_l (by omega), show qlc 11 = lN 1536 from rfl, wb_or (by decide) (by omega), mStruct]
  congr 1
  have key : ∀ s, s < 256 → 1536 ||| s = 1536 + s := by decide +kernel
  exact key s hs
theorem c_Type_byteAt (n k : Nat) (hn : n < 2 ^ 64) (hk : k < 8) : wp sc (m_Type_byteAt, 0, qargs 0 [.long (lN n), .int (nI k)], [], h) (rI (pI (nI (tby n k)) h)) := by
  repeat' first | refine wp_ist rfl rfl rfl rfl ?_ | refine wp_lst rfl rfl rfl rfl ?_ | refine wp_iinc rfl rfl rfl rfl ?_ | refine wp_f rfl rfl rfl ?_ | refine wp_getf rfl (by repeat' first | assumption | refine qset_ne rfl ?_ | refine qset_self ?_ | refine qset_nf (by omega) ?_) rfl ?_ | refine wp_ast rfl rfl rfl rfl ?_ | refine wp_asN rfl rfl rfl rfl ?_ | refine wp_putf rfl (by repeat' first | assumption | refine qset_ne rfl ?_ | refine qset_self ?_ | refine qset_nf (by omega) ?_) (by exact Nat.le_of_ble_eq_true rfl) rfl ?_ | refine wp_iald rfl (by repeat' first | assumption | refine qset_ne rfl ?_ | refine qset_self ?_ | refine qset_nf (by omega) ?_) ?_ ?_ | refine wp_lald rfl (by repeat' first | assumption | refine qset_ne rfl ?_ | refine qset_self ?_ | refine qset_nf (by omega) ?_) ?_ ?_ | refine wp_zald rfl (by repeat' first | assumption | refine qset_ne rfl ?_ | refine qset_self ?_ | refine qset_nf (by omega) ?_) ?_ ?_ | refine wp_iast rfl (by repeat' first | assumption | refine qset_ne rfl ?_ | refine qset_self ?_ | refine qset_nf (by omega) ?_) ?_ ?_ | refine wp_last rfl (by repeat' first | assumption | refine qset_ne rfl ?_ | refine qset_self ?_ | refine qset_nf (by omega) ?_) ?_ ?_ | refine wp_alen rfl (by repeat' first | assumption | refine qset_ne rfl ?_ | refine qset_self ?_ | refine qset_nf (by omega) ?_) rfl ?_ | refine wp_zast rfl (by repeat' first | assumption | refine qset_ne rfl ?_ | refine qset_self ?_ | refine qset_nf (by omega) ?_) ?_ ?_ | refine wp_b rfl rfl (fun hc => ?_) (fun hc => ?_) | refine wp_v rfl rfl ?_ | refine ret_t ?_ | refine ret_f ?_
  exact ⟨nby_val hn hk, rfl⟩
theorem l_lead (n : Nat) (hn : n < 2 ^ 63) : ∀ f j, f + j = 7 → (j = 0 ∨ 256 ^ j ≤ n) → wp sc (m_Type_lead, 5, [(4, .int (nI (j + 1))), (2, .long (lN (n / 256 ^ j))), (0, .long (lN n))], [], h) (rI (pI (nI (tlead n)) h)) := by
  have hz : ∀ j, j < 8 → (j = 0 ∨ 256 ^ j ≤ n) → n < 256 ^ (j + 1) → n / 256 ^ j % 256 = tlead n := by
    intro j hj h1 h2
    rcases h1 with h1 | h1
    · subst h1
      by_cases h0 : n = 0
      · subst h0; rfl
      · rw [tlead_eq (j := 0) (by omega) h2 (by decide)]
    · rw [tlead_eq h1 h2 hj]
  intro f
  induction f with
  | zero =>
    intro j hj h1
    have e : j = 7 := by omega
    subst e
    repeat (first | refine wp_n rfl rfl ?_ | refine wp_b rfl rfl (fun _ => ?_) (fun hc => absurd hc (by decide +kernel)) | refine wp_v rfl rfl ?_)
    refine ⟨?_, rfl⟩
    rw [nI_and255, hz 7 (by decide) h1 (by omega)]
  | succ f ih =>
    intro j hj h1
    refine wp_n rfl rfl ?_
    refine wp_n rfl rfl ?_
    refine wp_b rfl rfl (fun hc => ?_) (fun hc => ?_)
    · rw [c2_ge (by omega) (by omega)] at hc
      simp at hc
      omega
    · have hp : 0 < 256 ^ j := Nat.pow_pos (by decide)
      have hd : n / 256 ^ j ≤ n := Nat.div_le_self _ _
      repeat' first | refine wp_ist rfl rfl rfl rfl ?_ | refine wp_lst rfl rfl rfl rfl ?_ | refine wp_iinc rfl rfl rfl rfl ?_ | refine wp_f rfl rfl rfl ?_ | refine wp_getf rfl (by repeat' first | assumption | refine qset_ne rfl ?_ | refine qset_self ?_ | refine qset_nf (by omega) ?_) rfl ?_ | refine wp_ast rfl rfl rfl rfl ?_ | refine wp_asN rfl rfl rfl rfl ?_ | refine wp_putf rfl (by repeat' first | assumption | refine qset_ne rfl ?_ | refine qset_self ?_ | refine qset_nf (by omega) ?_) (by exact Nat.le_of_ble_eq_true rfl) rfl ?_ | refine wp_iald rfl (by repeat' first | assumption | refine qset_ne rfl ?_ | refine qset_self ?_ | refine qset_nf (by omega) ?_) ?_ ?_ | refine wp_lald rfl (by repeat' first | assumption | refine qset_ne rfl ?_ | refine qset_self ?_ | refine qset_nf (by omega) ?_) ?_ ?_ | refine wp_zald rfl (by repeat' first | assumption | refine qset_ne rfl ?_ | refine qset_self ?_ | refine qset_nf (by omega) ?_) ?_ ?_ | refine wp_iast rfl (by repeat' first | assumption | refine qset_ne rfl ?_ | refine qset_self ?_ | refine qset_nf (by omega) ?_) ?_ ?_ | refine wp_last rfl (by repeat' first | assumption | refine qset_ne rfl ?_ | refine qset_self ?_ | refine qset_nf (by omega) ?_) ?_ ?_ | refine wp_alen rfl (by repeat' first | assumption | refine qset_ne rfl ?_ | refine qset_self ?_ | refine qset_nf (by omega) ?_) rfl ?_ | refine wp_zast rfl (by repeat' first | assumption | refine qset_ne rfl ?_ | refine qset_self ?_ | refine qset_nf (by omega) ?_) ?_ ?_ | refine wp_b rfl rfl (fun hc => ?_) (fun hc => ?_) | refine wp_v rfl rfl ?_ | refine ret_t ?_ | refine ret_f ?_
      · rw [lg_le, show qlc 10 = lN 255 from rfl, decide_eq_true_eq, lN_leN (by omega) (by decide)] at hc
        refine ⟨?_, rfl⟩
        rw [nI_and255, hz j (by omega) h1 ?_]
        rw [Nat.pow_succ]
        have := (Nat.div_lt_iff_lt_mul hp).mp (show n / 256 ^ j < 256 by omega)
        rw [Nat.mul_comm]
        exact this
      · rw [lg_le, show qlc 10 = lN 255 from rfl, decide_eq_false_iff_not, lN_leN (by omega) (by decide)] at hc
        refine wp_n rfl rfl ?_
        rw [nI_inc, lN_shr8 j (by omega)]
        refine ih (j + 1) (by omega) (Or.inr ?_)
        rw [Nat.pow_succ]
        have := (Nat.le_div_iff_mul_le hp).mp (show 256 ≤ n / 256 ^ j by omega)
        rw [Nat.mul_comm]
        exact this
theorem c_Type_lead (n : Nat) (hn : n < 2 ^ 63) : wp sc (m_Type_lead, 0, qargs 0 [.long (lN n)], [], h) (rI (pI (nI (tlead n)) h)) := by
  repeat first | refine wp_ist rfl rfl rfl rfl ?_ | refine wp_lst rfl rfl rfl rfl ?_ | (refine wp_sub (l_lead sc h n hn 7 0 rfl (Or.inl rfl)) rfl ⟨rfl, ?_, rfl, trivial⟩) | refine wp_f rfl rfl rfl ?_
  show some (Value.long (lN n)) = some (Value.long (lN (n / 256 ^ 0)))
  rw [Nat.pow_zero, Nat.div_one]
theorem l_inner (n : Nat) (hn : n < 2 ^ 63) : ∀ f j, f + j = 7 → (j = 0 ∨ 256 ^ j ≤ n) → wp sc (m_Type_inner, 7, [(4, .int (nI (j + 1))), (2, .long (lN (256 ^ (j + 1) - 1))), (0, .long (lN n))], [], h) (rL (pL (lN (tinner n)) h)) := by
  have hz : ∀ j, j < 8 → (j = 0 ∨ 256 ^ j ≤ n) → n < 256 ^ (j + 1) → lN n &&& ((lN (256 ^ (j + 1) - 1)).toUInt64 >>> ((nI 8).toInt64.toUInt64 &&& Int64.toUInt64 63)).toInt64 = lN (tinner n) := by
    intro j hj h1 h2
    have e1 : ((lN (256 ^ (j + 1) - 1)).toUInt64 >>> ((nI 8).toInt64.toUInt64 &&& Int64.toUInt64 63)).toInt64 = lN (2 ^ (8 * j) - 1) := by
      have key : ∀ j, j < 8 → ((lN (256 ^ (j + 1) - 1)).toUInt64 >>> ((nI 8).toInt64.toUInt64 &&& Int64.toUInt64 63)).toInt64 = lN (2 ^ (8 * j) - 1) := by decide +kernel
      exact key j hj
    rw [e1, wb_mask (by omega) (by omega), Nat.pow_mul]
    congr 1
    show n % 256 ^ j = tinner n
    unfold tinner
    rcases h1 with h1 | h1
    · subst h1
      by_cases h0 : n = 0
      · subst h0; rfl
      · rw [tlen_eq (j := 0) (by omega) h2 (by decide)]
    · rw [tlen_eq h1 h2 hj]
      rfl
  intro f
  induction f with
  | zero =>
    intro j hj h1
    have e : j = 7 := by omega
    subst e
    repeat (first | refine wp_n rfl rfl ?_ | refine wp_b rfl rfl (fun _ => ?_) (fun hc => absurd hc (by decide +kernel)) | refine wp_v rfl rfl ?_)
    exact ⟨hz 7 (by decide) h1 (by omega), rfl⟩
  | succ f ih =>
    intro j hj h1
    refine wp_n rfl rfl ?_
    refine wp_n rfl rfl ?_
    refine wp_b rfl rfl (fun hc => ?_) (fun hc => ?_)
    · rw [c2_ge (by omega) (by omega)] at hc
      simp at hc
      omega
    · have hj6 : j ≤ 6 := by omega
      have hp : 256 ^ (j + 1) < 2 ^ 63 := by
        have key : ∀ j, j ≤ 6 → 256 ^ (j + 1) < 2 ^ 63 := by decide +kernel
        exact key j hj6
      have hp1 : 0 < 256 ^ (j + 1) := Nat.pow_pos (by decide)
      repeat' first | refine wp_ist rfl rfl rfl rfl ?_ | refine wp_lst rfl rfl rfl rfl ?_ | refine wp_iinc rfl rfl rfl rfl ?_ | refine wp_f rfl rfl rfl ?_ | refine wp_getf rfl (by repeat' first | assumption | refine qset_ne rfl ?_ | refine qset_self ?_ | refine qset_nf (by omega) ?_) rfl ?_ | refine wp_ast rfl rfl rfl rfl ?_ | refine wp_asN rfl rfl rfl rfl ?_ | refine wp_putf rfl (by repeat' first | assumption | refine qset_ne rfl ?_ | refine qset_self ?_ | refine qset_nf (by omega) ?_) (by exact Nat.le_of_ble_eq_true rfl) rfl ?_ | refine wp_iald rfl (by repeat' first | assumption | refine qset_ne rfl ?_ | refine qset_self ?_ | refine qset_nf (by omega) ?_) ?_ ?_ | refine wp_lald rfl (by repeat' first | assumption | refine qset_ne rfl ?_ | refine qset_self ?_ | refine qset_nf (by omega) ?_) ?_ ?_ | refine wp_zald rfl (by repeat' first | assumption | refine qset_ne rfl ?_ | refine qset_self ?_ | refine qset_nf (by omega) ?_) ?_ ?_ | refine wp_iast rfl (by repeat' first | assumption | refine qset_ne rfl ?_ | refine qset_self ?_ | refine qset_nf (by omega) ?_) ?_ ?_ | refine wp_last rfl (by repeat' first | assumption | refine qset_ne rfl ?_ | refine qset_self ?_ | refine qset_nf (by omega) ?_) ?_ ?_ | refine wp_alen rfl (by repeat' first | assumption | refine qset_ne rfl ?_ | refine qset_self ?_ | refine qset_nf (by omega) ?_) rfl ?_ | refine wp_zast rfl (by repeat' first | assumption | refine qset_ne rfl ?_ | refine qset_self ?_ | refine qset_nf (by omega) ?_) ?_ ?_ | refine wp_b rfl rfl (fun hc => ?_) (fun hc => ?_) | refine wp_v rfl rfl ?_ | refine ret_t ?_ | refine ret_f ?_
      · rw [lg_le, decide_eq_true_eq, lN_leN hn (by omega)] at hc
        exact ⟨hz j (by omega) h1 (by omega), rfl⟩
      · rw [lg_le, decide_eq_false_iff_not, lN_leN hn (by omega)] at hc
        refine wp_n rfl rfl ?_
        have e2 : lN (256 ^ (j + 1) - 1) <<< ((nI 8).toInt64 &&& 63) ||| qlc 10 = lN (256 ^ (j + 1 + 1) - 1) := by
          have key : ∀ j, j ≤ 6 → lN (256 ^ (j + 1) - 1) <<< ((nI 8).toInt64 &&& 63) ||| qlc 10 = lN (256 ^ (j + 1 + 1) - 1) := by decide +kernel
          exact key j hj6
        rw [nI_inc, e2]
        exact ih (j + 1) (by omega) (Or.inr (by omega))
theorem c_Type_inner (n : Nat) (hn : n < 2 ^ 63) : wp sc (m_Type_inner, 0, qargs 0 [.long (lN n)], [], h) (rL (pL (lN (tinner n)) h)) := by
  repeat first | refine wp_ist rfl rfl rfl rfl ?_ | refine wp_lst rfl rfl rfl rfl ?_ | (refine wp_sub (l_inner sc h n hn 7 0 rfl (Or.inl rfl)) rfl ⟨rfl, rfl, rfl, trivial⟩) | refine wp_f rfl rfl rfl ?_
theorem l_of (n b : Nat) (hn : n < 2 ^ 56) (hb : b < 64) : ∀ f j, f + j = 8 → (j = 0 ∨ 256 ^ (j - 1) ≤ n) → wp sc (m_Type_of, 6, [(5, .int (nI j)), (3, .long (lN (b * 256 ^ j))), (1, .long (lN n)), (0, .int (nI b))], [], h) (rL (pL (lN (tof b n)) h)) := by
  have hz : ∀ j, j < 8 → (j = 0 ∨ 256 ^ (j - 1) ≤ n) → n < 256 ^ j → lN (b * 256 ^ j) ||| lN n = lN (tof b n) := by
    intro j hj h1 h2
    have e : tlen n = j := by
      rcases h1 with h1 | h1
      · subst h1
        have : n = 0 := by simpa using h2
        subst this
        rfl
      · cases j with
        | zero => have : n = 0 := by simpa using h2
                  subst this
                  rfl
        | succ j => exact tlen_eq h1 h2 (by omega)
    have hle : 256 ^ j ≤ 256 ^ 7 := Nat.pow_le_pow_right (by decide) (by omega)
    have hle2 : b * 256 ^ j ≤ 63 * 256 ^ 7 := Nat.mul_le_mul (by omega) hle
    rw [wb_or (by omega) (by omega), tof, e]
    congr 1
    have e3 : (256 : Nat) ^ j = 2 ^ (8 * j) := by rw [Nat.pow_mul]
    rw [e3] at h2 ⊢
    rw [Nat.mul_comm, ← Nat.two_pow_add_eq_or_of_lt h2]
  intro f
  induction f with
  | zero =>
    intro j hj h1
    exfalso
    have e : j = 8 := by omega
    subst e
    rcases h1 with h1 | h1
    · omega
    · omega
  | succ f ih =>
    intro j hj h1
    refine wp_n rfl rfl ?_
    refine wp_n rfl rfl ?_
    refine wp_b rfl rfl (fun hc => ?_) (fun hc => ?_)
    · rw [c2_ge (by omega) (by omega)] at hc
      simp at hc
      omega
    · have hsh : ((lN n).toUInt64 >>> ((nI 8 * nI j).toInt64.toUInt64 &&& Int64.toUInt64 63)).toInt64 = lN (n / 256 ^ j) := by
        rw [pk_mul, wb_shr (by omega) (by omega), Nat.pow_mul]
      have hd : n / 256 ^ j ≤ n := Nat.div_le_self _ _
      have hp : 0 < 256 ^ j := Nat.pow_pos (by decide)
      repeat' first | refine wp_ist rfl rfl rfl rfl ?_ | refine wp_lst rfl rfl rfl rfl ?_ | refine wp_iinc rfl rfl rfl rfl ?_ | refine wp_f rfl rfl rfl ?_ | refine wp_getf rfl (by repeat' first | assumption | refine qset_ne rfl ?_ | refine qset_self ?_ | refine qset_nf (by omega) ?_) rfl ?_ | refine wp_ast rfl rfl rfl rfl ?_ | refine wp_asN rfl rfl rfl rfl ?_ | refine wp_putf rfl (by repeat' first | assumption | refine qset_ne rfl ?_ | refine qset_self ?_ | refine qset_nf (by omega) ?_) (by exact Nat.le_of_ble_eq_true rfl) rfl ?_ | refine wp_iald rfl (by repeat' first | assumption | refine qset_ne rfl ?_ | refine qset_self ?_ | refine qset_nf (by omega) ?_) ?_ ?_ | refine wp_lald rfl (by repeat' first | assumption | refine qset_ne rfl ?_ | refine qset_self ?_ | refine qset_nf (by omega) ?_) ?_ ?_ | refine wp_zald rfl (by repeat' first | assumption | refine qset_ne rfl ?_ | refine qset_self ?_ | refine qset_nf (by omega) ?_) ?_ ?_ | refine wp_iast rfl (by repeat' first | assumption | refine qset_ne rfl ?_ | refine qset_self ?_ | refine qset_nf (by omega) ?_) ?_ ?_ | refine wp_last rfl (by repeat' first | assumption | refine qset_ne rfl ?_ | refine qset_self ?_ | refine qset_nf (by omega) ?_) ?_ ?_ | refine wp_alen rfl (by repeat' first | assumption | refine qset_ne rfl ?_ | refine qset_self ?_ | refine qset_nf (by omega) ?_) rfl ?_ | refine wp_zast rfl (by repeat' first | assumption | refine qset_ne rfl ?_ | refine qset_self ?_ | refine qset_nf (by omega) ?_) ?_ ?_ | refine wp_b rfl rfl (fun hc => ?_) (fun hc => ?_) | refine wp_v rfl rfl ?_ | refine ret_t ?_ | refine ret_f ?_
      · rw [hsh, lg_eq, decide_eq_true_eq, show (0 : Int64) = lN 0 from rfl, lN_eqN (by omega) (by decide)] at hc
        exact ⟨hz j (by omega) h1 (by
          rcases Nat.lt_or_ge n (256 ^ j) with z | z
          · exact z
          · have := Nat.div_pos z hp; omega), rfl⟩
      · rw [hsh, lg_eq, decide_eq_false_iff_not, show (0 : Int64) = lN 0 from rfl, lN_eqN (by omega) (by decide)] at hc
        refine wp_n rfl rfl ?_
        rw [nI_inc, wb_shl _ (by decide), Nat.mul_assoc, show (2 : Nat) ^ 8 = 256 from rfl, ← Nat.pow_succ]
        refine ih (j + 1) (by omega) (Or.inr ?_)
        show 256 ^ j ≤ n
        rcases Nat.lt_or_ge n (256 ^ j) with z | z
        · exact absurd (Nat.div_eq_of_lt z) hc
        · exact z
theorem c_Type_of (n b : Nat) (hn : n < 2 ^ 56) (hb : b < 64) : wp sc (m_Type_of, 0, qargs 0 [.int (nI b), .long (lN n)], [], h) (rL (pL (lN (tof b n)) h)) := by
  repeat first | refine wp_ist rfl rfl rfl rfl ?_ | refine wp_lst rfl rfl rfl rfl ?_ | (refine wp_sub (l_of sc h n b hn hb 8 0 rfl (Or.inl rfl)) rfl ⟨rfl, ?_, rfl, rfl, trivial⟩) | refine wp_f rfl rfl rfl ?_
  show some (Value.long (nI b).toInt64) = some (Value.long (lN (b * 256 ^ 0)))
  rw [Nat.pow_zero, Nat.mul_one, nI_l (by omega)]
theorem c_Type_isReference (n : Nat) (hn : n < 2 ^ 63) : wp sc (m_Type_isReference, 0, qargs 0 [.long (lN n)], [], h) (rI (pI (bI (tref n)) h)) := by
  have hl : tlead n < 256 := Nat.mod_lt _ (by decide)
  repeat' first | refine wp_Sip rfl rfl rfl (c_Type_lead sc h n hn) ?_ | refine wp_ist rfl rfl rfl rfl ?_ | refine wp_lst rfl rfl rfl rfl ?_ | refine wp_iinc rfl rfl rfl rfl ?_ | refine wp_f rfl rfl rfl ?_ | refine wp_getf rfl (by repeat' first | assumption | refine qset_ne rfl ?_ | refine qset_self ?_ | refine qset_nf (by omega) ?_) rfl ?_ | refine wp_ast rfl rfl rfl rfl ?_ | refine wp_asN rfl rfl rfl rfl ?_ | refine wp_putf rfl (by repeat' first | assumption | refine qset_ne rfl ?_ | refine qset_self ?_ | refine qset_nf (by omega) ?_) (by exact Nat.le_of_ble_eq_true rfl) rfl ?_ | refine wp_iald rfl (by repeat' first | assumption | refine qset_ne rfl ?_ | refine qset_self ?_ | refine qset_nf (by omega) ?_) ?_ ?_ | refine wp_lald rfl (by repeat' first | assumption | refine qset_ne rfl ?_ | refine qset_self ?_ | refine qset_nf (by omega) ?_) ?_ ?_ | refine wp_zald rfl (by repeat' first | assumption | refine qset_ne rfl ?_ | refine qset_self ?_ | refine qset_nf (by omega) ?_) ?_ ?_ | refine wp_iast rfl (by repeat' first | assumption | refine qset_ne rfl ?_ | refine qset_self ?_ | refine qset_nf (by omega) ?_) ?_ ?_ | refine wp_last rfl (by repeat' first | assumption | refine qset_ne rfl ?_ | refine qset_self ?_ | refine qset_nf (by omega) ?_) ?_ ?_ | refine wp_alen rfl (by repeat' first | assumption | refine qset_ne rfl ?_ | refine qset_self ?_ | refine qset_nf (by omega) ?_) rfl ?_ | refine wp_zast rfl (by repeat' first | assumption | refine qset_ne rfl ?_ | refine qset_self ?_ | refine qset_nf (by omega) ?_) ?_ ?_ | refine wp_b rfl rfl (fun hc => ?_) (fun hc => ?_) | refine wp_v rfl rfl ?_ | refine ret_t ?_ | refine ret_f ?_
  all_goals (try simp (disch := omega) only [c2_eq, c2_ne, c2_lt, c2_ge, c2_gt, c2_le, c1_eq, c1_ne, c1_lt, c1_le, c1_gt, c1_ge, lg_le, lg_lt, lg_ge, lg_gt, lg_eq, lg_ne, bI_eq, bI_ne, qlc_0, qlc_2, qlc_3, qlc_4, qlc_5, qlc_7, qlc_8, qlc_9, qlc_10, qlc_11, qlc_12, qlc_14, lN_z, lN_leN, lN_ltN, lN_eqN, decide_eq_true_eq, decide_eq_false_iff_not, Bool.not_eq_true', Bool.not_eq_false'] at *)
  all_goals simp_all [tref]
theorem c_Type_isWriting (n : Nat) (hn : n < 2 ^ 63) : wp sc (m_Type_isWriting, 0, qargs 0 [.long (lN n)], [], h) (rI (pI (bI (twr n)) h)) := by
  have hl : tlead n < 256 := Nat.mod_lt _ (by decide)
  repeat' first | refine wp_Sip rfl rfl rfl (c_Type_lead sc h n hn) ?_ | refine wp_ist rfl rfl rfl rfl ?_ | refine wp_lst rfl rfl rfl rfl ?_ | refine wp_iinc rfl rfl rfl rfl ?_ | refine wp_f rfl rfl rfl ?_ | refine wp_getf rfl (by repeat' first | assumption | refine qset_ne rfl ?_ | refine qset_self ?_ | refine qset_nf (by omega) ?_) rfl ?_ | refine wp_ast rfl rfl rfl rfl ?_ | refine wp_asN rfl rfl rfl rfl ?_ | refine wp_putf rfl (by repeat' first | assumption | refine qset_ne rfl ?_ | refine qset_self ?_ | refine qset_nf (by omega) ?_) (by exact Nat.le_of_ble_eq_true rfl) rfl ?_ | refine wp_iald rfl (by repeat' first | assumption | refine qset_ne rfl ?_ | refine qset_self ?_ | refine qset_nf (by omega) ?_) ?_ ?_ | refine wp_lald rfl (by repeat' first | assumption | refine qset_ne rfl ?_ | refine qset_self ?_ | refine qset_nf (by omega) ?_) ?_ ?_ | refine wp_zald rfl (by repeat' first | assumption | refine qset_ne rfl ?_ | refine qset_self ?_ | refine qset_nf (by omega) ?_) ?_ ?_ | refine wp_iast rfl (by repeat' first | assumption | refine qset_ne rfl ?_ | refine qset_self ?_ | refine qset_nf (by omega) ?_) ?_ ?_ | refine wp_last rfl (by repeat' first | assumption | refine qset_ne rfl ?_ | refine qset_self ?_ | refine qset_nf (by omega) ?_) ?_ ?_ | refine wp_alen rfl (by repeat' first | assumption | refine qset_ne rfl ?_ | refine qset_self ?_ | refine qset_nf (by omega) ?_) rfl ?_ | refine wp_zast rfl (by repeat' first | assumption | refine qset_ne rfl ?_ | refine qset_self ?_ | refine qset_nf (by omega) ?_) ?_ ?_ | refine wp_b rfl rfl (fun hc => ?_) (fun hc => ?_) | refine wp_v rfl rfl ?_ | refine ret_t ?_ | refine ret_f ?_
  all_goals (try simp (disch := omega) only [c2_eq, c2_ne, c2_lt, c2_ge, c2_gt, c2_le, c1_eq, c1_ne, c1_lt, c1_le, c1_gt, c1_ge, lg_le, lg_lt, lg_ge, lg_gt, lg_eq, lg_ne, bI_eq, bI_ne, qlc_0, qlc_2, qlc_3, qlc_4, qlc_5, qlc_7, qlc_8, qlc_9, qlc_10, qlc_11, qlc_12, qlc_14, lN_z, lN_leN, lN_ltN, lN_eqN, decide_eq_true_eq, decide_eq_false_iff_not, Bool.not_eq_true', Bool.not_eq_false'] at *)
  all_goals simp_all [twr]
theorem c_Type_isNumber (n : Nat) (hn : n < 2 ^ 63) : wp sc (m_Type_isNumber, 0, qargs 0 [.long (lN n)], [], h) (rI (pI (bI (tnum n)) h)) := by
  repeat' first | refine wp_ist rfl rfl rfl rfl ?_ | refine wp_lst rfl rfl rfl rfl ?_ | refine wp_iinc rfl rfl rfl rfl ?_ | refine wp_f rfl rfl rfl ?_ | refine wp_getf rfl (by repeat' first | assumption | refine qset_ne rfl ?_ | refine qset_self ?_ | refine qset_nf (by omega) ?_) rfl ?_ | refine wp_ast rfl rfl rfl rfl ?_ | refine wp_asN rfl rfl rfl rfl ?_ | refine wp_putf rfl (by repeat' first | assumption | refine qset_ne rfl ?_ | refine qset_self ?_ | refine qset_nf (by omega) ?_) (by exact Nat.le_of_ble_eq_true rfl) rfl ?_ | refine wp_iald rfl (by repeat' first | assumption | refine qset_ne rfl ?_ | refine qset_self ?_ | refine qset_nf (by omega) ?_) ?_ ?_ | refine wp_lald rfl (by repeat' first | assumption | refine qset_ne rfl ?_ | refine qset_self ?_ | refine qset_nf (by omega) ?_) ?_ ?_ | refine wp_zald rfl (by repeat' first | assumption | refine qset_ne rfl ?_ | refine qset_self ?_ | refine qset_nf (by omega) ?_) ?_ ?_ | refine wp_iast rfl (by repeat' first | assumption | refine qset_ne rfl ?_ | refine qset_self ?_ | refine qset_nf (by omega) ?_) ?_ ?_ | refine wp_last rfl (by repeat' first | assumption | refine qset_ne rfl ?_ | refine qset_self ?_ | refine qset_nf (by omega) ?_) ?_ ?_ | refine wp_alen rfl (by repeat' first | assumption | refine qset_ne rfl ?_ | refine qset_self ?_ | refine qset_nf (by omega) ?_) rfl ?_ | refine wp_zast rfl (by repeat' first | assumption | refine qset_ne rfl ?_ | refine qset_self ?_ | refine qset_nf (by omega) ?_) ?_ ?_ | refine wp_b rfl rfl (fun hc => ?_) (fun hc => ?_) | refine wp_v rfl rfl ?_ | refine ret_t ?_ | refine ret_f ?_
  all_goals (try simp (disch := omega) only [c2_eq, c2_ne, c2_lt, c2_ge, c2_gt, c2_le, c1_eq, c1_ne, c1_lt, c1_le, c1_gt, c1_ge, lg_le, lg_lt, lg_ge, lg_gt, lg_eq, lg_ne, bI_eq, bI_ne, qlc_0, qlc_2, qlc_3, qlc_4, qlc_5, qlc_7, qlc_8, qlc_9, qlc_10, qlc_11, qlc_12, qlc_14, lN_z, lN_leN, lN_ltN, lN_eqN, decide_eq_true_eq, decide_eq_false_iff_not, Bool.not_eq_true', Bool.not_eq_false'] at *)
  · have : n ≠ 2 ∧ n ≠ 3 ∧ n ≠ 4 := by omega
    simp [tnum, this]
  · have : n ≠ 2 ∧ n ≠ 3 ∧ n ≠ 4 := by omega
    simp [tnum, this]
  · rcases (show n = 2 ∨ n = 3 ∨ n = 4 by omega) with rfl | rfl | rfl <;> rfl
theorem c_Type_reference (n : Nat) (w : Bool) (hn : n < 2 ^ 56) : wp sc (m_Type_reference, 0, qargs 0 [.int (bI w), .long (lN n)], [], h) (rL (pL (lN (mRef w n)) h)) := by
  repeat' first | refine wp_Slp rfl rfl rfl (c_Type_of sc h n 9 hn (by decide)) ?_ | refine wp_Slp rfl rfl rfl (c_Type_of sc h n 8 hn (by decide)) ?_ | refine wp_ist rfl rfl rfl rfl ?_ | refine wp_lst rfl rfl rfl rfl ?_ | refine wp_iinc rfl rfl rfl rfl ?_ | refine wp_f rfl rfl rfl ?_ | refine wp_getf rfl (by repeat' first | assumption | refine qset_ne rfl ?_ | refine qset_self ?_ | refine qset_nf (by omega) ?_) rfl ?_ | refine wp_ast rfl rfl rfl rfl ?_ | refine wp_asN rfl rfl rfl rfl ?_ | refine wp_putf rfl (by repeat' first | assumption | refine qset_ne rfl ?_ | refine qset_self ?_ | refine qset_nf (by omega) ?_) (by exact Nat.le_of_ble_eq_true rfl) rfl ?_ | refine wp_iald rfl (by repeat' first | assumption | refine qset_ne rfl ?_ | refine qset_self ?_ | refine qset_nf (by omega) ?_) ?_ ?_ | refine wp_lald rfl (by repeat' first | assumption | refine qset_ne rfl ?_ | refine qset_self ?_ | refine qset_nf (by omega) ?_) ?_ ?_ | refine wp_zald rfl (by repeat' first | assumption | refine qset_ne rfl ?_ | refine qset_self ?_ | refine qset_nf (by omega) ?_) ?_ ?_ | refine wp_iast rfl (by repeat' first | assumption | refine qset_ne rfl ?_ | refine qset_self ?_ | refine qset_nf (by omega) ?_) ?_ ?_ | refine wp_last rfl (by repeat' first | assumption | refine qset_ne rfl ?_ | refine qset_self ?_ | refine qset_nf (by omega) ?_) ?_ ?_ | refine wp_alen rfl (by repeat' first | assumption | refine qset_ne rfl ?_ | refine qset_self ?_ | refine qset_nf (by omega) ?_) rfl ?_ | refine wp_zast rfl (by repeat' first | assumption | refine qset_ne rfl ?_ | refine qset_self ?_ | refine qset_nf (by omega) ?_) ?_ ?_ | refine wp_b rfl rfl (fun hc => ?_) (fun hc => ?_) | refine wp_v rfl rfl ?_ | refine ret_t ?_ | refine ret_f ?_
  all_goals (try simp (disch := omega) only [c2_eq, c2_ne, c2_lt, c2_ge, c2_gt, c2_le, c1_eq, c1_ne, c1_lt, c1_le, c1_gt, c1_ge, lg_le, lg_lt, lg_ge, lg_gt, lg_eq, lg_ne, bI_eq, bI_ne, qlc_0, qlc_2, qlc_3, qlc_4, qlc_5, qlc_7, qlc_8, qlc_9, qlc_10, qlc_11, qlc_12, qlc_14, lN_z, lN_leN, lN_ltN, lN_eqN, decide_eq_true_eq, decide_eq_false_iff_not, Bool.not_eq_true', Bool.not_eq_false'] at *)
  all_goals subst hc
  all_goals exact ⟨rfl, rfl⟩
end T1
