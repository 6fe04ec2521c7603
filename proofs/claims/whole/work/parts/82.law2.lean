/-! The law: its loop. -/
section LWS
variable {L : Nat} {xs : Nat → Int32} {k : Nat} {h : qH} {T : QT} {Q : Option Value → qH → Prop}
set_option maxHeartbeats 4000000 in
theorem and15 (x : Int32) : ∃ j, j < 16 ∧ x &&& nI 15 = nI j := by
  refine ⟨(x &&& nI 15).toBitVec.toNat, ?_, ?_⟩
  · have e : (x &&& nI 15).toBitVec.toNat = x.toBitVec.toNat &&& 15 := by
      rw [Int32.toBitVec_and, BitVec.toNat_and]
      rfl
    rw [e]
    exact Nat.lt_of_le_of_lt Nat.and_le_right (by decide)
  · apply Int32.toBitVec_inj.mp
    show _ = BitVec.ofNat 32 _
    rw [BitVec.ofNat_toNat, BitVec.setWidth_eq]
set_option maxHeartbeats 4000000 in
theorem law_loop (hL : L ≤ 256) (hQ : ∀ h2 T2, LW h2 T2 64 → Q (some (.int 1)) h2) : ∀ m k h T, m + k = L / 4 → LW h T k → wp (L, xs) (m_L_law, 18, [(3, .int (nI (4 * k))), (2, .ref 21), (1, .ref 0), (0, .float 0)], [], h) Q := by
  have up : ∀ n k h T, k + n = 64 → LW h T k → LW h T 64 := by
    intro n
    induction n with
    | zero => intro k h T hk W; rw [show (64 : Nat) = k by omega]; exact W
    | succ n ih => intro k h T hk W; exact ih (k + 1) h T (by omega) W.same
  intro m
  induction m with
  | zero =>
    intro k h T hm W
    have W2 := hQ h T (up (64 - k) k h T (by omega) W)
    by_cases h4 : 4 ≤ L
    · repeat' first | refine wp_ist rfl rfl rfl rfl ?_ | refine wp_lst rfl rfl rfl rfl ?_ | refine wp_iinc rfl rfl rfl rfl ?_ | refine wp_f rfl rfl rfl ?_ | refine wp_getf rfl (by ((repeat' first | assumption | refine qset_ne rfl ?_ | refine qset_self (c0 := ?_) ?_ | refine qset_nf (by omega) ?_ | fail); done)) rfl ?_ | refine wp_ast rfl rfl rfl rfl ?_ | refine wp_asN rfl rfl rfl rfl ?_ | refine wp_putf rfl (by ((repeat' first | assumption | refine qset_ne rfl ?_ | refine qset_self (c0 := ?_) ?_ | refine qset_nf (by omega) ?_ | fail); done)) (by exact Nat.le_of_ble_eq_true rfl) rfl ?_ | refine wp_iald rfl (by ((repeat' first | assumption | refine qset_ne rfl ?_ | refine qset_self (c0 := ?_) ?_ | refine qset_nf (by omega) ?_ | fail); done)) ?_ ?_ | refine wp_lald rfl (by ((repeat' first | assumption | refine qset_ne rfl ?_ | refine qset_self (c0 := ?_) ?_ | refine qset_nf (by omega) ?_ | fail); done)) ?_ ?_ | refine wp_zald rfl (by ((repeat' first | assumption | refine qset_ne rfl ?_ | refine qset_self (c0 := ?_) ?_ | refine qset_nf (by omega) ?_ | fail); done)) ?_ ?_ | refine wp_iast rfl (by ((repeat' first | assumption | refine qset_ne rfl ?_ | refine qset_self (c0 := ?_) ?_ | refine qset_nf (by omega) ?_ | fail); done)) ?_ ?_ | refine wp_last rfl (by ((repeat' first | assumption | refine qset_ne rfl ?_ | refine qset_self (c0 := ?_) ?_ | refine qset_nf (by omega) ?_ | fail); done)) ?_ ?_ | refine wp_alen rfl (by ((repeat' first | assumption | refine qset_ne rfl ?_ | refine qset_self (c0 := ?_) ?_ | refine qset_nf (by omega) ?_ | fail); done)) rfl ?_ | refine wp_zast rfl (by ((repeat' first | assumption | refine qset_ne rfl ?_ | refine qset_self (c0 := ?_) ?_ | refine qset_nf (by omega) ?_ | fail); done)) ?_ ?_ | refine wp_v rfl rfl ?_ | refine ret_t ?_ | refine ret_f ?_ | fail
      rw [show Int32.ofNat L = nI L from rfl, pk_sub h4]
      repeat' first | refine wp_ist rfl rfl rfl rfl ?_ | refine wp_lst rfl rfl rfl rfl ?_ | refine wp_iinc rfl rfl rfl rfl ?_ | refine wp_f rfl rfl rfl ?_ | refine wp_getf rfl (by ((repeat' first | assumption | refine qset_ne rfl ?_ | refine qset_self (c0 := ?_) ?_ | refine qset_nf (by omega) ?_ | fail); done)) rfl ?_ | refine wp_ast rfl rfl rfl rfl ?_ | refine wp_asN rfl rfl rfl rfl ?_ | refine wp_putf rfl (by ((repeat' first | assumption | refine qset_ne rfl ?_ | refine qset_self (c0 := ?_) ?_ | refine qset_nf (by omega) ?_ | fail); done)) (by exact Nat.le_of_ble_eq_true rfl) rfl ?_ | refine wp_iald rfl (by ((repeat' first | assumption | refine qset_ne rfl ?_ | refine qset_self (c0 := ?_) ?_ | refine qset_nf (by omega) ?_ | fail); done)) ?_ ?_ | refine wp_lald rfl (by ((repeat' first | assumption | refine qset_ne rfl ?_ | refine qset_self (c0 := ?_) ?_ | refine qset_nf (by omega) ?_ | fail); done)) ?_ ?_ | refine wp_zald rfl (by ((repeat' first | assumption | refine qset_ne rfl ?_ | refine qset_self (c0 := ?_) ?_ | refine qset_nf (by omega) ?_ | fail); done)) ?_ ?_ | refine wp_iast rfl (by ((repeat' first | assumption | refine qset_ne rfl ?_ | refine qset_self (c0 := ?_) ?_ | refine qset_nf (by omega) ?_ | fail); done)) ?_ ?_ | refine wp_last rfl (by ((repeat' first | assumption | refine qset_ne rfl ?_ | refine qset_self (c0 := ?_) ?_ | refine qset_nf (by omega) ?_ | fail); done)) ?_ ?_ | refine wp_alen rfl (by ((repeat' first | assumption | refine qset_ne rfl ?_ | refine qset_self (c0 := ?_) ?_ | refine qset_nf (by omega) ?_ | fail); done)) rfl ?_ | refine wp_zast rfl (by ((repeat' first | assumption | refine qset_ne rfl ?_ | refine qset_self (c0 := ?_) ?_ | refine qset_nf (by omega) ?_ | fail); done)) ?_ ?_ | refine wp_b rfl rfl (fun hc => absurd hc (by decide +kernel)) (fun _ => ?_) | refine wp_b rfl rfl (fun _ => ?_) (fun hc => absurd hc (by decide +kernel)) | refine wp_c2y rfl (by omega) (by omega) (by first | (dsimp only [qn2]; omega) | exact rfl) ?_ | refine wp_c2n rfl (by omega) (by omega) (by dsimp only [qn2]; omega) ?_ | refine wp_c1y rfl (by omega) (by first | exact True.intro | (dsimp only [qn1]; omega)) ?_ | refine wp_c1n rfl (by omega) (by first | exact (fun z => z) | (dsimp only [qn1]; omega)) ?_ | refine wp_v rfl rfl ?_ | refine ret_t ?_ | refine ret_f ?_ | fail
      exact W2
    · have hk : k = 0 := by omega
      subst hk
      have neg : ∀ n, n < 4 → qcc2 .gt (nI (4 * 0)) (Int32.ofNat n - nI 4) = true := by decide +kernel
      have neg1 := neg L (by omega)
      repeat' first | refine wp_ist rfl rfl rfl rfl ?_ | refine wp_lst rfl rfl rfl rfl ?_ | refine wp_iinc rfl rfl rfl rfl ?_ | refine wp_f rfl rfl rfl ?_ | refine wp_getf rfl (by ((repeat' first | assumption | refine qset_ne rfl ?_ | refine qset_self (c0 := ?_) ?_ | refine qset_nf (by omega) ?_ | fail); done)) rfl ?_ | refine wp_ast rfl rfl rfl rfl ?_ | refine wp_asN rfl rfl rfl rfl ?_ | refine wp_putf rfl (by ((repeat' first | assumption | refine qset_ne rfl ?_ | refine qset_self (c0 := ?_) ?_ | refine qset_nf (by omega) ?_ | fail); done)) (by exact Nat.le_of_ble_eq_true rfl) rfl ?_ | refine wp_iald rfl (by ((repeat' first | assumption | refine qset_ne rfl ?_ | refine qset_self (c0 := ?_) ?_ | refine qset_nf (by omega) ?_ | fail); done)) ?_ ?_ | refine wp_lald rfl (by ((repeat' first | assumption | refine qset_ne rfl ?_ | refine qset_self (c0 := ?_) ?_ | refine qset_nf (by omega) ?_ | fail); done)) ?_ ?_ | refine wp_zald rfl (by ((repeat' first | assumption | refine qset_ne rfl ?_ | refine qset_self (c0 := ?_) ?_ | refine qset_nf (by omega) ?_ | fail); done)) ?_ ?_ | refine wp_iast rfl (by ((repeat' first | assumption | refine qset_ne rfl ?_ | refine qset_self (c0 := ?_) ?_ | refine qset_nf (by omega) ?_ | fail); done)) ?_ ?_ | refine wp_last rfl (by ((repeat' first | assumption | refine qset_ne rfl ?_ | refine qset_self (c0 := ?_) ?_ | refine qset_nf (by omega) ?_ | fail); done)) ?_ ?_ | refine wp_alen rfl (by ((repeat' first | assumption | refine qset_ne rfl ?_ | refine qset_self (c0 := ?_) ?_ | refine qset_nf (by omega) ?_ | fail); done)) rfl ?_ | refine wp_zast rfl (by ((repeat' first | assumption | refine qset_ne rfl ?_ | refine qset_self (c0 := ?_) ?_ | refine qset_nf (by omega) ?_ | fail); done)) ?_ ?_ | refine wp_v rfl rfl ?_ | refine ret_t ?_ | refine ret_f ?_ | fail
      refine wp_b rfl rfl (fun _ => ?_) (fun hc => absurd (neg1.symm.trans hc) (by decide))
      repeat' first | refine wp_ist rfl rfl rfl rfl ?_ | refine wp_lst rfl rfl rfl rfl ?_ | refine wp_iinc rfl rfl rfl rfl ?_ | refine wp_f rfl rfl rfl ?_ | refine wp_getf rfl (by ((repeat' first | assumption | refine qset_ne rfl ?_ | refine qset_self (c0 := ?_) ?_ | refine qset_nf (by omega) ?_ | fail); done)) rfl ?_ | refine wp_ast rfl rfl rfl rfl ?_ | refine wp_asN rfl rfl rfl rfl ?_ | refine wp_putf rfl (by ((repeat' first | assumption | refine qset_ne rfl ?_ | refine qset_self (c0 := ?_) ?_ | refine qset_nf (by omega) ?_ | fail); done)) (by exact Nat.le_of_ble_eq_true rfl) rfl ?_ | refine wp_iald rfl (by ((repeat' first | assumption | refine qset_ne rfl ?_ | refine qset_self (c0 := ?_) ?_ | refine qset_nf (by omega) ?_ | fail); done)) ?_ ?_ | refine wp_lald rfl (by ((repeat' first | assumption | refine qset_ne rfl ?_ | refine qset_self (c0 := ?_) ?_ | refine qset_nf (by omega) ?_ | fail); done)) ?_ ?_ | refine wp_zald rfl (by ((repeat' first | assumption | refine qset_ne rfl ?_ | refine qset_self (c0 := ?_) ?_ | refine qset_nf (by omega) ?_ | fail); done)) ?_ ?_ | refine wp_iast rfl (by ((repeat' first | assumption | refine qset_ne rfl ?_ | refine qset_self (c0 := ?_) ?_ | refine qset_nf (by omega) ?_ | fail); done)) ?_ ?_ | refine wp_last rfl (by ((repeat' first | assumption | refine qset_ne rfl ?_ | refine qset_self (c0 := ?_) ?_ | refine qset_nf (by omega) ?_ | fail); done)) ?_ ?_ | refine wp_alen rfl (by ((repeat' first | assumption | refine qset_ne rfl ?_ | refine qset_self (c0 := ?_) ?_ | refine qset_nf (by omega) ?_ | fail); done)) rfl ?_ | refine wp_zast rfl (by ((repeat' first | assumption | refine qset_ne rfl ?_ | refine qset_self (c0 := ?_) ?_ | refine qset_nf (by omega) ?_ | fail); done)) ?_ ?_ | refine wp_v rfl rfl ?_ | refine ret_t ?_ | refine ret_f ?_ | fail
      exact W2
  | succ m ih =>
    intro k h T hm W
    have hk : 4 * k + 3 < L := by omega
    have q0 : qin (nI (4 * k)) L = true := qin_nI (by omega) (by omega)
    have q1 : qin (nI (4 * k) + nI 1) L = true := by rw [nI_add]; exact qin_nI (by omega) (by omega)
    have q2 : qin (nI (4 * k) + nI 2) L = true := by rw [nI_add]; exact qin_nI (by omega) (by omega)
    have q3 : qin (nI (4 * k) + nI 3) L = true := by rw [nI_add]; exact qin_nI (by omega) (by omega)
    have nx : ∀ h2 T2, LW h2 T2 (k + 1) → wp (L, xs) (m_L_law, 560, [(3, .int (nI (4 * k))), (2, .ref 21), (1, .ref 0), (0, .float 0)], [], h2) Q := by
      intro h2 T2 W2
      have I := ih (k + 1) h2 T2 (by omega) W2
      rw [show nI (4 * (k + 1)) = nI (4 * k) + Int32.ofInt 4 from (nI_add (4 * k) 4).symm] at I
      repeat' first | refine wp_ist rfl rfl rfl rfl ?_ | refine wp_lst rfl rfl rfl rfl ?_ | refine wp_iinc rfl rfl rfl rfl ?_ | refine wp_f rfl rfl rfl ?_ | refine wp_getf rfl (by ((repeat' first | assumption | refine qset_ne rfl ?_ | refine qset_self (c0 := ?_) ?_ | refine qset_nf (by omega) ?_ | fail); done)) rfl ?_ | refine wp_ast rfl rfl rfl rfl ?_ | refine wp_asN rfl rfl rfl rfl ?_ | refine wp_putf rfl (by ((repeat' first | assumption | refine qset_ne rfl ?_ | refine qset_self (c0 := ?_) ?_ | refine qset_nf (by omega) ?_ | fail); done)) (by exact Nat.le_of_ble_eq_true rfl) rfl ?_ | refine wp_iald rfl (by ((repeat' first | assumption | refine qset_ne rfl ?_ | refine qset_self (c0 := ?_) ?_ | refine qset_nf (by omega) ?_ | fail); done)) ?_ ?_ | refine wp_lald rfl (by ((repeat' first | assumption | refine qset_ne rfl ?_ | refine qset_self (c0 := ?_) ?_ | refine qset_nf (by omega) ?_ | fail); done)) ?_ ?_ | refine wp_zald rfl (by ((repeat' first | assumption | refine qset_ne rfl ?_ | refine qset_self (c0 := ?_) ?_ | refine qset_nf (by omega) ?_ | fail); done)) ?_ ?_ | refine wp_iast rfl (by ((repeat' first | assumption | refine qset_ne rfl ?_ | refine qset_self (c0 := ?_) ?_ | refine qset_nf (by omega) ?_ | fail); done)) ?_ ?_ | refine wp_last rfl (by ((repeat' first | assumption | refine qset_ne rfl ?_ | refine qset_self (c0 := ?_) ?_ | refine qset_nf (by omega) ?_ | fail); done)) ?_ ?_ | refine wp_alen rfl (by ((repeat' first | assumption | refine qset_ne rfl ?_ | refine qset_self (c0 := ?_) ?_ | refine qset_nf (by omega) ?_ | fail); done)) rfl ?_ | refine wp_zast rfl (by ((repeat' first | assumption | refine qset_ne rfl ?_ | refine qset_self (c0 := ?_) ?_ | refine qset_nf (by omega) ?_ | fail); done)) ?_ ?_ | refine wp_v rfl rfl ?_ | refine ret_t ?_ | refine ret_f ?_ | fail
      refine wp_n rfl rfl ?_
      exact wp_sub I rfl ⟨rfl, rfl, rfl, rfl, trivial⟩
    repeat' first | refine wp_ist rfl rfl rfl rfl ?_ | refine wp_lst rfl rfl rfl rfl ?_ | refine wp_iinc rfl rfl rfl rfl ?_ | refine wp_f rfl rfl rfl ?_ | refine wp_getf rfl (by ((repeat' first | assumption | refine qset_ne rfl ?_ | refine qset_self (c0 := ?_) ?_ | refine qset_nf (by omega) ?_ | fail); done)) rfl ?_ | refine wp_ast rfl rfl rfl rfl ?_ | refine wp_asN rfl rfl rfl rfl ?_ | refine wp_putf rfl (by ((repeat' first | assumption | refine qset_ne rfl ?_ | refine qset_self (c0 := ?_) ?_ | refine qset_nf (by omega) ?_ | fail); done)) (by exact Nat.le_of_ble_eq_true rfl) rfl ?_ | refine wp_iald rfl (by ((repeat' first | assumption | refine qset_ne rfl ?_ | refine qset_self (c0 := ?_) ?_ | refine qset_nf (by omega) ?_ | fail); done)) ?_ ?_ | refine wp_lald rfl (by ((repeat' first | assumption | refine qset_ne rfl ?_ | refine qset_self (c0 := ?_) ?_ | refine qset_nf (by omega) ?_ | fail); done)) ?_ ?_ | refine wp_zald rfl (by ((repeat' first | assumption | refine qset_ne rfl ?_ | refine qset_self (c0 := ?_) ?_ | refine qset_nf (by omega) ?_ | fail); done)) ?_ ?_ | refine wp_iast rfl (by ((repeat' first | assumption | refine qset_ne rfl ?_ | refine qset_self (c0 := ?_) ?_ | refine qset_nf (by omega) ?_ | fail); done)) ?_ ?_ | refine wp_last rfl (by ((repeat' first | assumption | refine qset_ne rfl ?_ | refine qset_self (c0 := ?_) ?_ | refine qset_nf (by omega) ?_ | fail); done)) ?_ ?_ | refine wp_alen rfl (by ((repeat' first | assumption | refine qset_ne rfl ?_ | refine qset_self (c0 := ?_) ?_ | refine qset_nf (by omega) ?_ | fail); done)) rfl ?_ | refine wp_zast rfl (by ((repeat' first | assumption | refine qset_ne rfl ?_ | refine qset_self (c0 := ?_) ?_ | refine qset_nf (by omega) ?_ | fail); done)) ?_ ?_ | refine wp_v rfl rfl ?_ | refine ret_t ?_ | refine ret_f ?_ | fail
    rw [show Int32.ofNat L = nI L from rfl, pk_sub (show 4 ≤ L by omega)]
    refine wp_c2n rfl (by omega) (by omega) (by dsimp only [qn2]; omega) ?_
    refine wp_n rfl rfl ?_
    refine wp_n rfl rfl ?_
    refine wp_sald rfl q0 ?_
    refine wp_n rfl rfl ?_
    refine wp_n rfl rfl ?_
    obtain ⟨j, hj, ej⟩ := and15 (xs (nI (4 * k)).toNatClampNeg)
    rw [ej]
    rcases (show j = 0 ∨ j = 1 ∨ j = 2 ∨ j = 3 ∨ j = 4 ∨ j = 5 ∨ j = 6 ∨ j = 7 ∨ j = 8 ∨ j = 9 ∨ j = 10 ∨ j = 11 ∨ j = 12 ∨ j = 13 ∨ j = 14 ∨ j = 15 by omega) with rfl | rfl | rfl | rfl | rfl | rfl | rfl | rfl | rfl | rfl | rfl | rfl | rfl | rfl | rfl | rfl
    · exact wp_n rfl rfl (lw_0 W q1 q2 q3 nx)
    · exact wp_n rfl rfl (lw_1 W q1 q2 q3 nx)
    · exact wp_n rfl rfl (lw_2 W q1 q2 q3 nx)
    · exact wp_n rfl rfl (lw_3 W q1 q2 q3 nx)
    · exact wp_n rfl rfl (lw_4 W q1 q2 q3 nx)
    · exact wp_n rfl rfl (lw_5 W q1 q2 q3 nx)
    · exact wp_n rfl rfl (lw_6 W q1 q2 q3 nx)
    · exact wp_n rfl rfl (lw_7 W q1 q2 q3 nx)
    · exact wp_n rfl rfl (lw_8 W q1 q2 q3 nx)
    · exact wp_n rfl rfl (lw_9 W q1 q2 q3 nx)
    · exact wp_n rfl rfl (lw_10 W q1 q2 q3 nx)
    · exact wp_n rfl rfl (lw_11 W q1 q2 q3 nx)
    · exact wp_n rfl rfl (lw_12 W q1 q2 q3 nx)
    · exact wp_n rfl rfl (nx h T W.same)
    · exact wp_n rfl rfl (nx h T W.same)
    · exact wp_n rfl rfl (nx h T W.same)
end LWS
