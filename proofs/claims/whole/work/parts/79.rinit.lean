/-! The reference: its constructor. -/
def rArr : List (Nat × Nat) := [(0, 32), (0, 32), (1, 512), (1, 32), (0, 64), (0, 64), (0, 64), (0, 64), (1, 512), (1, 512), (1, 2048), (0, 64), (2, 16384), (0, 16384), (0, 16384), (3, 257), (3, 257), (0, 257), (3, 10280), (1, 10280), (3, 10280), (1, 200), (1, 200), (3, 200), (3, 40), (1, 40), (3, 40)]
/-- behind k arrays -/
def RI (h0 h : qH) (k : Nat) (fs : List Value) : Prop := h.length = 22 + k ∧ h[21]? = some (.inr (10, fs)) ∧ (∀ i q, i < k → rArr[i]? = some q → h[22 + i]? = some (qnew q.1 q.2)) ∧ (∀ p, p < 21 → h[p]? = h0[p]?) ∧ qss h = qss h0 + ((rArr.take k).map (·.2)).sum
set_option maxHeartbeats 4000000 in
theorem RI.step {h0 h h1 : qH} {k t n : Nat} {fs fs' : List Value} (H : RI h0 h k fs) (hq : rArr[k]? = some (t, n)) (hn : qcs (qnew t n) = n) (g : Gr h h1 (qnew t n)) : RI h0 (h1.set 21 (.inr (10, fs'))) (k + 1) fs' := by
  obtain ⟨a1, a2, a3, a4, a5⟩ := H
  obtain ⟨g1, g2, g3, g4⟩ := g
  have e21 : h1[21]? = some (.inr (10, fs)) := by rw [g2 21 (by omega)]; exact a2
  refine ⟨by rw [List.length_set, g1, a1]; omega, qset_self e21, fun i q hi hqi => ?_, fun p hp => ?_, ?_⟩
  · by_cases e : i = k
    · subst e
      rw [hq] at hqi
      cases hqi
      rw [List.getElem?_set_ne (by omega)]
      rw [a1] at g3
      exact g3
    · rw [List.getElem?_set_ne (by omega), g2 (22 + i) (by omega)]
      exact a3 i q (by omega) hqi
  · rw [List.getElem?_set_ne (by omega), g2 p (by omega)]
    exact a4 p hp
  · rw [qss_so e21, g4, a5, hn]
    obtain ⟨h1, h2⟩ := List.getElem?_eq_some_iff.mp hq
    rw [List.take_succ_eq_append_getElem h1, List.map_append, List.sum_append, h2]
    simp
    omega
set_option maxHeartbeats 4000000 in
theorem RI.put {h0 h : qH} {k : Nat} {fs fs' : List Value} (H : RI h0 h k fs) : RI h0 (h.set 21 (.inr (10, fs'))) k fs' := by
  obtain ⟨a1, a2, a3, a4, a5⟩ := H
  refine ⟨by rw [List.length_set]; exact a1, qset_self a2, fun i q hi hqi => ?_, fun p hp => ?_, ?_⟩
  · rw [List.getElem?_set_ne (by omega)]
    exact a3 i q hi hqi
  · rw [List.getElem?_set_ne (by omega)]
    exact a4 p hp
  · rw [qss_so a2]
    exact a5
section RR1
variable (sc : Nat × (Nat → Int32)) (h : qH)
set_option maxHeartbeats 4000000 in
theorem c_R_init (ha : h[21]? = some (.inr (10, qdef 10))) (hL : h.length = 22) : wp sc (m_R_init, 0, qargs 0 [.ref 21], [], h) (rU fun h' => RfAt h' (([], [], []), none, none) ∧ h'.length = 49 ∧ (∀ p, p < 21 → h'[p]? = h[p]?) ∧ qss h' = qss h + 85483) := by
  have r0 : RI h h 0 [.int 0, .null, .null, .null, .int 0, .null, .int 0, .null, .null, .null, .null, .null, .null, .null, .null, .null, .null, .null, .int 0, .int 0, .int 0, .null, .null, .null, .null, .null, .null, .null, .null, .null, .int 0, .null, .null, .null, .int 0, .long 0, .long 0, .int 0] := ⟨hL, ha, fun i q hi => absurd hi (Nat.not_lt_zero i), fun _ _ => rfl, rfl⟩
  refine wp_n rfl rfl ?_
  refine wp_n rfl rfl ?_
  refine wp_n rfl rfl ?_
  refine wp_n rfl rfl ?_
  refine wp_arrG (L := 22) (c := qnew 0 32) rfl rfl (by decide) r0.1 fun g0 x0 => ?_
  refine wp_putf rfl (x0.at r0.2.1) (by exact Nat.le_of_ble_eq_true rfl) rfl ?_
  have r1 : RI h (g0.set 21 (.inr (10, [.int 0, .ref 22, .null, .null, .int 0, .null, .int 0, .null, .null, .null, .null, .null, .null, .null, .null, .null, .null, .null, .int 0, .int 0, .int 0, .null, .null, .null, .null, .null, .null, .null, .null, .null, .int 0, .null, .null, .null, .int 0, .long 0, .long 0, .int 0]))) 1 [.int 0, .ref 22, .null, .null, .int 0, .null, .int 0, .null, .null, .null, .null, .null, .null, .null, .null, .null, .null, .null, .int 0, .int 0, .int 0, .null, .null, .null, .null, .null, .null, .null, .null, .null, .int 0, .null, .null, .null, .int 0, .long 0, .long 0, .int 0] := RI.step r0 (t := 0) (n := 32) rfl rfl x0
  change wp sc (_, _, _, _, g0.set 21 (.inr (10, [.int 0, .ref 22, .null, .null, .int 0, .null, .int 0, .null, .null, .null, .null, .null, .null, .null, .null, .null, .null, .null, .int 0, .int 0, .int 0, .null, .null, .null, .null, .null, .null, .null, .null, .null, .int 0, .null, .null, .null, .int 0, .long 0, .long 0, .int 0]))) _
  generalize g0.set 21 (.inr (10, [.int 0, .ref 22, .null, .null, .int 0, .null, .int 0, .null, .null, .null, .null, .null, .null, .null, .null, .null, .null, .null, .int 0, .int 0, .int 0, .null, .null, .null, .null, .null, .null, .null, .null, .null, .int 0, .null, .null, .null, .int 0, .long 0, .long 0, .int 0])) = k0 at r1 ⊢
  clear x0 r0
  refine wp_n rfl rfl ?_
  refine wp_n rfl rfl ?_
  refine wp_arrG (L := 23) (c := qnew 0 32) rfl rfl (by decide) r1.1 fun g1 x1 => ?_
  refine wp_putf rfl (x1.at r1.2.1) (by exact Nat.le_of_ble_eq_true rfl) rfl ?_
  have r2 : RI h (g1.set 21 (.inr (10, [.int 0, .ref 22, .ref 23, .null, .int 0, .null, .int 0, .null, .null, .null, .null, .null, .null, .null, .null, .null, .null, .null, .int 0, .int 0, .int 0, .null, .null, .null, .null, .null, .null, .null, .null, .null, .int 0, .null, .null, .null, .int 0, .long 0, .long 0, .int 0]))) 2 [.int 0, .ref 22, .ref 23, .null, .int 0, .null, .int 0, .null, .null, .null, .null, .null, .null, .null, .null, .null, .null, .null, .int 0, .int 0, .int 0, .null, .null, .null, .null, .null, .null, .null, .null, .null, .int 0, .null, .null, .null, .int 0, .long 0, .long 0, .int 0] := RI.step r1 (t := 0) (n := 32) rfl rfl x1
  change wp sc (_, _, _, _, g1.set 21 (.inr (10, [.int 0, .ref 22, .ref 23, .null, .int 0, .null, .int 0, .null, .null, .null, .null, .null, .null, .null, .null, .null, .null, .null, .int 0, .int 0, .int 0, .null, .null, .null, .null, .null, .null, .null, .null, .null, .int 0, .null, .null, .null, .int 0, .long 0, .long 0, .int 0]))) _
  generalize g1.set 21 (.inr (10, [.int 0, .ref 22, .ref 23, .null, .int 0, .null, .int 0, .null, .null, .null, .null, .null, .null, .null, .null, .null, .null, .null, .int 0, .int 0, .int 0, .null, .null, .null, .null, .null, .null, .null, .null, .null, .int 0, .null, .null, .null, .int 0, .long 0, .long 0, .int 0])) = k1 at r2 ⊢
  clear x1 r1
  refine wp_n rfl rfl ?_
  refine wp_n rfl rfl ?_
  refine wp_arrG (L := 24) (c := qnew 1 512) rfl rfl (by decide) r2.1 fun g2 x2 => ?_
  refine wp_putf rfl (x2.at r2.2.1) (by exact Nat.le_of_ble_eq_true rfl) rfl ?_
  have r3 : RI h (g2.set 21 (.inr (10, [.int 0, .ref 22, .ref 23, .ref 24, .int 0, .null, .int 0, .null, .null, .null, .null, .null, .null, .null, .null, .null, .null, .null, .int 0, .int 0, .int 0, .null, .null, .null, .null, .null, .null, .null, .null, .null, .int 0, .null, .null, .null, .int 0, .long 0, .long 0, .int 0]))) 3 [.int 0, .ref 22, .ref 23, .ref 24, .int 0, .null, .int 0, .null, .null, .null, .null, .null, .null, .null, .null, .null, .null, .null, .int 0, .int 0, .int 0, .null, .null, .null, .null, .null, .null, .null, .null, .null, .int 0, .null, .null, .null, .int 0, .long 0, .long 0, .int 0] := RI.step r2 (t := 1) (n := 512) rfl rfl x2
  change wp sc (_, _, _, _, g2.set 21 (.inr (10, [.int 0, .ref 22, .ref 23, .ref 24, .int 0, .null, .int 0, .null, .null, .null, .null, .null, .null, .null, .null, .null, .null, .null, .int 0, .int 0, .int 0, .null, .null, .null, .null, .null, .null, .null, .null, .null, .int 0, .null, .null, .null, .int 0, .long 0, .long 0, .int 0]))) _
  generalize g2.set 21 (.inr (10, [.int 0, .ref 22, .ref 23, .ref 24, .int 0, .null, .int 0, .null, .null, .null, .null, .null, .null, .null, .null, .null, .null, .null, .int 0, .int 0, .int 0, .null, .null, .null, .null, .null, .null, .null, .null, .null, .int 0, .null, .null, .null, .int 0, .long 0, .long 0, .int 0])) = k2 at r3 ⊢
  clear x2 r2
  refine wp_n rfl rfl ?_
  refine wp_n rfl rfl ?_
  refine wp_arrG (L := 25) (c := qnew 1 32) rfl rfl (by decide) r3.1 fun g3 x3 => ?_
  refine wp_putf rfl (x3.at r3.2.1) (by exact Nat.le_of_ble_eq_true rfl) rfl ?_
  have r4 : RI h (g3.set 21 (.inr (10, [.int 0, .ref 22, .ref 23, .ref 24, .int 0, .ref 25, .int 0, .null, .null, .null, .null, .null, .null, .null, .null, .null, .null, .null, .int 0, .int 0, .int 0, .null, .null, .null, .null, .null, .null, .null, .null, .null, .int 0, .null, .null, .null, .int 0, .long 0, .long 0, .int 0]))) 4 [.int 0, .ref 22, .ref 23, .ref 24, .int 0, .ref 25, .int 0, .null, .null, .null, .null, .null, .null, .null, .null, .null, .null, .null, .int 0, .int 0, .int 0, .null, .null, .null, .null, .null, .null, .null, .null, .null, .int 0, .null, .null, .null, .int 0, .long 0, .long 0, .int 0] := RI.step r3 (t := 1) (n := 32) rfl rfl x3
  change wp sc (_, _, _, _, g3.set 21 (.inr (10, [.int 0, .ref 22, .ref 23, .ref 24, .int 0, .ref 25, .int 0, .null, .null, .null, .null, .null, .null, .null, .null, .null, .null, .null, .int 0, .int 0, .int 0, .null, .null, .null, .null, .null, .null, .null, .null, .null, .int 0, .null, .null, .null, .int 0, .long 0, .long 0, .int 0]))) _
  generalize g3.set 21 (.inr (10, [.int 0, .ref 22, .ref 23, .ref 24, .int 0, .ref 25, .int 0, .null, .null, .null, .null, .null, .null, .null, .null, .null, .null, .null, .int 0, .int 0, .int 0, .null, .null, .null, .null, .null, .null, .null, .null, .null, .int 0, .null, .null, .null, .int 0, .long 0, .long 0, .int 0])) = k3 at r4 ⊢
  clear x3 r3
  refine wp_n rfl rfl ?_
  refine wp_n rfl rfl ?_
  refine wp_arrG (L := 26) (c := qnew 0 64) rfl rfl (by decide) r4.1 fun g4 x4 => ?_
  refine wp_putf rfl (x4.at r4.2.1) (by exact Nat.le_of_ble_eq_true rfl) rfl ?_
  have r5 : RI h (g4.set 21 (.inr (10, [.int 0, .ref 22, .ref 23, .ref 24, .int 0, .ref 25, .int 0, .ref 26, .null, .null, .null, .null, .null, .null, .null, .null, .null, .null, .int 0, .int 0, .int 0, .null, .null, .null, .null, .null, .null, .null, .null, .null, .int 0, .null, .null, .null, .int 0, .long 0, .long 0, .int 0]))) 5 [.int 0, .ref 22, .ref 23, .ref 24, .int 0, .ref 25, .int 0, .ref 26, .null, .null, .null, .null, .null, .null, .null, .null, .null, .null, .int 0, .int 0, .int 0, .null, .null, .null, .null, .null, .null, .null, .null, .null, .int 0, .null, .null, .null, .int 0, .long 0, .long 0, .int 0] := RI.step r4 (t := 0) (n := 64) rfl rfl x4
  change wp sc (_, _, _, _, g4.set 21 (.inr (10, [.int 0, .ref 22, .ref 23, .ref 24, .int 0, .ref 25, .int 0, .ref 26, .null, .null, .null, .null, .null, .null, .null, .null, .null, .null, .int 0, .int 0, .int 0, .null, .null, .null, .null, .null, .null, .null, .null, .null, .int 0, .null, .null, .null, .int 0, .long 0, .long 0, .int 0]))) _
  generalize g4.set 21 (.inr (10, [.int 0, .ref 22, .ref 23, .ref 24, .int 0, .ref 25, .int 0, .ref 26, .null, .null, .null, .null, .null, .null, .null, .null, .null, .null, .int 0, .int 0, .int 0, .null, .null, .null, .null, .null, .null, .null, .null, .null, .int 0, .null, .null, .null, .int 0, .long 0, .long 0, .int 0])) = k4 at r5 ⊢
  clear x4 r4
  refine wp_n rfl rfl ?_
  refine wp_n rfl rfl ?_
  refine wp_arrG (L := 27) (c := qnew 0 64) rfl rfl (by decide) r5.1 fun g5 x5 => ?_
  refine wp_putf rfl (x5.at r5.2.1) (by exact Nat.le_of_ble_eq_true rfl) rfl ?_
  have r6 : RI h (g5.set 21 (.inr (10, [.int 0, .ref 22, .ref 23, .ref 24, .int 0, .ref 25, .int 0, .ref 26, .ref 27, .null, .null, .null, .null, .null, .null, .null, .null, .null, .int 0, .int 0, .int 0, .null, .null, .null, .null, .null, .null, .null, .null, .null, .int 0, .null, .null, .null, .int 0, .long 0, .long 0, .int 0]))) 6 [.int 0, .ref 22, .ref 23, .ref 24, .int 0, .ref 25, .int 0, .ref 26, .ref 27, .null, .null, .null, .null, .null, .null, .null, .null, .null, .int 0, .int 0, .int 0, .null, .null, .null, .null, .null, .null, .null, .null, .null, .int 0, .null, .null, .null, .int 0, .long 0, .long 0, .int 0] := RI.step r5 (t := 0) (n := 64) rfl rfl x5
  change wp sc (_, _, _, _, g5.set 21 (.inr (10, [.int 0, .ref 22, .ref 23, .ref 24, .int 0, .ref 25, .int 0, .ref 26, .ref 27, .null, .null, .null, .null, .null, .null, .null, .null, .null, .int 0, .int 0, .int 0, .null, .null, .null, .null, .null, .null, .null, .null, .null, .int 0, .null, .null, .null, .int 0, .long 0, .long 0, .int 0]))) _
  generalize g5.set 21 (.inr (10, [.int 0, .ref 22, .ref 23, .ref 24, .int 0, .ref 25, .int 0, .ref 26, .ref 27, .null, .null, .null, .null, .null, .null, .null, .null, .null, .int 0, .int 0, .int 0, .null, .null, .null, .null, .null, .null, .null, .null, .null, .int 0, .null, .null, .null, .int 0, .long 0, .long 0, .int 0])) = k5 at r6 ⊢
  clear x5 r5
  refine wp_n rfl rfl ?_
  refine wp_n rfl rfl ?_
  refine wp_arrG (L := 28) (c := qnew 0 64) rfl rfl (by decide) r6.1 fun g6 x6 => ?_
  refine wp_putf rfl (x6.at r6.2.1) (by exact Nat.le_of_ble_eq_true rfl) rfl ?_
  have r7 : RI h (g6.set 21 (.inr (10, [.int 0, .ref 22, .ref 23, .ref 24, .int 0, .ref 25, .int 0, .ref 26, .ref 27, .ref 28, .null, .null, .null, .null, .null, .null, .null, .null, .int 0, .int 0, .int 0, .null, .null, .null, .null, .null, .null, .null, .null, .null, .int 0, .null, .null, .null, .int 0, .long 0, .long 0, .int 0]))) 7 [.int 0, .ref 22, .ref 23, .ref 24, .int 0, .ref 25, .int 0, .ref 26, .ref 27, .ref 28, .null, .null, .null, .null, .null, .null, .null, .null, .int 0, .int 0, .int 0, .null, .null, .null, .null, .null, .null, .null, .null, .null, .int 0, .null, .null, .null, .int 0, .long 0, .long 0, .int 0] := RI.step r6 (t := 0) (n := 64) rfl rfl x6
  change wp sc (_, _, _, _, g6.set 21 (.inr (10, [.int 0, .ref 22, .ref 23, .ref 24, .int 0, .ref 25, .int 0, .ref 26, .ref 27, .ref 28, .null, .null, .null, .null, .null, .null, .null, .null, .int 0, .int 0, .int 0, .null, .null, .null, .null, .null, .null, .null, .null, .null, .int 0, .null, .null, .null, .int 0, .long 0, .long 0, .int 0]))) _
  generalize g6.set 21 (.inr (10, [.int 0, .ref 22, .ref 23, .ref 24, .int 0, .ref 25, .int 0, .ref 26, .ref 27, .ref 28, .null, .null, .null, .null, .null, .null, .null, .null, .int 0, .int 0, .int 0, .null, .null, .null, .null, .null, .null, .null, .null, .null, .int 0, .null, .null, .null, .int 0, .long 0, .long 0, .int 0])) = k6 at r7 ⊢
  clear x6 r6
  refine wp_n rfl rfl ?_
  refine wp_n rfl rfl ?_
  refine wp_arrG (L := 29) (c := qnew 0 64) rfl rfl (by decide) r7.1 fun g7 x7 => ?_
  refine wp_putf rfl (x7.at r7.2.1) (by exact Nat.le_of_ble_eq_true rfl) rfl ?_
  have r8 : RI h (g7.set 21 (.inr (10, [.int 0, .ref 22, .ref 23, .ref 24, .int 0, .ref 25, .int 0, .ref 26, .ref 27, .ref 28, .ref 29, .null, .null, .null, .null, .null, .null, .null, .int 0, .int 0, .int 0, .null, .null, .null, .null, .null, .null, .null, .null, .null, .int 0, .null, .null, .null, .int 0, .long 0, .long 0, .int 0]))) 8 [.int 0, .ref 22, .ref 23, .ref 24, .int 0, .ref 25, .int 0, .ref 26, .ref 27, .ref 28, .ref 29, .null, .null, .null, .null, .null, .null, .null, .int 0, .int 0, .int 0, .null, .null, .null, .null, .null, .null, .null, .null, .null, .int 0, .null, .null, .null, .int 0, .long 0, .long 0, .int 0] := RI.step r7 (t := 0) (n := 64) rfl rfl x7
  change wp sc (_, _, _, _, g7.set 21 (.inr (10, [.int 0, .ref 22, .ref 23, .ref 24, .int 0, .ref 25, .int 0, .ref 26, .ref 27, .ref 28, .ref 29, .null, .null, .null, .null, .null, .null, .null, .int 0, .int 0, .int 0, .null, .null, .null, .null, .null, .null, .null, .null, .null, .int 0, .null, .null, .null, .int 0, .long 0, .long 0, .int 0]))) _
  generalize g7.set 21 (.inr (10, [.int 0, .ref 22, .ref 23, .ref 24, .int 0, .ref 25, .int 0, .ref 26, .ref 27, .ref 28, .ref 29, .null, .null, .null, .null, .null, .null, .null, .int 0, .int 0, .int 0, .null, .null, .null, .null, .null, .null, .null, .null, .null, .int 0, .null, .null, .null, .int 0, .long 0, .long 0, .int 0])) = k7 at r8 ⊢
  clear x7 r7
  refine wp_n rfl rfl ?_
  refine wp_n rfl rfl ?_
  refine wp_arrG (L := 30) (c := qnew 1 512) rfl rfl (by decide) r8.1 fun g8 x8 => ?_
  refine wp_putf rfl (x8.at r8.2.1) (by exact Nat.le_of_ble_eq_true rfl) rfl ?_
  have r9 : RI h (g8.set 21 (.inr (10, [.int 0, .ref 22, .ref 23, .ref 24, .int 0, .ref 25, .int 0, .ref 26, .ref 27, .ref 28, .ref 29, .ref 30, .null, .null, .null, .null, .null, .null, .int 0, .int 0, .int 0, .null, .null, .null, .null, .null, .null, .null, .null, .null, .int 0, .null, .null, .null, .int 0, .long 0, .long 0, .int 0]))) 9 [.int 0, .ref 22, .ref 23, .ref 24, .int 0, .ref 25, .int 0, .ref 26, .ref 27, .ref 28, .ref 29, .ref 30, .null, .null, .null, .null, .null, .null, .int 0, .int 0, .int 0, .null, .null, .null, .null, .null, .null, .null, .null, .null, .int 0, .null, .null, .null, .int 0, .long 0, .long 0, .int 0] := RI.step r8 (t := 1) (n := 512) rfl rfl x8
  change wp sc (_, _, _, _, g8.set 21 (.inr (10, [.int 0, .ref 22, .ref 23, .ref 24, .int 0, .ref 25, .int 0, .ref 26, .ref 27, .ref 28, .ref 29, .ref 30, .null, .null, .null, .null, .null, .null, .int 0, .int 0, .int 0, .null, .null, .null, .null, .null, .null, .null, .null, .null, .int 0, .null, .null, .null, .int 0, .long 0, .long 0, .int 0]))) _
  generalize g8.set 21 (.inr (10, [.int 0, .ref 22, .ref 23, .ref 24, .int 0, .ref 25, .int 0, .ref 26, .ref 27, .ref 28, .ref 29, .ref 30, .null, .null, .null, .null, .null, .null, .int 0, .int 0, .int 0, .null, .null, .null, .null, .null, .null, .null, .null, .null, .int 0, .null, .null, .null, .int 0, .long 0, .long 0, .int 0])) = k8 at r9 ⊢
  clear x8 r8
  refine wp_n rfl rfl ?_
  refine wp_n rfl rfl ?_
  refine wp_arrG (L := 31) (c := qnew 1 512) rfl rfl (by decide) r9.1 fun g9 x9 => ?_
  refine wp_putf rfl (x9.at r9.2.1) (by exact Nat.le_of_ble_eq_true rfl) rfl ?_
  have r10 : RI h (g9.set 21 (.inr (10, [.int 0, .ref 22, .ref 23, .ref 24, .int 0, .ref 25, .int 0, .ref 26, .ref 27, .ref 28, .ref 29, .ref 30, .ref 31, .null, .null, .null, .null, .null, .int 0, .int 0, .int 0, .null, .null, .null, .null, .null, .null, .null, .null, .null, .int 0, .null, .null, .null, .int 0, .long 0, .long 0, .int 0]))) 10 [.int 0, .ref 22, .ref 23, .ref 24, .int 0, .ref 25, .int 0, .ref 26, .ref 27, .ref 28, .ref 29, .ref 30, .ref 31, .null, .null, .null, .null, .null, .int 0, .int 0, .int 0, .null, .null, .null, .null, .null, .null, .null, .null, .null, .int 0, .null, .null, .null, .int 0, .long 0, .long 0, .int 0] := RI.step r9 (t := 1) (n := 512) rfl rfl x9
  change wp sc (_, _, _, _, g9.set 21 (.inr (10, [.int 0, .ref 22, .ref 23, .ref 24, .int 0, .ref 25, .int 0, .ref 26, .ref 27, .ref 28, .ref 29, .ref 30, .ref 31, .null, .null, .null, .null, .null, .int 0, .int 0, .int 0, .null, .null, .null, .null, .null, .null, .null, .null, .null, .int 0, .null, .null, .null, .int 0, .long 0, .long 0, .int 0]))) _
  generalize g9.set 21 (.inr (10, [.int 0, .ref 22, .ref 23, .ref 24, .int 0, .ref 25, .int 0, .ref 26, .ref 27, .ref 28, .ref 29, .ref 30, .ref 31, .null, .null, .null, .null, .null, .int 0, .int 0, .int 0, .null, .null, .null, .null, .null, .null, .null, .null, .null, .int 0, .null, .null, .null, .int 0, .long 0, .long 0, .int 0])) = k9 at r10 ⊢
  clear x9 r9
  refine wp_n rfl rfl ?_
  refine wp_n rfl rfl ?_
  refine wp_arrG (L := 32) (c := qnew 1 2048) rfl rfl (by decide) r10.1 fun g10 x10 => ?_
  refine wp_putf rfl (x10.at r10.2.1) (by exact Nat.le_of_ble_eq_true rfl) rfl ?_
  have r11 : RI h (g10.set 21 (.inr (10, [.int 0, .ref 22, .ref 23, .ref 24, .int 0, .ref 25, .int 0, .ref 26, .ref 27, .ref 28, .ref 29, .ref 30, .ref 31, .ref 32, .null, .null, .null, .null, .int 0, .int 0, .int 0, .null, .null, .null, .null, .null, .null, .null, .null, .null, .int 0, .null, .null, .null, .int 0, .long 0, .long 0, .int 0]))) 11 [.int 0, .ref 22, .ref 23, .ref 24, .int 0, .ref 25, .int 0, .ref 26, .ref 27, .ref 28, .ref 29, .ref 30, .ref 31, .ref 32, .null, .null, .null, .null, .int 0, .int 0, .int 0, .null, .null, .null, .null, .null, .null, .null, .null, .null, .int 0, .null, .null, .null, .int 0, .long 0, .long 0, .int 0] := RI.step r10 (t := 1) (n := 2048) rfl rfl x10
  change wp sc (_, _, _, _, g10.set 21 (.inr (10, [.int 0, .ref 22, .ref 23, .ref 24, .int 0, .ref 25, .int 0, .ref 26, .ref 27, .ref 28, .ref 29, .ref 30, .ref 31, .ref 32, .null, .null, .null, .null, .int 0, .int 0, .int 0, .null, .null, .null, .null, .null, .null, .null, .null, .null, .int 0, .null, .null, .null, .int 0, .long 0, .long 0, .int 0]))) _
  generalize g10.set 21 (.inr (10, [.int 0, .ref 22, .ref 23, .ref 24, .int 0, .ref 25, .int 0, .ref 26, .ref 27, .ref 28, .ref 29, .ref 30, .ref 31, .ref 32, .null, .null, .null, .null, .int 0, .int 0, .int 0, .null, .null, .null, .null, .null, .null, .null, .null, .null, .int 0, .null, .null, .null, .int 0, .long 0, .long 0, .int 0])) = k10 at r11 ⊢
  clear x10 r10
  refine wp_n rfl rfl ?_
  refine wp_n rfl rfl ?_
  refine wp_arrG (L := 33) (c := qnew 0 64) rfl rfl (by decide) r11.1 fun g11 x11 => ?_
  refine wp_putf rfl (x11.at r11.2.1) (by exact Nat.le_of_ble_eq_true rfl) rfl ?_
  have r12 : RI h (g11.set 21 (.inr (10, [.int 0, .ref 22, .ref 23, .ref 24, .int 0, .ref 25, .int 0, .ref 26, .ref 27, .ref 28, .ref 29, .ref 30, .ref 31, .ref 32, .ref 33, .null, .null, .null, .int 0, .int 0, .int 0, .null, .null, .null, .null, .null, .null, .null, .null, .null, .int 0, .null, .null, .null, .int 0, .long 0, .long 0, .int 0]))) 12 [.int 0, .ref 22, .ref 23, .ref 24, .int 0, .ref 25, .int 0, .ref 26, .ref 27, .ref 28, .ref 29, .ref 30, .ref 31, .ref 32, .ref 33, .null, .null, .null, .int 0, .int 0, .int 0, .null, .null, .null, .null, .null, .null, .null, .null, .null, .int 0, .null, .null, .null, .int 0, .long 0, .long 0, .int 0] := RI.step r11 (t := 0) (n := 64) rfl rfl x11
  change wp sc (_, _, _, _, g11.set 21 (.inr (10, [.int 0, .ref 22, .ref 23, .ref 24, .int 0, .ref 25, .int 0, .ref 26, .ref 27, .ref 28, .ref 29, .ref 30, .ref 31, .ref 32, .ref 33, .null, .null, .null, .int 0, .int 0, .int 0, .null, .null, .null, .null, .null, .null, .null, .null, .null, .int 0, .null, .null, .null, .int 0, .long 0, .long 0, .int 0]))) _
  generalize g11.set 21 (.inr (10, [.int 0, .ref 22, .ref 23, .ref 24, .int 0, .ref 25, .int 0, .ref 26, .ref 27, .ref 28, .ref 29, .ref 30, .ref 31, .ref 32, .ref 33, .null, .null, .null, .int 0, .int 0, .int 0, .null, .null, .null, .null, .null, .null, .null, .null, .null, .int 0, .null, .null, .null, .int 0, .long 0, .long 0, .int 0])) = k11 at r12 ⊢
  clear x11 r11
  refine wp_n rfl rfl ?_
  refine wp_n rfl rfl ?_
  refine wp_arrG (L := 34) (c := qnew 2 16384) rfl rfl (by decide) r12.1 fun g12 x12 => ?_
  refine wp_putf rfl (x12.at r12.2.1) (by exact Nat.le_of_ble_eq_true rfl) rfl ?_
  have r13 : RI h (g12.set 21 (.inr (10, [.int 0, .ref 22, .ref 23, .ref 24, .int 0, .ref 25, .int 0, .ref 26, .ref 27, .ref 28, .ref 29, .ref 30, .ref 31, .ref 32, .ref 33, .ref 34, .null, .null, .int 0, .int 0, .int 0, .null, .null, .null, .null, .null, .null, .null, .null, .null, .int 0, .null, .null, .null, .int 0, .long 0, .long 0, .int 0]))) 13 [.int 0, .ref 22, .ref 23, .ref 24, .int 0, .ref 25, .int 0, .ref 26, .ref 27, .ref 28, .ref 29, .ref 30, .ref 31, .ref 32, .ref 33, .ref 34, .null, .null, .int 0, .int 0, .int 0, .null, .null, .null, .null, .null, .null, .null, .null, .null, .int 0, .null, .null, .null, .int 0, .long 0, .long 0, .int 0] := RI.step r12 (t := 2) (n := 16384) rfl rfl x12
  change wp sc (_, _, _, _, g12.set 21 (.inr (10, [.int 0, .ref 22, .ref 23, .ref 24, .int 0, .ref 25, .int 0, .ref 26, .ref 27, .ref 28, .ref 29, .ref 30, .ref 31, .ref 32, .ref 33, .ref 34, .null, .null, .int 0, .int 0, .int 0, .null, .null, .null, .null, .null, .null, .null, .null, .null, .int 0, .null, .null, .null, .int 0, .long 0, .long 0, .int 0]))) _
  generalize g12.set 21 (.inr (10, [.int 0, .ref 22, .ref 23, .ref 24, .int 0, .ref 25, .int 0, .ref 26, .ref 27, .ref 28, .ref 29, .ref 30, .ref 31, .ref 32, .ref 33, .ref 34, .null, .null, .int 0, .int 0, .int 0, .null, .null, .null, .null, .null, .null, .null, .null, .null, .int 0, .null, .null, .null, .int 0, .long 0, .long 0, .int 0])) = k12 at r13 ⊢
  clear x12 r12
  refine wp_n rfl rfl ?_
  refine wp_n rfl rfl ?_
  refine wp_arrG (L := 35) (c := qnew 0 16384) rfl rfl (by decide) r13.1 fun g13 x13 => ?_
  refine wp_putf rfl (x13.at r13.2.1) (by exact Nat.le_of_ble_eq_true rfl) rfl ?_
  have r14 : RI h (g13.set 21 (.inr (10, [.int 0, .ref 22, .ref 23, .ref 24, .int 0, .ref 25, .int 0, .ref 26, .ref 27, .ref 28, .ref 29, .ref 30, .ref 31, .ref 32, .ref 33, .ref 34, .ref 35, .null, .int 0, .int 0, .int 0, .null, .null, .null, .null, .null, .null, .null, .null, .null, .int 0, .null, .null, .null, .int 0, .long 0, .long 0, .int 0]))) 14 [.int 0, .ref 22, .ref 23, .ref 24, .int 0, .ref 25, .int 0, .ref 26, .ref 27, .ref 28, .ref 29, .ref 30, .ref 31, .ref 32, .ref 33, .ref 34, .ref 35, .null, .int 0, .int 0, .int 0, .null, .null, .null, .null, .null, .null, .null, .null, .null, .int 0, .null, .null, .null, .int 0, .long 0, .long 0, .int 0] := RI.step r13 (t := 0) (n := 16384) rfl rfl x13
  change wp sc (_, _, _, _, g13.set 21 (.inr (10, [.int 0, .ref 22, .ref 23, .ref 24, .int 0, .ref 25, .int 0, .ref 26, .ref 27, .ref 28, .ref 29, .ref 30, .ref 31, .ref 32, .ref 33, .ref 34, .ref 35, .null, .int 0, .int 0, .int 0, .null, .null, .null, .null, .null, .null, .null, .null, .null, .int 0, .null, .null, .null, .int 0, .long 0, .long 0, .int 0]))) _
  generalize g13.set 21 (.inr (10, [.int 0, .ref 22, .ref 23, .ref 24, .int 0, .ref 25, .int 0, .ref 26, .ref 27, .ref 28, .ref 29, .ref 30, .ref 31, .ref 32, .ref 33, .ref 34, .ref 35, .null, .int 0, .int 0, .int 0, .null, .null, .null, .null, .null, .null, .null, .null, .null, .int 0, .null, .null, .null, .int 0, .long 0, .long 0, .int 0])) = k13 at r14 ⊢
  clear x13 r13
  refine wp_n rfl rfl ?_
  refine wp_n rfl rfl ?_
  refine wp_arrG (L := 36) (c := qnew 0 16384) rfl rfl (by decide) r14.1 fun g14 x14 => ?_
  refine wp_putf rfl (x14.at r14.2.1) (by exact Nat.le_of_ble_eq_true rfl) rfl ?_
  have r15 : RI h (g14.set 21 (.inr (10, [.int 0, .ref 22, .ref 23, .ref 24, .int 0, .ref 25, .int 0, .ref 26, .ref 27, .ref 28, .ref 29, .ref 30, .ref 31, .ref 32, .ref 33, .ref 34, .ref 35, .ref 36, .int 0, .int 0, .int 0, .null, .null, .null, .null, .null, .null, .null, .null, .null, .int 0, .null, .null, .null, .int 0, .long 0, .long 0, .int 0]))) 15 [.int 0, .ref 22, .ref 23, .ref 24, .int 0, .ref 25, .int 0, .ref 26, .ref 27, .ref 28, .ref 29, .ref 30, .ref 31, .ref 32, .ref 33, .ref 34, .ref 35, .ref 36, .int 0, .int 0, .int 0, .null, .null, .null, .null, .null, .null, .null, .null, .null, .int 0, .null, .null, .null, .int 0, .long 0, .long 0, .int 0] := RI.step r14 (t := 0) (n := 16384) rfl rfl x14
  change wp sc (_, _, _, _, g14.set 21 (.inr (10, [.int 0, .ref 22, .ref 23, .ref 24, .int 0, .ref 25, .int 0, .ref 26, .ref 27, .ref 28, .ref 29, .ref 30, .ref 31, .ref 32, .ref 33, .ref 34, .ref 35, .ref 36, .int 0, .int 0, .int 0, .null, .null, .null, .null, .null, .null, .null, .null, .null, .int 0, .null, .null, .null, .int 0, .long 0, .long 0, .int 0]))) _
  generalize g14.set 21 (.inr (10, [.int 0, .ref 22, .ref 23, .ref 24, .int 0, .ref 25, .int 0, .ref 26, .ref 27, .ref 28, .ref 29, .ref 30, .ref 31, .ref 32, .ref 33, .ref 34, .ref 35, .ref 36, .int 0, .int 0, .int 0, .null, .null, .null, .null, .null, .null, .null, .null, .null, .int 0, .null, .null, .null, .int 0, .long 0, .long 0, .int 0])) = k14 at r15 ⊢
  clear x14 r14
  refine wp_n rfl rfl ?_
  refine wp_n rfl rfl ?_
  refine wp_putf rfl r15.2.1 (by exact Nat.le_of_ble_eq_true rfl) rfl ?_
  have r16 : RI h (k14.set 21 (.inr (10, [.int 0, .ref 22, .ref 23, .ref 24, .int 0, .ref 25, .int 0, .ref 26, .ref 27, .ref 28, .ref 29, .ref 30, .ref 31, .ref 32, .ref 33, .ref 34, .ref 35, .ref 36, .int 0, .int (-nI 1), .int 0, .null, .null, .null, .null, .null, .null, .null, .null, .null, .int 0, .null, .null, .null, .int 0, .long 0, .long 0, .int 0]))) 15 [.int 0, .ref 22, .ref 23, .ref 24, .int 0, .ref 25, .int 0, .ref 26, .ref 27, .ref 28, .ref 29, .ref 30, .ref 31, .ref 32, .ref 33, .ref 34, .ref 35, .ref 36, .int 0, .int (-nI 1), .int 0, .null, .null, .null, .null, .null, .null, .null, .null, .null, .int 0, .null, .null, .null, .int 0, .long 0, .long 0, .int 0] := RI.put r15
  change wp sc (_, _, _, _, k14.set 21 (.inr (10, [.int 0, .ref 22, .ref 23, .ref 24, .int 0, .ref 25, .int 0, .ref 26, .ref 27, .ref 28, .ref 29, .ref 30, .ref 31, .ref 32, .ref 33, .ref 34, .ref 35, .ref 36, .int 0, .int (-nI 1), .int 0, .null, .null, .null, .null, .null, .null, .null, .null, .null, .int 0, .null, .null, .null, .int 0, .long 0, .long 0, .int 0]))) _
  generalize k14.set 21 (.inr (10, [.int 0, .ref 22, .ref 23, .ref 24, .int 0, .ref 25, .int 0, .ref 26, .ref 27, .ref 28, .ref 29, .ref 30, .ref 31, .ref 32, .ref 33, .ref 34, .ref 35, .ref 36, .int 0, .int (-nI 1), .int 0, .null, .null, .null, .null, .null, .null, .null, .null, .null, .int 0, .null, .null, .null, .int 0, .long 0, .long 0, .int 0])) = k15 at r16 ⊢
  clear r15
  refine wp_n rfl rfl ?_
  refine wp_n rfl rfl ?_
  refine wp_putf rfl r16.2.1 (by exact Nat.le_of_ble_eq_true rfl) rfl ?_
  have r17 : RI h (k15.set 21 (.inr (10, [.int 0, .ref 22, .ref 23, .ref 24, .int 0, .ref 25, .int 0, .ref 26, .ref 27, .ref 28, .ref 29, .ref 30, .ref 31, .ref 32, .ref 33, .ref 34, .ref 35, .ref 36, .int 0, .int (-nI 1), .int (-nI 2), .null, .null, .null, .null, .null, .null, .null, .null, .null, .int 0, .null, .null, .null, .int 0, .long 0, .long 0, .int 0]))) 15 [.int 0, .ref 22, .ref 23, .ref 24, .int 0, .ref 25, .int 0, .ref 26, .ref 27, .ref 28, .ref 29, .ref 30, .ref 31, .ref 32, .ref 33, .ref 34, .ref 35, .ref 36, .int 0, .int (-nI 1), .int (-nI 2), .null, .null, .null, .null, .null, .null, .null, .null, .null, .int 0, .null, .null, .null, .int 0, .long 0, .long 0, .int 0] := RI.put r16
  change wp sc (_, _, _, _, k15.set 21 (.inr (10, [.int 0, .ref 22, .ref 23, .ref 24, .int 0, .ref 25, .int 0, .ref 26, .ref 27, .ref 28, .ref 29, .ref 30, .ref 31, .ref 32, .ref 33, .ref 34, .ref 35, .ref 36, .int 0, .int (-nI 1), .int (-nI 2), .null, .null, .null, .null, .null, .null, .null, .null, .null, .int 0, .null, .null, .null, .int 0, .long 0, .long 0, .int 0]))) _
  generalize k15.set 21 (.inr (10, [.int 0, .ref 22, .ref 23, .ref 24, .int 0, .ref 25, .int 0, .ref 26, .ref 27, .ref 28, .ref 29, .ref 30, .ref 31, .ref 32, .ref 33, .ref 34, .ref 35, .ref 36, .int 0, .int (-nI 1), .int (-nI 2), .null, .null, .null, .null, .null, .null, .null, .null, .null, .int 0, .null, .null, .null, .int 0, .long 0, .long 0, .int 0])) = k16 at r17 ⊢
  clear r16
  refine wp_n rfl rfl ?_
  refine wp_n rfl rfl ?_
  refine wp_arrG (L := 37) (c := qnew 3 257) rfl rfl (by decide) r17.1 fun g17 x17 => ?_
  refine wp_putf rfl (x17.at r17.2.1) (by exact Nat.le_of_ble_eq_true rfl) rfl ?_
  have r18 : RI h (g17.set 21 (.inr (10, [.int 0, .ref 22, .ref 23, .ref 24, .int 0, .ref 25, .int 0, .ref 26, .ref 27, .ref 28, .ref 29, .ref 30, .ref 31, .ref 32, .ref 33, .ref 34, .ref 35, .ref 36, .int 0, .int (-nI 1), .int (-nI 2), .ref 37, .null, .null, .null, .null, .null, .null, .null, .null, .int 0, .null, .null, .null, .int 0, .long 0, .long 0, .int 0]))) 16 [.int 0, .ref 22, .ref 23, .ref 24, .int 0, .ref 25, .int 0, .ref 26, .ref 27, .ref 28, .ref 29, .ref 30, .ref 31, .ref 32, .ref 33, .ref 34, .ref 35, .ref 36, .int 0, .int (-nI 1), .int (-nI 2), .ref 37, .null, .null, .null, .null, .null, .null, .null, .null, .int 0, .null, .null, .null, .int 0, .long 0, .long 0, .int 0] := RI.step r17 (t := 3) (n := 257) rfl rfl x17
  change wp sc (_, _, _, _, g17.set 21 (.inr (10, [.int 0, .ref 22, .ref 23, .ref 24, .int 0, .ref 25, .int 0, .ref 26, .ref 27, .ref 28, .ref 29, .ref 30, .ref 31, .ref 32, .ref 33, .ref 34, .ref 35, .ref 36, .int 0, .int (-nI 1), .int (-nI 2), .ref 37, .null, .null, .null, .null, .null, .null, .null, .null, .int 0, .null, .null, .null, .int 0, .long 0, .long 0, .int 0]))) _
  generalize g17.set 21 (.inr (10, [.int 0, .ref 22, .ref 23, .ref 24, .int 0, .ref 25, .int 0, .ref 26, .ref 27, .ref 28, .ref 29, .ref 30, .ref 31, .ref 32, .ref 33, .ref 34, .ref 35, .ref 36, .int 0, .int (-nI 1), .int (-nI 2), .ref 37, .null, .null, .null, .null, .null, .null, .null, .null, .int 0, .null, .null, .null, .int 0, .long 0, .long 0, .int 0])) = k17 at r18 ⊢
  clear x17 r17
  refine wp_n rfl rfl ?_
  refine wp_n rfl rfl ?_
  refine wp_arrG (L := 38) (c := qnew 3 257) rfl rfl (by decide) r18.1 fun g18 x18 => ?_
  refine wp_putf rfl (x18.at r18.2.1) (by exact Nat.le_of_ble_eq_true rfl) rfl ?_
  have r19 : RI h (g18.set 21 (.inr (10, [.int 0, .ref 22, .ref 23, .ref 24, .int 0, .ref 25, .int 0, .ref 26, .ref 27, .ref 28, .ref 29, .ref 30, .ref 31, .ref 32, .ref 33, .ref 34, .ref 35, .ref 36, .int 0, .int (-nI 1), .int (-nI 2), .ref 37, .ref 38, .null, .null, .null, .null, .null, .null, .null, .int 0, .null, .null, .null, .int 0, .long 0, .long 0, .int 0]))) 17 [.int 0, .ref 22, .ref 23, .ref 24, .int 0, .ref 25, .int 0, .ref 26, .ref 27, .ref 28, .ref 29, .ref 30, .ref 31, .ref 32, .ref 33, .ref 34, .ref 35, .ref 36, .int 0, .int (-nI 1), .int (-nI 2), .ref 37, .ref 38, .null, .null, .null, .null, .null, .null, .null, .int 0, .null, .null, .null, .int 0, .long 0, .long 0, .int 0] := RI.step r18 (t := 3) (n := 257) rfl rfl x18
  change wp sc (_, _, _, _, g18.set 21 (.inr (10, [.int 0, .ref 22, .ref 23, .ref 24, .int 0, .ref 25, .int 0, .ref 26, .ref 27, .ref 28, .ref 29, .ref 30, .ref 31, .ref 32, .ref 33, .ref 34, .ref 35, .ref 36, .int 0, .int (-nI 1), .int (-nI 2), .ref 37, .ref 38, .null, .null, .null, .null, .null, .null, .null, .int 0, .null, .null, .null, .int 0, .long 0, .long 0, .int 0]))) _
  generalize g18.set 21 (.inr (10, [.int 0, .ref 22, .ref 23, .ref 24, .int 0, .ref 25, .int 0, .ref 26, .ref 27, .ref 28, .ref 29, .ref 30, .ref 31, .ref 32, .ref 33, .ref 34, .ref 35, .ref 36, .int 0, .int (-nI 1), .int (-nI 2), .ref 37, .ref 38, .null, .null, .null, .null, .null, .null, .null, .int 0, .null, .null, .null, .int 0, .long 0, .long 0, .int 0])) = k18 at r19 ⊢
  clear x18 r18
  refine wp_n rfl rfl ?_
  refine wp_n rfl rfl ?_
  refine wp_arrG (L := 39) (c := qnew 0 257) rfl rfl (by decide) r19.1 fun g19 x19 => ?_
  refine wp_putf rfl (x19.at r19.2.1) (by exact Nat.le_of_ble_eq_true rfl) rfl ?_
  have r20 : RI h (g19.set 21 (.inr (10, [.int 0, .ref 22, .ref 23, .ref 24, .int 0, .ref 25, .int 0, .ref 26, .ref 27, .ref 28, .ref 29, .ref 30, .ref 31, .ref 32, .ref 33, .ref 34, .ref 35, .ref 36, .int 0, .int (-nI 1), .int (-nI 2), .ref 37, .ref 38, .ref 39, .null, .null, .null, .null, .null, .null, .int 0, .null, .null, .null, .int 0, .long 0, .long 0, .int 0]))) 18 [.int 0, .ref 22, .ref 23, .ref 24, .int 0, .ref 25, .int 0, .ref 26, .ref 27, .ref 28, .ref 29, .ref 30, .ref 31, .ref 32, .ref 33, .ref 34, .ref 35, .ref 36, .int 0, .int (-nI 1), .int (-nI 2), .ref 37, .ref 38, .ref 39, .null, .null, .null, .null, .null, .null, .int 0, .null, .null, .null, .int 0, .long 0, .long 0, .int 0] := RI.step r19 (t := 0) (n := 257) rfl rfl x19
  change wp sc (_, _, _, _, g19.set 21 (.inr (10, [.int 0, .ref 22, .ref 23, .ref 24, .int 0, .ref 25, .int 0, .ref 26, .ref 27, .ref 28, .ref 29, .ref 30, .ref 31, .ref 32, .ref 33, .ref 34, .ref 35, .ref 36, .int 0, .int (-nI 1), .int (-nI 2), .ref 37, .ref 38, .ref 39, .null, .null, .null, .null, .null, .null, .int 0, .null, .null, .null, .int 0, .long 0, .long 0, .int 0]))) _
  generalize g19.set 21 (.inr (10, [.int 0, .ref 22, .ref 23, .ref 24, .int 0, .ref 25, .int 0, .ref 26, .ref 27, .ref 28, .ref 29, .ref 30, .ref 31, .ref 32, .ref 33, .ref 34, .ref 35, .ref 36, .int 0, .int (-nI 1), .int (-nI 2), .ref 37, .ref 38, .ref 39, .null, .null, .null, .null, .null, .null, .int 0, .null, .null, .null, .int 0, .long 0, .long 0, .int 0])) = k19 at r20 ⊢
  clear x19 r19
  refine wp_n rfl rfl ?_
  refine wp_n rfl rfl ?_
  refine wp_arrG (L := 40) (c := qnew 3 10280) rfl rfl (by decide) r20.1 fun g20 x20 => ?_
  refine wp_putf rfl (x20.at r20.2.1) (by exact Nat.le_of_ble_eq_true rfl) rfl ?_
  have r21 : RI h (g20.set 21 (.inr (10, [.int 0, .ref 22, .ref 23, .ref 24, .int 0, .ref 25, .int 0, .ref 26, .ref 27, .ref 28, .ref 29, .ref 30, .ref 31, .ref 32, .ref 33, .ref 34, .ref 35, .ref 36, .int 0, .int (-nI 1), .int (-nI 2), .ref 37, .ref 38, .ref 39, .ref 40, .null, .null, .null, .null, .null, .int 0, .null, .null, .null, .int 0, .long 0, .long 0, .int 0]))) 19 [.int 0, .ref 22, .ref 23, .ref 24, .int 0, .ref 25, .int 0, .ref 26, .ref 27, .ref 28, .ref 29, .ref 30, .ref 31, .ref 32, .ref 33, .ref 34, .ref 35, .ref 36, .int 0, .int (-nI 1), .int (-nI 2), .ref 37, .ref 38, .ref 39, .ref 40, .null, .null, .null, .null, .null, .int 0, .null, .null, .null, .int 0, .long 0, .long 0, .int 0] := RI.step r20 (t := 3) (n := 10280) rfl rfl x20
  change wp sc (_, _, _, _, g20.set 21 (.inr (10, [.int 0, .ref 22, .ref 23, .ref 24, .int 0, .ref 25, .int 0, .ref 26, .ref 27, .ref 28, .ref 29, .ref 30, .ref 31, .ref 32, .ref 33, .ref 34, .ref 35, .ref 36, .int 0, .int (-nI 1), .int (-nI 2), .ref 37, .ref 38, .ref 39, .ref 40, .null, .null, .null, .null, .null, .int 0, .null, .null, .null, .int 0, .long 0, .long 0, .int 0]))) _
  generalize g20.set 21 (.inr (10, [.int 0, .ref 22, .ref 23, .ref 24, .int 0, .ref 25, .int 0, .ref 26, .ref 27, .ref 28, .ref 29, .ref 30, .ref 31, .ref 32, .ref 33, .ref 34, .ref 35, .ref 36, .int 0, .int (-nI 1), .int (-nI 2), .ref 37, .ref 38, .ref 39, .ref 40, .null, .null, .null, .null, .null, .int 0, .null, .null, .null, .int 0, .long 0, .long 0, .int 0])) = k20 at r21 ⊢
  clear x20 r20
  refine wp_n rfl rfl ?_
  refine wp_n rfl rfl ?_
  refine wp_arrG (L := 41) (c := qnew 1 10280) rfl rfl (by decide) r21.1 fun g21 x21 => ?_
  refine wp_putf rfl (x21.at r21.2.1) (by exact Nat.le_of_ble_eq_true rfl) rfl ?_
  have r22 : RI h (g21.set 21 (.inr (10, [.int 0, .ref 22, .ref 23, .ref 24, .int 0, .ref 25, .int 0, .ref 26, .ref 27, .ref 28, .ref 29, .ref 30, .ref 31, .ref 32, .ref 33, .ref 34, .ref 35, .ref 36, .int 0, .int (-nI 1), .int (-nI 2), .ref 37, .ref 38, .ref 39, .ref 40, .ref 41, .null, .null, .null, .null, .int 0, .null, .null, .null, .int 0, .long 0, .long 0, .int 0]))) 20 [.int 0, .ref 22, .ref 23, .ref 24, .int 0, .ref 25, .int 0, .ref 26, .ref 27, .ref 28, .ref 29, .ref 30, .ref 31, .ref 32, .ref 33, .ref 34, .ref 35, .ref 36, .int 0, .int (-nI 1), .int (-nI 2), .ref 37, .ref 38, .ref 39, .ref 40, .ref 41, .null, .null, .null, .null, .int 0, .null, .null, .null, .int 0, .long 0, .long 0, .int 0] := RI.step r21 (t := 1) (n := 10280) rfl rfl x21
  change wp sc (_, _, _, _, g21.set 21 (.inr (10, [.int 0, .ref 22, .ref 23, .ref 24, .int 0, .ref 25, .int 0, .ref 26, .ref 27, .ref 28, .ref 29, .ref 30, .ref 31, .ref 32, .ref 33, .ref 34, .ref 35, .ref 36, .int 0, .int (-nI 1), .int (-nI 2), .ref 37, .ref 38, .ref 39, .ref 40, .ref 41, .null, .null, .null, .null, .int 0, .null, .null, .null, .int 0, .long 0, .long 0, .int 0]))) _
  generalize g21.set 21 (.inr (10, [.int 0, .ref 22, .ref 23, .ref 24, .int 0, .ref 25, .int 0, .ref 26, .ref 27, .ref 28, .ref 29, .ref 30, .ref 31, .ref 32, .ref 33, .ref 34, .ref 35, .ref 36, .int 0, .int (-nI 1), .int (-nI 2), .ref 37, .ref 38, .ref 39, .ref 40, .ref 41, .null, .null, .null, .null, .int 0, .null, .null, .null, .int 0, .long 0, .long 0, .int 0])) = k21 at r22 ⊢
  clear x21 r21
  refine wp_n rfl rfl ?_
  refine wp_n rfl rfl ?_
  refine wp_arrG (L := 42) (c := qnew 3 10280) rfl rfl (by decide) r22.1 fun g22 x22 => ?_
  refine wp_putf rfl (x22.at r22.2.1) (by exact Nat.le_of_ble_eq_true rfl) rfl ?_
  have r23 : RI h (g22.set 21 (.inr (10, [.int 0, .ref 22, .ref 23, .ref 24, .int 0, .ref 25, .int 0, .ref 26, .ref 27, .ref 28, .ref 29, .ref 30, .ref 31, .ref 32, .ref 33, .ref 34, .ref 35, .ref 36, .int 0, .int (-nI 1), .int (-nI 2), .ref 37, .ref 38, .ref 39, .ref 40, .ref 41, .ref 42, .null, .null, .null, .int 0, .null, .null, .null, .int 0, .long 0, .long 0, .int 0]))) 21 [.int 0, .ref 22, .ref 23, .ref 24, .int 0, .ref 25, .int 0, .ref 26, .ref 27, .ref 28, .ref 29, .ref 30, .ref 31, .ref 32, .ref 33, .ref 34, .ref 35, .ref 36, .int 0, .int (-nI 1), .int (-nI 2), .ref 37, .ref 38, .ref 39, .ref 40, .ref 41, .ref 42, .null, .null, .null, .int 0, .null, .null, .null, .int 0, .long 0, .long 0, .int 0] := RI.step r22 (t := 3) (n := 10280) rfl rfl x22
  change wp sc (_, _, _, _, g22.set 21 (.inr (10, [.int 0, .ref 22, .ref 23, .ref 24, .int 0, .ref 25, .int 0, .ref 26, .ref 27, .ref 28, .ref 29, .ref 30, .ref 31, .ref 32, .ref 33, .ref 34, .ref 35, .ref 36, .int 0, .int (-nI 1), .int (-nI 2), .ref 37, .ref 38, .ref 39, .ref 40, .ref 41, .ref 42, .null, .null, .null, .int 0, .null, .null, .null, .int 0, .long 0, .long 0, .int 0]))) _
  generalize g22.set 21 (.inr (10, [.int 0, .ref 22, .ref 23, .ref 24, .int 0, .ref 25, .int 0, .ref 26, .ref 27, .ref 28, .ref 29, .ref 30, .ref 31, .ref 32, .ref 33, .ref 34, .ref 35, .ref 36, .int 0, .int (-nI 1), .int (-nI 2), .ref 37, .ref 38, .ref 39, .ref 40, .ref 41, .ref 42, .null, .null, .null, .int 0, .null, .null, .null, .int 0, .long 0, .long 0, .int 0])) = k22 at r23 ⊢
  clear x22 r22
  refine wp_n rfl rfl ?_
  refine wp_n rfl rfl ?_
  refine wp_arrG (L := 43) (c := qnew 1 200) rfl rfl (by decide) r23.1 fun g23 x23 => ?_
  refine wp_putf rfl (x23.at r23.2.1) (by exact Nat.le_of_ble_eq_true rfl) rfl ?_
  have r24 : RI h (g23.set 21 (.inr (10, [.int 0, .ref 22, .ref 23, .ref 24, .int 0, .ref 25, .int 0, .ref 26, .ref 27, .ref 28, .ref 29, .ref 30, .ref 31, .ref 32, .ref 33, .ref 34, .ref 35, .ref 36, .int 0, .int (-nI 1), .int (-nI 2), .ref 37, .ref 38, .ref 39, .ref 40, .ref 41, .ref 42, .ref 43, .null, .null, .int 0, .null, .null, .null, .int 0, .long 0, .long 0, .int 0]))) 22 [.int 0, .ref 22, .ref 23, .ref 24, .int 0, .ref 25, .int 0, .ref 26, .ref 27, .ref 28, .ref 29, .ref 30, .ref 31, .ref 32, .ref 33, .ref 34, .ref 35, .ref 36, .int 0, .int (-nI 1), .int (-nI 2), .ref 37, .ref 38, .ref 39, .ref 40, .ref 41, .ref 42, .ref 43, .null, .null, .int 0, .null, .null, .null, .int 0, .long 0, .long 0, .int 0] := RI.step r23 (t := 1) (n := 200) rfl rfl x23
  change wp sc (_, _, _, _, g23.set 21 (.inr (10, [.int 0, .ref 22, .ref 23, .ref 24, .int 0, .ref 25, .int 0, .ref 26, .ref 27, .ref 28, .ref 29, .ref 30, .ref 31, .ref 32, .ref 33, .ref 34, .ref 35, .ref 36, .int 0, .int (-nI 1), .int (-nI 2), .ref 37, .ref 38, .ref 39, .ref 40, .ref 41, .ref 42, .ref 43, .null, .null, .int 0, .null, .null, .null, .int 0, .long 0, .long 0, .int 0]))) _
  generalize g23.set 21 (.inr (10, [.int 0, .ref 22, .ref 23, .ref 24, .int 0, .ref 25, .int 0, .ref 26, .ref 27, .ref 28, .ref 29, .ref 30, .ref 31, .ref 32, .ref 33, .ref 34, .ref 35, .ref 36, .int 0, .int (-nI 1), .int (-nI 2), .ref 37, .ref 38, .ref 39, .ref 40, .ref 41, .ref 42, .ref 43, .null, .null, .int 0, .null, .null, .null, .int 0, .long 0, .long 0, .int 0])) = k23 at r24 ⊢
  clear x23 r23
  refine wp_n rfl rfl ?_
  refine wp_n rfl rfl ?_
  refine wp_arrG (L := 44) (c := qnew 1 200) rfl rfl (by decide) r24.1 fun g24 x24 => ?_
  refine wp_putf rfl (x24.at r24.2.1) (by exact Nat.le_of_ble_eq_true rfl) rfl ?_
  have r25 : RI h (g24.set 21 (.inr (10, [.int 0, .ref 22, .ref 23, .ref 24, .int 0, .ref 25, .int 0, .ref 26, .ref 27, .ref 28, .ref 29, .ref 30, .ref 31, .ref 32, .ref 33, .ref 34, .ref 35, .ref 36, .int 0, .int (-nI 1), .int (-nI 2), .ref 37, .ref 38, .ref 39, .ref 40, .ref 41, .ref 42, .ref 43, .ref 44, .null, .int 0, .null, .null, .null, .int 0, .long 0, .long 0, .int 0]))) 23 [.int 0, .ref 22, .ref 23, .ref 24, .int 0, .ref 25, .int 0, .ref 26, .ref 27, .ref 28, .ref 29, .ref 30, .ref 31, .ref 32, .ref 33, .ref 34, .ref 35, .ref 36, .int 0, .int (-nI 1), .int (-nI 2), .ref 37, .ref 38, .ref 39, .ref 40, .ref 41, .ref 42, .ref 43, .ref 44, .null, .int 0, .null, .null, .null, .int 0, .long 0, .long 0, .int 0] := RI.step r24 (t := 1) (n := 200) rfl rfl x24
  change wp sc (_, _, _, _, g24.set 21 (.inr (10, [.int 0, .ref 22, .ref 23, .ref 24, .int 0, .ref 25, .int 0, .ref 26, .ref 27, .ref 28, .ref 29, .ref 30, .ref 31, .ref 32, .ref 33, .ref 34, .ref 35, .ref 36, .int 0, .int (-nI 1), .int (-nI 2), .ref 37, .ref 38, .ref 39, .ref 40, .ref 41, .ref 42, .ref 43, .ref 44, .null, .int 0, .null, .null, .null, .int 0, .long 0, .long 0, .int 0]))) _
  generalize g24.set 21 (.inr (10, [.int 0, .ref 22, .ref 23, .ref 24, .int 0, .ref 25, .int 0, .ref 26, .ref 27, .ref 28, .ref 29, .ref 30, .ref 31, .ref 32, .ref 33, .ref 34, .ref 35, .ref 36, .int 0, .int (-nI 1), .int (-nI 2), .ref 37, .ref 38, .ref 39, .ref 40, .ref 41, .ref 42, .ref 43, .ref 44, .null, .int 0, .null, .null, .null, .int 0, .long 0, .long 0, .int 0])) = k24 at r25 ⊢
  clear x24 r24
  refine wp_n rfl rfl ?_
  refine wp_n rfl rfl ?_
  refine wp_arrG (L := 45) (c := qnew 3 200) rfl rfl (by decide) r25.1 fun g25 x25 => ?_
  refine wp_putf rfl (x25.at r25.2.1) (by exact Nat.le_of_ble_eq_true rfl) rfl ?_
  have r26 : RI h (g25.set 21 (.inr (10, [.int 0, .ref 22, .ref 23, .ref 24, .int 0, .ref 25, .int 0, .ref 26, .ref 27, .ref 28, .ref 29, .ref 30, .ref 31, .ref 32, .ref 33, .ref 34, .ref 35, .ref 36, .int 0, .int (-nI 1), .int (-nI 2), .ref 37, .ref 38, .ref 39, .ref 40, .ref 41, .ref 42, .ref 43, .ref 44, .ref 45, .int 0, .null, .null, .null, .int 0, .long 0, .long 0, .int 0]))) 24 [.int 0, .ref 22, .ref 23, .ref 24, .int 0, .ref 25, .int 0, .ref 26, .ref 27, .ref 28, .ref 29, .ref 30, .ref 31, .ref 32, .ref 33, .ref 34, .ref 35, .ref 36, .int 0, .int (-nI 1), .int (-nI 2), .ref 37, .ref 38, .ref 39, .ref 40, .ref 41, .ref 42, .ref 43, .ref 44, .ref 45, .int 0, .null, .null, .null, .int 0, .long 0, .long 0, .int 0] := RI.step r25 (t := 3) (n := 200) rfl rfl x25
  change wp sc (_, _, _, _, g25.set 21 (.inr (10, [.int 0, .ref 22, .ref 23, .ref 24, .int 0, .ref 25, .int 0, .ref 26, .ref 27, .ref 28, .ref 29, .ref 30, .ref 31, .ref 32, .ref 33, .ref 34, .ref 35, .ref 36, .int 0, .int (-nI 1), .int (-nI 2), .ref 37, .ref 38, .ref 39, .ref 40, .ref 41, .ref 42, .ref 43, .ref 44, .ref 45, .int 0, .null, .null, .null, .int 0, .long 0, .long 0, .int 0]))) _
  generalize g25.set 21 (.inr (10, [.int 0, .ref 22, .ref 23, .ref 24, .int 0, .ref 25, .int 0, .ref 26, .ref 27, .ref 28, .ref 29, .ref 30, .ref 31, .ref 32, .ref 33, .ref 34, .ref 35, .ref 36, .int 0, .int (-nI 1), .int (-nI 2), .ref 37, .ref 38, .ref 39, .ref 40, .ref 41, .ref 42, .ref 43, .ref 44, .ref 45, .int 0, .null, .null, .null, .int 0, .long 0, .long 0, .int 0])) = k25 at r26 ⊢
  clear x25 r25
  refine wp_n rfl rfl ?_
  refine wp_n rfl rfl ?_
  refine wp_arrG (L := 46) (c := qnew 3 40) rfl rfl (by decide) r26.1 fun g26 x26 => ?_
  refine wp_putf rfl (x26.at r26.2.1) (by exact Nat.le_of_ble_eq_true rfl) rfl ?_
  have r27 : RI h (g26.set 21 (.inr (10, [.int 0, .ref 22, .ref 23, .ref 24, .int 0, .ref 25, .int 0, .ref 26, .ref 27, .ref 28, .ref 29, .ref 30, .ref 31, .ref 32, .ref 33, .ref 34, .ref 35, .ref 36, .int 0, .int (-nI 1), .int (-nI 2), .ref 37, .ref 38, .ref 39, .ref 40, .ref 41, .ref 42, .ref 43, .ref 44, .ref 45, .int 0, .ref 46, .null, .null, .int 0, .long 0, .long 0, .int 0]))) 25 [.int 0, .ref 22, .ref 23, .ref 24, .int 0, .ref 25, .int 0, .ref 26, .ref 27, .ref 28, .ref 29, .ref 30, .ref 31, .ref 32, .ref 33, .ref 34, .ref 35, .ref 36, .int 0, .int (-nI 1), .int (-nI 2), .ref 37, .ref 38, .ref 39, .ref 40, .ref 41, .ref 42, .ref 43, .ref 44, .ref 45, .int 0, .ref 46, .null, .null, .int 0, .long 0, .long 0, .int 0] := RI.step r26 (t := 3) (n := 40) rfl rfl x26
  change wp sc (_, _, _, _, g26.set 21 (.inr (10, [.int 0, .ref 22, .ref 23, .ref 24, .int 0, .ref 25, .int 0, .ref 26, .ref 27, .ref 28, .ref 29, .ref 30, .ref 31, .ref 32, .ref 33, .ref 34, .ref 35, .ref 36, .int 0, .int (-nI 1), .int (-nI 2), .ref 37, .ref 38, .ref 39, .ref 40, .ref 41, .ref 42, .ref 43, .ref 44, .ref 45, .int 0, .ref 46, .null, .null, .int 0, .long 0, .long 0, .int 0]))) _
  generalize g26.set 21 (.inr (10, [.int 0, .ref 22, .ref 23, .ref 24, .int 0, .ref 25, .int 0, .ref 26, .ref 27, .ref 28, .ref 29, .ref 30, .ref 31, .ref 32, .ref 33, .ref 34, .ref 35, .ref 36, .int 0, .int (-nI 1), .int (-nI 2), .ref 37, .ref 38, .ref 39, .ref 40, .ref 41, .ref 42, .ref 43, .ref 44, .ref 45, .int 0, .ref 46, .null, .null, .int 0, .long 0, .long 0, .int 0])) = k26 at r27 ⊢
  clear x26 r26
  refine wp_n rfl rfl ?_
  refine wp_n rfl rfl ?_
  refine wp_arrG (L := 47) (c := qnew 1 40) rfl rfl (by decide) r27.1 fun g27 x27 => ?_
  refine wp_putf rfl (x27.at r27.2.1) (by exact Nat.le_of_ble_eq_true rfl) rfl ?_
  have r28 : RI h (g27.set 21 (.inr (10, [.int 0, .ref 22, .ref 23, .ref 24, .int 0, .ref 25, .int 0, .ref 26, .ref 27, .ref 28, .ref 29, .ref 30, .ref 31, .ref 32, .ref 33, .ref 34, .ref 35, .ref 36, .int 0, .int (-nI 1), .int (-nI 2), .ref 37, .ref 38, .ref 39, .ref 40, .ref 41, .ref 42, .ref 43, .ref 44, .ref 45, .int 0, .ref 46, .ref 47, .null, .int 0, .long 0, .long 0, .int 0]))) 26 [.int 0, .ref 22, .ref 23, .ref 24, .int 0, .ref 25, .int 0, .ref 26, .ref 27, .ref 28, .ref 29, .ref 30, .ref 31, .ref 32, .ref 33, .ref 34, .ref 35, .ref 36, .int 0, .int (-nI 1), .int (-nI 2), .ref 37, .ref 38, .ref 39, .ref 40, .ref 41, .ref 42, .ref 43, .ref 44, .ref 45, .int 0, .ref 46, .ref 47, .null, .int 0, .long 0, .long 0, .int 0] := RI.step r27 (t := 1) (n := 40) rfl rfl x27
  change wp sc (_, _, _, _, g27.set 21 (.inr (10, [.int 0, .ref 22, .ref 23, .ref 24, .int 0, .ref 25, .int 0, .ref 26, .ref 27, .ref 28, .ref 29, .ref 30, .ref 31, .ref 32, .ref 33, .ref 34, .ref 35, .ref 36, .int 0, .int (-nI 1), .int (-nI 2), .ref 37, .ref 38, .ref 39, .ref 40, .ref 41, .ref 42, .ref 43, .ref 44, .ref 45, .int 0, .ref 46, .ref 47, .null, .int 0, .long 0, .long 0, .int 0]))) _
  generalize g27.set 21 (.inr (10, [.int 0, .ref 22, .ref 23, .ref 24, .int 0, .ref 25, .int 0, .ref 26, .ref 27, .ref 28, .ref 29, .ref 30, .ref 31, .ref 32, .ref 33, .ref 34, .ref 35, .ref 36, .int 0, .int (-nI 1), .int (-nI 2), .ref 37, .ref 38, .ref 39, .ref 40, .ref 41, .ref 42, .ref 43, .ref 44, .ref 45, .int 0, .ref 46, .ref 47, .null, .int 0, .long 0, .long 0, .int 0])) = k27 at r28 ⊢
  clear x27 r27
  refine wp_n rfl rfl ?_
  refine wp_n rfl rfl ?_
  refine wp_arrG (L := 48) (c := qnew 3 40) rfl rfl (by decide) r28.1 fun g28 x28 => ?_
  refine wp_putf rfl (x28.at r28.2.1) (by exact Nat.le_of_ble_eq_true rfl) rfl ?_
  have r29 : RI h (g28.set 21 (.inr (10, [.int 0, .ref 22, .ref 23, .ref 24, .int 0, .ref 25, .int 0, .ref 26, .ref 27, .ref 28, .ref 29, .ref 30, .ref 31, .ref 32, .ref 33, .ref 34, .ref 35, .ref 36, .int 0, .int (-nI 1), .int (-nI 2), .ref 37, .ref 38, .ref 39, .ref 40, .ref 41, .ref 42, .ref 43, .ref 44, .ref 45, .int 0, .ref 46, .ref 47, .ref 48, .int 0, .long 0, .long 0, .int 0]))) 27 [.int 0, .ref 22, .ref 23, .ref 24, .int 0, .ref 25, .int 0, .ref 26, .ref 27, .ref 28, .ref 29, .ref 30, .ref 31, .ref 32, .ref 33, .ref 34, .ref 35, .ref 36, .int 0, .int (-nI 1), .int (-nI 2), .ref 37, .ref 38, .ref 39, .ref 40, .ref 41, .ref 42, .ref 43, .ref 44, .ref 45, .int 0, .ref 46, .ref 47, .ref 48, .int 0, .long 0, .long 0, .int 0] := RI.step r28 (t := 3) (n := 40) rfl rfl x28
  change wp sc (_, _, _, _, g28.set 21 (.inr (10, [.int 0, .ref 22, .ref 23, .ref 24, .int 0, .ref 25, .int 0, .ref 26, .ref 27, .ref 28, .ref 29, .ref 30, .ref 31, .ref 32, .ref 33, .ref 34, .ref 35, .ref 36, .int 0, .int (-nI 1), .int (-nI 2), .ref 37, .ref 38, .ref 39, .ref 40, .ref 41, .ref 42, .ref 43, .ref 44, .ref 45, .int 0, .ref 46, .ref 47, .ref 48, .int 0, .long 0, .long 0, .int 0]))) _
  generalize g28.set 21 (.inr (10, [.int 0, .ref 22, .ref 23, .ref 24, .int 0, .ref 25, .int 0, .ref 26, .ref 27, .ref 28, .ref 29, .ref 30, .ref 31, .ref 32, .ref 33, .ref 34, .ref 35, .ref 36, .int 0, .int (-nI 1), .int (-nI 2), .ref 37, .ref 38, .ref 39, .ref 40, .ref 41, .ref 42, .ref 43, .ref 44, .ref 45, .int 0, .ref 46, .ref 47, .ref 48, .int 0, .long 0, .long 0, .int 0])) = k28 at r29 ⊢
  clear x28 r28
  obtain ⟨a1, a2, a3, a4, a5⟩ := r29
  have q := fun i t m (hi : i < 27) (hq : rArr[i]? = some (t, m)) => a3 i (t, m) hi hq
  repeat' first | refine wp_ist rfl rfl rfl rfl ?_ | refine wp_lst rfl rfl rfl rfl ?_ | refine wp_iinc rfl rfl rfl rfl ?_ | refine wp_f rfl rfl rfl ?_ | refine wp_getf rfl (by ((repeat' first | assumption | refine qset_ne rfl ?_ | refine qset_self (c0 := ?_) ?_ | refine qset_nf (by omega) ?_ | fail); done)) rfl ?_ | refine wp_ast rfl rfl rfl rfl ?_ | refine wp_asN rfl rfl rfl rfl ?_ | refine wp_putf rfl (by ((repeat' first | assumption | refine qset_ne rfl ?_ | refine qset_self (c0 := ?_) ?_ | refine qset_nf (by omega) ?_ | fail); done)) (by exact Nat.le_of_ble_eq_true rfl) rfl ?_ | refine wp_iald rfl (by ((repeat' first | assumption | refine qset_ne rfl ?_ | refine qset_self (c0 := ?_) ?_ | refine qset_nf (by omega) ?_ | fail); done)) ?_ ?_ | refine wp_lald rfl (by ((repeat' first | assumption | refine qset_ne rfl ?_ | refine qset_self (c0 := ?_) ?_ | refine qset_nf (by omega) ?_ | fail); done)) ?_ ?_ | refine wp_zald rfl (by ((repeat' first | assumption | refine qset_ne rfl ?_ | refine qset_self (c0 := ?_) ?_ | refine qset_nf (by omega) ?_ | fail); done)) ?_ ?_ | refine wp_iast rfl (by ((repeat' first | assumption | refine qset_ne rfl ?_ | refine qset_self (c0 := ?_) ?_ | refine qset_nf (by omega) ?_ | fail); done)) ?_ ?_ | refine wp_last rfl (by ((repeat' first | assumption | refine qset_ne rfl ?_ | refine qset_self (c0 := ?_) ?_ | refine qset_nf (by omega) ?_ | fail); done)) ?_ ?_ | refine wp_alen rfl (by ((repeat' first | assumption | refine qset_ne rfl ?_ | refine qset_self (c0 := ?_) ?_ | refine qset_nf (by omega) ?_ | fail); done)) rfl ?_ | refine wp_zast rfl (by ((repeat' first | assumption | refine qset_ne rfl ?_ | refine qset_self (c0 := ?_) ?_ | refine qset_nf (by omega) ?_ | fail); done)) ?_ ?_ | refine wp_b rfl rfl (fun hc => absurd hc (by decide +kernel)) (fun _ => ?_) | refine wp_b rfl rfl (fun _ => ?_) (fun hc => absurd hc (by decide +kernel)) | refine wp_b rfl rfl (fun hc => ?_) (fun hc => ?_) | refine wp_v rfl rfl ?_ | refine ret_t ?_ | refine ret_f ?_ | fail
  refine ⟨⟨⟨⟨0, 0, 0, (0, 0), ?_⟩, ?_, ⟨Nat.zero_le _, Nat.zero_le _, Nat.zero_le _, fun s hs => (by cases hs), fun s hs => (by cases hs), fun s hs => (by cases hs)⟩, ⟨_, _, _, q 21 1 200 (by decide) rfl, q 22 1 200 (by decide) rfl, q 23 3 200 (by decide) rfl⟩, ⟨_, _, _, q 24 3 40 (by decide) rfl, q 25 1 40 (by decide) rfl, q 26 3 40 (by decide) rfl⟩, ⟨_, _, _, _, _, q 15 3 257 (by decide) rfl, q 17 0 257 (by decide) rfl, q 18 3 10280 (by decide) rfl, q 19 1 10280 (by decide) rfl, q 20 3 10280 (by decide) rfl⟩, _, q 16 3 257 (by decide) rfl⟩, fun g S hg => by cases hg⟩, a1, a4, by rw [a5]; rfl⟩
  · rw [a2]
    rfl
  · exact ⟨_, _, _, _, _, _, _, _, _, _, _, _, _, _, _, ⟨q 0 0 32 (by decide) rfl, q 1 0 32 (by decide) rfl, q 2 1 512 (by decide) rfl, q 3 1 32 (by decide) rfl⟩, ⟨q 4 0 64 (by decide) rfl, q 5 0 64 (by decide) rfl, q 6 0 64 (by decide) rfl, q 7 0 64 (by decide) rfl⟩, ⟨q 8 1 512 (by decide) rfl, q 9 1 512 (by decide) rfl, q 10 1 2048 (by decide) rfl⟩, ⟨q 11 0 64 (by decide) rfl, q 12 2 16384 (by decide) rfl, q 13 0 16384 (by decide) rfl, q 14 0 16384 (by decide) rfl⟩, fun k s hs => (by cases hs), fun k s hs => (by cases hs), fun k s hs => (by cases hs)⟩
end RR1
