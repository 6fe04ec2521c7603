/-! The two objects, new: the constructors run on heaps that are written out. -/
/-- the class's cells behind its constructor -/
def hAC : qH := [.inr (9, [.ref 1, .ref 6]), .inr (1, [.ref 2, .int 0, .ref 3, .ref 5, .int 0]), qnew 4 32, .inr (8, [.ref 4, .int 0]), qnew 1 32, qnew 5 64, .inr (3, [.ref 1, .ref 13, .ref 7, .ref 12, .null, .int 0, .int 0, .int (-nI 2)]), .inr (6, [.ref 8, .ref 9, .ref 10, .ref 11]), qnew 3 256, qnew 0 256, qnew 1 256, qnew 1 10240, qnew 3 256, .inr (4, [.ref 1, .ref 14, .ref 18, .ref 20, .null, .int 0, .int 0]), .inr (5, [.ref 15, .ref 16, .ref 17, .int 0, .long 0, .long 0]), qnew 1 64, qnew 3 64, qnew 1 64, .inr (2, [.ref 19, .int 0, .long 0, .long 0, .long 0, .long 0]), qnew 1 40, qnew 1 8]
set_option maxHeartbeats 4000000 in
theorem i_AC (sc : Nat × (Nat → Int32)) : wp sc (m_AC_init, 0, qargs 0 [.ref 0], [], [.inr (9, qdef 9)]) (rU fun h' => h' = hAC) := ⟨200, none, hAC, rfl, rfl⟩
set_option maxHeartbeats 4000000 in
theorem ClAt0 {h : qH} (l : h.length = 49) (sm : ∀ p, p < 21 → h[p]? = hAC[p]?) : ClAt h (fun _ => 0) (fun _ => 0) (([], [], []), none, none) := by
  refine ⟨by omega, ⟨fun _ => none, fun _ => none, sm 1 (by decide), sm 2 (by decide), sm 5 (by decide), ⟨fun _ => 0, sm 3 (by decide), sm 4 (by decide), Nat.zero_le _, by decide, fun i n hi => by cases hi⟩, Nat.zero_le _, Nat.zero_le _, fun k s hk => (by cases hk), fun k F hk => by cases hk⟩,
    ⟨fun i hi => absurd hi (Nat.not_lt_zero i), fun i hi => absurd hi (Nat.not_lt_zero i), fun i j hi => absurd hi (Nat.not_lt_zero i), fun i j hi => absurd hi (Nat.not_lt_zero i), fun i j hi => absurd hi (Nat.not_lt_zero i)⟩,
    ⟨⟨⟨_, _, _, sm 13 (by decide)⟩, fun _ => 0, sm 20 (by decide)⟩, ⟨[], 0, 0, fun _ => 0, fun _ => 0, fun _ => 0, sm 14 (by decide), sm 15 (by decide), sm 16 (by decide), sm 17 (by decide), Nat.zero_le _, trivial⟩, ⟨⟨_, _, _, _, _, sm 18 (by decide)⟩, fun _ => 0, sm 19 (by decide)⟩, ⟨fun _ => 0, fun _ => 0, fun _ => 0, fun _ => 0, sm 7 (by decide), sm 8 (by decide), sm 9 (by decide), sm 10 (by decide), sm 11 (by decide)⟩, fun _ => 0, sm 12 (by decide)⟩,
    sm 0 (by decide), none, false, sm 6 (by decide), fun g S hS => by cases hS⟩
set_option maxHeartbeats 4000000 in
theorem TV0 : TV (([], [], []), none, none) := ⟨⟨Nat.zero_le _, Nat.zero_le _, Nat.zero_le _, fun s hs => (by cases hs), fun s hs => (by cases hs), fun s hs => by cases hs⟩, fun g S hS => by cases hS⟩
