theorem law_run (L : Nat) (xs : Nat → Int32) (hL : L ≤ 256) : ∃ n h', run (L, xs) n (m_L_law, 0, [(0, .float 0)], [], []) = some (some (.int 1), h') ∧ h'.length ≤ 600000 ∧ qss h' ≤ 7302250 := by
  sorry
