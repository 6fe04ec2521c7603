/-! The law, whole. -/
set_option maxHeartbeats 4000000 in
theorem law_wp (L : Nat) (xs : Nat → Int32) (hL : L ≤ 256) : wp (L, xs) (m_L_law, 0, [(0, .float 0)], [], []) (fun v h => v = some (.int 1) ∧ h.length ≤ 600000 ∧ qss h ≤ 7302250) := by
  refine wp_newG rfl rfl fun h1 g1 => ?_
  have e1 : h1 = [.inr (9, qdef 9)] := by
    obtain ⟨a1, a2, a3, a4⟩ := g1
    match h1, a1, a3 with
    | [c], _, a3 => exact congrArg (fun z => [z]) (Option.some.inj a3)
  subst e1
  refine wp_n rfl rfl ?_
  refine wp_Iu2 rfl rfl rfl (i_AC (L, xs)) fun h2 e2 => ?_
  subst e2
  repeat' first | (refine wp_newG rfl (L := 21) rfl fun h1 g1 => ?_) | refine wp_ist rfl rfl rfl rfl ?_ | refine wp_lst rfl rfl rfl rfl ?_ | refine wp_iinc rfl rfl rfl rfl ?_ | refine wp_f rfl rfl rfl ?_ | refine wp_getf rfl (by ((repeat' first | assumption | refine qset_ne rfl ?_ | refine qset_self (c0 := ?_) ?_ | refine qset_nf (by omega) ?_ | fail); done)) rfl ?_ | refine wp_ast rfl rfl rfl rfl ?_ | refine wp_asN rfl rfl rfl rfl ?_ | refine wp_putf rfl (by ((repeat' first | assumption | refine qset_ne rfl ?_ | refine qset_self (c0 := ?_) ?_ | refine qset_nf (by omega) ?_ | fail); done)) (by exact Nat.le_of_ble_eq_true rfl) rfl ?_ | refine wp_iald rfl (by ((repeat' first | assumption | refine qset_ne rfl ?_ | refine qset_self (c0 := ?_) ?_ | refine qset_nf (by omega) ?_ | fail); done)) ?_ ?_ | refine wp_lald rfl (by ((repeat' first | assumption | refine qset_ne rfl ?_ | refine qset_self (c0 := ?_) ?_ | refine qset_nf (by omega) ?_ | fail); done)) ?_ ?_ | refine wp_zald rfl (by ((repeat' first | assumption | refine qset_ne rfl ?_ | refine qset_self (c0 := ?_) ?_ | refine qset_nf (by omega) ?_ | fail); done)) ?_ ?_ | refine wp_iast rfl (by ((repeat' first | assumption | refine qset_ne rfl ?_ | refine qset_self (c0 := ?_) ?_ | refine qset_nf (by omega) ?_ | fail); done)) ?_ ?_ | refine wp_last rfl (by ((repeat' first | assumption | refine qset_ne rfl ?_ | refine qset_self (c0 := ?_) ?_ | refine qset_nf (by omega) ?_ | fail); done)) ?_ ?_ | refine wp_alen rfl (by ((repeat' first | assumption | refine qset_ne rfl ?_ | refine qset_self (c0 := ?_) ?_ | refine qset_nf (by omega) ?_ | fail); done)) rfl ?_ | refine wp_zast rfl (by ((repeat' first | assumption | refine qset_ne rfl ?_ | refine qset_self (c0 := ?_) ?_ | refine qset_nf (by omega) ?_ | fail); done)) ?_ ?_ | refine wp_v rfl rfl ?_ | refine ret_t ?_ | refine ret_f ?_ | fail
  refine wp_Iu2 rfl rfl rfl (c_R_init (L, xs) h1 g1.2.2.1 (by rw [g1.1]; rfl)) fun h2 ⟨R2, l2, s2, z2⟩ => ?_
  have z3 : qss h2 ≤ 100000 := by
    rw [z2, g1.2.2.2]
    decide
  have sm : ∀ p, p < 21 → h2[p]? = hAC[p]? := fun p hp => by rw [s2 p hp, g1.2.1 p (by exact hp)]
  have C2 : ClAt h2 (fun _ => 0) (fun _ => 0) (([], [], []), none, none) := ClAt0 l2 sm
  have W : LW h2 (([], [], []), none, none) 0 := ⟨⟨_, _, C2⟩, R2, TV0, by have e := l2; omega, by have e := z3; omega⟩
  refine wp_ast rfl rfl rfl rfl ?_
  refine wp_f rfl rfl rfl ?_
  refine wp_ist rfl rfl rfl rfl ?_
  have K := law_loop (L := L) (xs := xs) (Q := fun v h => v = some (.int 1) ∧ h.length ≤ 600000 ∧ qss h ≤ 7302250) hL (fun h3 T3 W3 => ⟨rfl, by have := W3.2.2.2.1; omega, by have := W3.2.2.2.2; omega⟩) (L / 4) 0 h2 _ (by omega) W
  exact wp_sub K rfl ⟨rfl, rfl, rfl, rfl, trivial⟩
set_option maxHeartbeats 4000000 in
theorem law_run (L : Nat) (xs : Nat → Int32) (hL : L ≤ 256) : ∃ n h', run (L, xs) n (m_L_law, 0, [(0, .float 0)], [], []) = some (some (.int 1), h') ∧ h'.length ≤ 600000 ∧ qss h' ≤ 7302250 := by
  obtain ⟨n, r, h', e, q, q2⟩ := law_wp L xs hL
  exact ⟨n, h', by rw [e, q], q2⟩
