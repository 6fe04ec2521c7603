/-! What changes the ledger. -/
set_option maxHeartbeats 4000000 in
theorem TLAt.sm {h h' : qH} {a lim : Nat} {l : List Nat} (H : TLAt h a lim l) (s : ∀ p, a ≤ p → p ≤ a + 1 → h'[p]? = h[p]?) : TLAt h' a lim l := by
  obtain ⟨f, h1, h2, h3⟩ := H
  exact ⟨f, by rw [s _ (by omega) (by omega)]; exact h1, by rw [s _ (by omega) (by omega)]; exact h2, h3⟩
set_option maxHeartbeats 4000000 in
theorem StAt.sm {h h' : qH} {a : Nat} {s0 : Nat × List Nat} (H : StAt h a s0) (s : ∀ p, a ≤ p → p ≤ a + 2 → h'[p]? = h[p]?) : StAt h' a s0 := ⟨by rw [s _ (by omega) (by omega)]; exact H.1, H.2.1.sm fun p h1 h2 => s p (by omega) (by omega), H.2.2⟩
set_option maxHeartbeats 4000000 in
theorem CdAt.sm {h h' : qH} {a : Nat} {F : QF} (H : CdAt h a F) (s : ∀ p, a ≤ p → p ≤ a + 9 → h'[p]? = h[p]?) : CdAt h' a F := by
  obtain ⟨f1, f2, f3, h1, h2, h3, h4, h5, h6, h7, h8⟩ := H
  exact ⟨f1, f2, f3, by rw [s _ (by omega) (by omega)]; exact h1, h2.sm fun p x1 x2 => s p (by omega) (by omega), h3.sm fun p x1 x2 => s p (by omega) (by omega), h4.sm fun p x1 x2 => s p (by omega) (by omega), by rw [s _ (by omega) (by omega)]; exact h5, by rw [s _ (by omega) (by omega)]; exact h6, by rw [s _ (by omega) (by omega)]; exact h7, h8⟩
/-- structures (3 cells each) and functions (10 cells) lie apart, behind the rest -/
def PL (sa fa : Nat → Nat) (nS nF len : Nat) : Prop := (∀ i, i < nS → 49 ≤ sa i ∧ sa i + 3 ≤ len) ∧ (∀ i, i < nF → 49 ≤ fa i ∧ fa i + 10 ≤ len) ∧ (∀ i j, i < nS → j < nS → i ≠ j → sa i + 3 ≤ sa j ∨ sa j + 3 ≤ sa i) ∧ (∀ i j, i < nF → j < nF → i ≠ j → fa i + 10 ≤ fa j ∨ fa j + 10 ≤ fa i) ∧ ∀ i j, i < nS → j < nF → sa i + 3 ≤ fa j ∨ fa j + 10 ≤ sa i
set_option maxHeartbeats 4000000 in
theorem LdAt.updS {h h' : qH} {sa fa : Nat → Nat} {E : QE} {len : Nat} {s' : Nat × List Nat} (H : LdAt h sa fa E) (P : PL sa fa E.1.length E.2.2.length len) {k : Nat} (hk : k < E.1.length) (x : ∀ p, p < sa k ∨ sa k + 2 < p → h'[p]? = h[p]?) (s : StAt h' (sa k) s') : LdAt h' sa fa (E.1.set k s', E.2) := by
  obtain ⟨g1, g2, a1, a2, a3, a4, a5, a6, a7, a8⟩ := H
  obtain ⟨P1, P2, P3, P4, P5⟩ := P
  have b := P1 k hk
  refine ⟨g1, g2, ?_, by rw [x 2 (by omega)]; exact a2, by rw [x 5 (by omega)]; exact a3, a4.sm fun p h1 h2 => x p (by omega), by rw [List.length_set]; exact a5, a6, fun i s0 hi => ?_, fun i F0 hi => ?_⟩
  · rw [x 1 (by omega), List.length_set]
    exact a1
  · by_cases hik : i = k
    · subst hik
      rw [List.getElem?_set_self hk] at hi
      cases hi
      exact ⟨(a7 i _ (List.getElem?_eq_getElem hk)).1, s, b.1⟩
    · rw [List.getElem?_set_ne (by omega)] at hi
      have hil := (List.getElem?_eq_some_iff.mp hi).1
      have d := P3 i k hil hk hik
      obtain ⟨q1, q2, q3⟩ := a7 i s0 hi
      exact ⟨q1, q2.sm fun p h1 h2 => x p (by omega), q3⟩
  · have hil := (List.getElem?_eq_some_iff.mp hi).1
    have d := P5 k i hk hil
    obtain ⟨q1, q2, q3⟩ := a8 i F0 hi
    exact ⟨q1, q2.sm fun p h1 h2 => x p (by omega), q3⟩
set_option maxHeartbeats 4000000 in
theorem LdAt.updF {h h' : qH} {sa fa : Nat → Nat} {E : QE} {len : Nat} {F' : QF} (H : LdAt h sa fa E) (P : PL sa fa E.1.length E.2.2.length len) {k : Nat} (hk : k < E.2.2.length) (x : ∀ p, p < fa k ∨ fa k + 9 < p → h'[p]? = h[p]?) (s : CdAt h' (fa k) F') : LdAt h' sa fa (E.1, E.2.1, E.2.2.set k F') := by
  obtain ⟨g1, g2, a1, a2, a3, a4, a5, a6, a7, a8⟩ := H
  obtain ⟨P1, P2, P3, P4, P5⟩ := P
  have b := P2 k hk
  refine ⟨g1, g2, ?_, by rw [x 2 (by omega)]; exact a2, by rw [x 5 (by omega)]; exact a3, a4.sm fun p h1 h2 => x p (by omega), a5, by show (E.2.2.set k F').length ≤ 64; rw [List.length_set]; exact a6, fun i s0 hi => ?_, fun i F0 hi => ?_⟩
  · show h'[1]? = some (.inr (1, [.ref 2, .int (nI E.1.length), .ref 3, .ref 5, .int (nI (E.2.2.set k F').length)]))
    rw [x 1 (by omega), List.length_set]
    exact a1
  · have hil := (List.getElem?_eq_some_iff.mp hi).1
    have d := P5 i k hil hk
    obtain ⟨q1, q2, q3⟩ := a7 i s0 hi
    exact ⟨q1, q2.sm fun p h1 h2 => x p (by omega), q3⟩
  · have hi : (E.2.2.set k F')[i]? = some F0 := hi
    by_cases hik : i = k
    · subst hik
      rw [List.getElem?_set_self hk] at hi
      cases hi
      exact ⟨(a8 i _ (List.getElem?_eq_getElem hk)).1, s, b.1⟩
    · rw [List.getElem?_set_ne (by omega)] at hi
      have hil := (List.getElem?_eq_some_iff.mp hi).1
      have d := P4 i k hil hk hik
      obtain ⟨q1, q2, q3⟩ := a8 i F0 hi
      exact ⟨q1, q2.sm fun p h1 h2 => x p (by omega), q3⟩
set_option maxHeartbeats 4000000 in
theorem rng_y {a : Int32} {m : Nat} (hm : m < 2 ^ 30) (h : 0 ≤ a ∧ a ≤ nI m) : ∃ k, k ≤ m ∧ a = nI k := by
  rcases pk_ix a (show m + 1 < 2 ^ 31 by omega) with z | z | ⟨k, hk, e⟩
  · exact absurd h.1 (Int32.not_le.mpr z)
  · exfalso
    have h2 := Int32.le_trans z h.2
    rw [nI_leI (by omega) (by omega)] at h2
    omega
  · exact ⟨k, by omega, e⟩
set_option maxHeartbeats 4000000 in
theorem rng_n {a : Int32} {m : Nat} (h : ¬ (0 ≤ a ∧ a ≤ nI m)) : qcc1 .lt a = true ∨ (qcc1 .lt a = false ∧ qcc2 .le a (nI m) = false) := by
  by_cases h0 : a < 0
  · exact Or.inl (decide_eq_true h0)
  · exact Or.inr ⟨decide_eq_false h0, decide_eq_false fun z => h ⟨Int32.not_lt.mp h0, z⟩⟩
set_option maxHeartbeats 4000000 in
theorem nI3_ne {n : Nat} (hn : n < 2 ^ 30) : qcc2 .eq (nI n) (-nI 3) = false ∧ qcc2 .ne (nI n) (-nI 3) = true := by
  have key : nI n ≠ -nI 3 := by
    intro z
    have h1 := nI_pos' (show n < 2 ^ 31 by omega)
    rw [z] at h1
    exact absurd h1 (by decide)
  exact ⟨decide_eq_false key, by show (!decide (nI n = -nI 3)) = true; rw [decide_eq_false key]; rfl⟩
set_option maxHeartbeats 4000000 in
theorem qss_sa {h : qH} {a t t' n : Nat} {f f'} (ha : h[a]? = some (.inl (t, n, f))) : qss (h.set a (.inl (t', n, f'))) = qss h := qss_set ha rfl
section AA
variable (sc : Nat × (Nat → Int32)) (h : qH) {sa fa : Nat → Nat} {E : QE}
def upN (f : Nat → Nat) (n v : Nat) : Nat → Nat := fun i => if i = n then v else f i
set_option maxHeartbeats 4000000 in
theorem c_Ledger_addStructure {ab : Nat} (hab : ab < 16) (H : LdAt h sa fa E) (P : PL sa fa E.1.length E.2.2.length h.length) (h49 : 49 ≤ h.length) : wp sc (m_Ledger_addStructure, 0, qargs 0 [.ref 1, .int (nI ab)], [], h) (rI fun r h' => (32 ≤ E.1.length → r = -nI 3 ∧ h' = h) ∧
    (¬ 32 ≤ E.1.length → r = nI E.1.length ∧ LdAt h' (upN sa E.1.length h.length) fa (E.1 ++ [(ab, [])], E.2) ∧ PL (upN sa E.1.length h.length) fa (E.1.length + 1) E.2.2.length h'.length ∧ h'.length = h.length + 3 ∧ qss h' = qss h + 20 ∧ ∀ p, p < h.length → p ≠ 1 → p ≠ 2 → h'[p]? = h[p]?)) := by
  obtain ⟨g1, g2, a1, a2, a3, a4, a5, a6, a7, a8⟩ := id H
  obtain ⟨P1, P2, P3, P4, P5⟩ := id P
  by_cases h32 : 32 ≤ E.1.length
  · repeat' first | refine wp_ist rfl rfl rfl rfl ?_ | refine wp_lst rfl rfl rfl rfl ?_ | refine wp_iinc rfl rfl rfl rfl ?_ | refine wp_f rfl rfl rfl ?_ | refine wp_getf rfl (by repeat' first | assumption | refine qset_ne rfl ?_ | refine qset_self (c0 := ?_) ?_ | refine qset_nf (by omega) ?_ | fail) rfl ?_ | refine wp_ast rfl rfl rfl rfl ?_ | refine wp_asN rfl rfl rfl rfl ?_ | refine wp_putf rfl (by repeat' first | assumption | refine qset_ne rfl ?_ | refine qset_self (c0 := ?_) ?_ | refine qset_nf (by omega) ?_ | fail) (by exact Nat.le_of_ble_eq_true rfl) rfl ?_ | refine wp_iald rfl (by repeat' first | assumption | refine qset_ne rfl ?_ | refine qset_self (c0 := ?_) ?_ | refine qset_nf (by omega) ?_ | fail) ?_ ?_ | refine wp_lald rfl (by repeat' first | assumption | refine qset_ne rfl ?_ | refine qset_self (c0 := ?_) ?_ | refine qset_nf (by omega) ?_ | fail) ?_ ?_ | refine wp_zald rfl (by repeat' first | assumption | refine qset_ne rfl ?_ | refine qset_self (c0 := ?_) ?_ | refine qset_nf (by omega) ?_ | fail) ?_ ?_ | refine wp_iast rfl (by repeat' first | assumption | refine qset_ne rfl ?_ | refine qset_self (c0 := ?_) ?_ | refine qset_nf (by omega) ?_ | fail) ?_ ?_ | refine wp_last rfl (by repeat' first | assumption | refine qset_ne rfl ?_ | refine qset_self (c0 := ?_) ?_ | refine qset_nf (by omega) ?_ | fail) ?_ ?_ | refine wp_alen rfl (by repeat' first | assumption | refine qset_ne rfl ?_ | refine qset_self (c0 := ?_) ?_ | refine qset_nf (by omega) ?_ | fail) rfl ?_ | refine wp_zast rfl (by repeat' first | assumption | refine qset_ne rfl ?_ | refine qset_self (c0 := ?_) ?_ | refine qset_nf (by omega) ?_ | fail) ?_ ?_ | refine wp_b rfl rfl (fun hc => absurd hc (by decide +kernel)) (fun _ => ?_) | refine wp_b rfl rfl (fun _ => ?_) (fun hc => absurd hc (by decide +kernel)) | refine wp_c2y rfl (by omega) (by omega) (by dsimp only [qn2]; omega) ?_ | refine wp_c2n rfl (by omega) (by omega) (by dsimp only [qn2]; omega) ?_ | refine wp_c1y rfl (by omega) (by first | exact True.intro | (dsimp only [qn1]; omega)) ?_ | refine wp_c1n rfl (by omega) (by first | exact (fun z => z) | (dsimp only [qn1]; omega)) ?_ | refine wp_b rfl rfl (fun hc => ?_) (fun hc => ?_) | refine wp_v rfl rfl ?_ | refine ret_t ?_ | refine ret_f ?_ | fail
    exact ⟨fun _ => ⟨rfl, rfl⟩, fun z => absurd h32 z⟩
  · repeat' first | (refine wp_newG rfl rfl fun h1 g => ?_) | refine wp_ist rfl rfl rfl rfl ?_ | refine wp_lst rfl rfl rfl rfl ?_ | refine wp_iinc rfl rfl rfl rfl ?_ | refine wp_f rfl rfl rfl ?_ | refine wp_getf rfl (by repeat' first | assumption | refine qset_ne rfl ?_ | refine qset_self (c0 := ?_) ?_ | refine qset_nf (by omega) ?_ | fail) rfl ?_ | refine wp_ast rfl rfl rfl rfl ?_ | refine wp_asN rfl rfl rfl rfl ?_ | refine wp_putf rfl (by repeat' first | assumption | refine qset_ne rfl ?_ | refine qset_self (c0 := ?_) ?_ | refine qset_nf (by omega) ?_ | fail) (by exact Nat.le_of_ble_eq_true rfl) rfl ?_ | refine wp_iald rfl (by repeat' first | assumption | refine qset_ne rfl ?_ | refine qset_self (c0 := ?_) ?_ | refine qset_nf (by omega) ?_ | fail) ?_ ?_ | refine wp_lald rfl (by repeat' first | assumption | refine qset_ne rfl ?_ | refine qset_self (c0 := ?_) ?_ | refine qset_nf (by omega) ?_ | fail) ?_ ?_ | refine wp_zald rfl (by repeat' first | assumption | refine qset_ne rfl ?_ | refine qset_self (c0 := ?_) ?_ | refine qset_nf (by omega) ?_ | fail) ?_ ?_ | refine wp_iast rfl (by repeat' first | assumption | refine qset_ne rfl ?_ | refine qset_self (c0 := ?_) ?_ | refine qset_nf (by omega) ?_ | fail) ?_ ?_ | refine wp_last rfl (by repeat' first | assumption | refine qset_ne rfl ?_ | refine qset_self (c0 := ?_) ?_ | refine qset_nf (by omega) ?_ | fail) ?_ ?_ | refine wp_alen rfl (by repeat' first | assumption | refine qset_ne rfl ?_ | refine qset_self (c0 := ?_) ?_ | refine qset_nf (by omega) ?_ | fail) rfl ?_ | refine wp_zast rfl (by repeat' first | assumption | refine qset_ne rfl ?_ | refine qset_self (c0 := ?_) ?_ | refine qset_nf (by omega) ?_ | fail) ?_ ?_ | refine wp_b rfl rfl (fun hc => absurd hc (by decide +kernel)) (fun _ => ?_) | refine wp_b rfl rfl (fun _ => ?_) (fun hc => absurd hc (by decide +kernel)) | refine wp_c2y rfl (by omega) (by omega) (by dsimp only [qn2]; omega) ?_ | refine wp_c2n rfl (by omega) (by omega) (by dsimp only [qn2]; omega) ?_ | refine wp_c1y rfl (by omega) (by first | exact True.intro | (dsimp only [qn1]; omega)) ?_ | refine wp_c1n rfl (by omega) (by first | exact (fun z => z) | (dsimp only [qn1]; omega)) ?_ | refine wp_b rfl rfl (fun hc => ?_) (fun hc => ?_) | refine wp_v rfl rfl ?_ | refine ret_t ?_ | refine ret_f ?_ | fail
    refine wp_Iu2 rfl rfl rfl (c_Structure_init sc h1 (a := h.length) hab g.2.2.1 g.1) fun h2 ⟨q1, q2⟩ => ?_
    have e1 := q2.at (by omega) (g.at a1)
    have e2 := q2.at (by omega) (g.at a2)
    refine wp_aast4 rfl e2 q1.1 (qin_nI (by omega) (by omega)) ?_
    rw [nI_clamp (show E.1.length < 2 ^ 31 by omega)]
    refine wp_n rfl rfl ?_
    refine wp_n rfl rfl ?_
    refine wp_getf rfl (qset_ne rfl e1) rfl ?_
    refine wp_n rfl rfl ?_
    refine wp_n rfl rfl ?_
    refine wp_putf rfl (qset_ne rfl e1) (by exact Nat.le_of_ble_eq_true rfl) rfl ?_
    refine wp_n rfl rfl ?_
    refine wp_getf rfl (qset_self (qset_ne rfl e1)) rfl ?_
    repeat' first | refine wp_ist rfl rfl rfl rfl ?_ | refine wp_lst rfl rfl rfl rfl ?_ | refine wp_iinc rfl rfl rfl rfl ?_ | refine wp_f rfl rfl rfl ?_ | refine wp_getf rfl (by repeat' first | assumption | refine qset_ne rfl ?_ | refine qset_self (c0 := ?_) ?_ | refine qset_nf (by omega) ?_ | fail) rfl ?_ | refine wp_ast rfl rfl rfl rfl ?_ | refine wp_asN rfl rfl rfl rfl ?_ | refine wp_putf rfl (by repeat' first | assumption | refine qset_ne rfl ?_ | refine qset_self (c0 := ?_) ?_ | refine qset_nf (by omega) ?_ | fail) (by exact Nat.le_of_ble_eq_true rfl) rfl ?_ | refine wp_iald rfl (by repeat' first | assumption | refine qset_ne rfl ?_ | refine qset_self (c0 := ?_) ?_ | refine qset_nf (by omega) ?_ | fail) ?_ ?_ | refine wp_lald rfl (by repeat' first | assumption | refine qset_ne rfl ?_ | refine qset_self (c0 := ?_) ?_ | refine qset_nf (by omega) ?_ | fail) ?_ ?_ | refine wp_zald rfl (by repeat' first | assumption | refine qset_ne rfl ?_ | refine qset_self (c0 := ?_) ?_ | refine qset_nf (by omega) ?_ | fail) ?_ ?_ | refine wp_iast rfl (by repeat' first | assumption | refine qset_ne rfl ?_ | refine qset_self (c0 := ?_) ?_ | refine qset_nf (by omega) ?_ | fail) ?_ ?_ | refine wp_last rfl (by repeat' first | assumption | refine qset_ne rfl ?_ | refine qset_self (c0 := ?_) ?_ | refine qset_nf (by omega) ?_ | fail) ?_ ?_ | refine wp_alen rfl (by repeat' first | assumption | refine qset_ne rfl ?_ | refine qset_self (c0 := ?_) ?_ | refine qset_nf (by omega) ?_ | fail) rfl ?_ | refine wp_zast rfl (by repeat' first | assumption | refine qset_ne rfl ?_ | refine qset_self (c0 := ?_) ?_ | refine qset_nf (by omega) ?_ | fail) ?_ ?_ | refine wp_b rfl rfl (fun hc => absurd hc (by decide +kernel)) (fun _ => ?_) | refine wp_b rfl rfl (fun _ => ?_) (fun hc => absurd hc (by decide +kernel)) | refine wp_b rfl rfl (fun hc => ?_) (fun hc => ?_) | refine wp_v rfl rfl ?_ | refine ret_t ?_ | refine ret_f ?_ | fail
    have same : ∀ p, p < h.length → p ≠ 1 → p ≠ 2 → ((h2.set 2 (.inl (4, 32, .inr (.inr (.inr (.inr (va_up g1 E.1.length (some h.length)))))))).set 1 (.inr (1, List.set [.ref 2, .int (nI E.1.length), .ref 3, .ref 5, .int (nI E.2.2.length)] 1 (.int (nI E.1.length + nI 1)))))[p]? = h[p]? := by
      intro p hp hp1 hp2
      rw [List.getElem?_set_ne (by omega), List.getElem?_set_ne (by omega), q2.2.1 p (by rw [g.1]; omega) (by omega), g.2.1 p hp]
    have hlen : ((h2.set 2 (.inl (4, 32, .inr (.inr (.inr (.inr (va_up g1 E.1.length (some h.length)))))))).set 1 (.inr (1, List.set [.ref 2, .int (nI E.1.length), .ref 3, .ref 5, .int (nI E.2.2.length)] 1 (.int (nI E.1.length + nI 1))))).length = h.length + 3 := by rw [List.length_set, List.length_set, q2.1, g.1]
    refine ⟨fun z => absurd z h32, fun _ => ⟨?_, ⟨va_up g1 E.1.length (some h.length), g2, ?_, (by repeat' first | assumption | refine qset_ne rfl ?_ | refine qset_self (c0 := ?_) ?_ | refine qset_nf (by omega) ?_ | fail), ?_, a4.sm fun p x1 x2 => same p (by omega) (by omega) (by omega), ?_, a6, fun i s0 hi => ?_, fun i F0 hi => ?_⟩, ⟨fun i hi => ?_, fun i hi => ?_, fun i j hi hj hij => ?_, fun i j hi hj hij => P4 i j hi hj hij, fun i j hi hj => ?_⟩, hlen, ?_, same⟩⟩
    · show nI E.1.length + nI 1 - nI 1 = nI E.1.length
      rw [nI_add]
      exact nI_pred _
    · show _ = (some (.inr (1, [.ref 2, .int (nI (E.1 ++ [(ab, [])]).length), .ref 3, .ref 5, .int (nI E.2.2.length)])) : Option qC)
      rw [List.length_append, List.length_singleton, ← nI_add]
      exact qset_self (qset_ne rfl e1)
    · rw [same 5 (by omega) (by omega) (by omega)]
      exact a3
    · show (E.1 ++ [(ab, [])]).length ≤ 32
      rw [List.length_append, List.length_singleton]
      omega
    · have hi : (E.1 ++ [(ab, [])])[i]? = some s0 := hi
      by_cases hin : i = E.1.length
      · subst hin
        rw [List.getElem?_append_right (Nat.le_refl _), Nat.sub_self] at hi
        cases hi
        unfold va_up upN
        simp only [if_true]
        exact ⟨trivial, q1.sm fun p x1 x2 => by rw [List.getElem?_set_ne (by omega), List.getElem?_set_ne (by omega)], h49⟩
      · have hil : i < E.1.length := by
          have := (List.getElem?_eq_some_iff.mp hi).1
          rw [List.length_append, List.length_singleton] at this
          omega
        rw [List.getElem?_append_left hil] at hi
        obtain ⟨r1, r2, r3⟩ := a7 i s0 hi
        have b := P1 i hil
        unfold va_up upN
        simp only [if_neg hin]
        exact ⟨r1, r2.sm fun p x1 x2 => same p (by omega) (by omega) (by omega), r3⟩
    · obtain ⟨r1, r2, r3⟩ := a8 i F0 hi
      have b := P2 i (List.getElem?_eq_some_iff.mp hi).1
      exact ⟨r1, r2.sm fun p x1 x2 => same p (by omega) (by omega) (by omega), r3⟩
    · unfold upN
      by_cases hin : i = E.1.length
      · rw [if_pos hin]
        omega
      · rw [if_neg hin]
        have b := P1 i (by omega)
        omega
    · have b := P2 i hi
      omega
    · unfold upN
      by_cases hin : i = E.1.length
      · rw [if_pos hin, if_neg (by omega)]
        have b := P1 j (by omega)
        omega
      · rw [if_neg hin]
        have b := P1 i (by omega)
        by_cases hjn : j = E.1.length
        · rw [if_pos hjn]
          omega
        · rw [if_neg hjn]
          exact P3 i j (by omega) (by omega) hij
    · unfold upN
      have b := P2 j hj
      by_cases hin : i = E.1.length
      · rw [if_pos hin]
        omega
      · rw [if_neg hin]
        exact P5 i j (by omega) hj
    · rw [qss_so (qset_ne rfl e1), qss_sa e2, q2.2.2, g.2.2.2]
      rfl
set_option maxHeartbeats 4000000 in
theorem c_Ledger_addCode {fl : Nat} (hfl : fl < 8) (H : LdAt h sa fa E) (P : PL sa fa E.1.length E.2.2.length h.length) (h49 : 49 ≤ h.length) : wp sc (m_Ledger_addCode, 0, qargs 0 [.ref 1, .int (nI fl)], [], h) (rI fun r h' => (64 ≤ E.2.2.length → r = -nI 3 ∧ h' = h) ∧
    (¬ 64 ≤ E.2.2.length → r = nI E.2.2.length ∧ LdAt h' sa (upN fa E.2.2.length h.length) (E.1, E.2.1, E.2.2 ++ [(fl, [], [], [], [])]) ∧ PL sa (upN fa E.2.2.length h.length) E.1.length (E.2.2.length + 1) h'.length ∧ h'.length = h.length + 10 ∧ qss h' = qss h + 830 ∧ ∀ p, p < h.length → p ≠ 1 → p ≠ 5 → h'[p]? = h[p]?)) := by
  obtain ⟨g1, g2, a1, a2, a3, a4, a5, a6, a7, a8⟩ := id H
  obtain ⟨P1, P2, P3, P4, P5⟩ := id P
  by_cases h64 : 64 ≤ E.2.2.length
  · repeat' first | refine wp_ist rfl rfl rfl rfl ?_ | refine wp_lst rfl rfl rfl rfl ?_ | refine wp_iinc rfl rfl rfl rfl ?_ | refine wp_f rfl rfl rfl ?_ | refine wp_getf rfl (by repeat' first | assumption | refine qset_ne rfl ?_ | refine qset_self (c0 := ?_) ?_ | refine qset_nf (by omega) ?_ | fail) rfl ?_ | refine wp_ast rfl rfl rfl rfl ?_ | refine wp_asN rfl rfl rfl rfl ?_ | refine wp_putf rfl (by repeat' first | assumption | refine qset_ne rfl ?_ | refine qset_self (c0 := ?_) ?_ | refine qset_nf (by omega) ?_ | fail) (by exact Nat.le_of_ble_eq_true rfl) rfl ?_ | refine wp_iald rfl (by repeat' first | assumption | refine qset_ne rfl ?_ | refine qset_self (c0 := ?_) ?_ | refine qset_nf (by omega) ?_ | fail) ?_ ?_ | refine wp_lald rfl (by repeat' first | assumption | refine qset_ne rfl ?_ | refine qset_self (c0 := ?_) ?_ | refine qset_nf (by omega) ?_ | fail) ?_ ?_ | refine wp_zald rfl (by repeat' first | assumption | refine qset_ne rfl ?_ | refine qset_self (c0 := ?_) ?_ | refine qset_nf (by omega) ?_ | fail) ?_ ?_ | refine wp_iast rfl (by repeat' first | assumption | refine qset_ne rfl ?_ | refine qset_self (c0 := ?_) ?_ | refine qset_nf (by omega) ?_ | fail) ?_ ?_ | refine wp_last rfl (by repeat' first | assumption | refine qset_ne rfl ?_ | refine qset_self (c0 := ?_) ?_ | refine qset_nf (by omega) ?_ | fail) ?_ ?_ | refine wp_alen rfl (by repeat' first | assumption | refine qset_ne rfl ?_ | refine qset_self (c0 := ?_) ?_ | refine qset_nf (by omega) ?_ | fail) rfl ?_ | refine wp_zast rfl (by repeat' first | assumption | refine qset_ne rfl ?_ | refine qset_self (c0 := ?_) ?_ | refine qset_nf (by omega) ?_ | fail) ?_ ?_ | refine wp_b rfl rfl (fun hc => absurd hc (by decide +kernel)) (fun _ => ?_) | refine wp_b rfl rfl (fun _ => ?_) (fun hc => absurd hc (by decide +kernel)) | refine wp_c2y rfl (by omega) (by omega) (by dsimp only [qn2]; omega) ?_ | refine wp_c2n rfl (by omega) (by omega) (by dsimp only [qn2]; omega) ?_ | refine wp_c1y rfl (by omega) (by first | exact True.intro | (dsimp only [qn1]; omega)) ?_ | refine wp_c1n rfl (by omega) (by first | exact (fun z => z) | (dsimp only [qn1]; omega)) ?_ | refine wp_b rfl rfl (fun hc => ?_) (fun hc => ?_) | refine wp_v rfl rfl ?_ | refine ret_t ?_ | refine ret_f ?_ | fail
    exact ⟨fun _ => ⟨rfl, rfl⟩, fun z => absurd h64 z⟩
  · repeat' first | (refine wp_newG rfl rfl fun h1 g => ?_) | refine wp_ist rfl rfl rfl rfl ?_ | refine wp_lst rfl rfl rfl rfl ?_ | refine wp_iinc rfl rfl rfl rfl ?_ | refine wp_f rfl rfl rfl ?_ | refine wp_getf rfl (by repeat' first | assumption | refine qset_ne rfl ?_ | refine qset_self (c0 := ?_) ?_ | refine qset_nf (by omega) ?_ | fail) rfl ?_ | refine wp_ast rfl rfl rfl rfl ?_ | refine wp_asN rfl rfl rfl rfl ?_ | refine wp_putf rfl (by repeat' first | assumption | refine qset_ne rfl ?_ | refine qset_self (c0 := ?_) ?_ | refine qset_nf (by omega) ?_ | fail) (by exact Nat.le_of_ble_eq_true rfl) rfl ?_ | refine wp_iald rfl (by repeat' first | assumption | refine qset_ne rfl ?_ | refine qset_self (c0 := ?_) ?_ | refine qset_nf (by omega) ?_ | fail) ?_ ?_ | refine wp_lald rfl (by repeat' first | assumption | refine qset_ne rfl ?_ | refine qset_self (c0 := ?_) ?_ | refine qset_nf (by omega) ?_ | fail) ?_ ?_ | refine wp_zald rfl (by repeat' first | assumption | refine qset_ne rfl ?_ | refine qset_self (c0 := ?_) ?_ | refine qset_nf (by omega) ?_ | fail) ?_ ?_ | refine wp_iast rfl (by repeat' first | assumption | refine qset_ne rfl ?_ | refine qset_self (c0 := ?_) ?_ | refine qset_nf (by omega) ?_ | fail) ?_ ?_ | refine wp_last rfl (by repeat' first | assumption | refine qset_ne rfl ?_ | refine qset_self (c0 := ?_) ?_ | refine qset_nf (by omega) ?_ | fail) ?_ ?_ | refine wp_alen rfl (by repeat' first | assumption | refine qset_ne rfl ?_ | refine qset_self (c0 := ?_) ?_ | refine qset_nf (by omega) ?_ | fail) rfl ?_ | refine wp_zast rfl (by repeat' first | assumption | refine qset_ne rfl ?_ | refine qset_self (c0 := ?_) ?_ | refine qset_nf (by omega) ?_ | fail) ?_ ?_ | refine wp_b rfl rfl (fun hc => absurd hc (by decide +kernel)) (fun _ => ?_) | refine wp_b rfl rfl (fun _ => ?_) (fun hc => absurd hc (by decide +kernel)) | refine wp_c2y rfl (by omega) (by omega) (by dsimp only [qn2]; omega) ?_ | refine wp_c2n rfl (by omega) (by omega) (by dsimp only [qn2]; omega) ?_ | refine wp_c1y rfl (by omega) (by first | exact True.intro | (dsimp only [qn1]; omega)) ?_ | refine wp_c1n rfl (by omega) (by first | exact (fun z => z) | (dsimp only [qn1]; omega)) ?_ | refine wp_b rfl rfl (fun hc => ?_) (fun hc => ?_) | refine wp_v rfl rfl ?_ | refine ret_t ?_ | refine ret_f ?_ | fail
    refine wp_Iu2 rfl rfl rfl (c_Code_init sc h1 (a := h.length) hfl g.2.2.1 g.1) fun h2 ⟨q1, q2⟩ => ?_
    have e1 := q2.at (by omega) (g.at a1)
    have e2 := q2.at (by omega) (g.at a3)
    obtain ⟨w1, w2, w3, qo, q1'⟩ := id q1
    refine wp_aast5 rfl e2 qo (qin_nI (by omega) (by omega)) ?_
    rw [nI_clamp (show E.2.2.length < 2 ^ 31 by omega)]
    refine wp_n rfl rfl ?_
    refine wp_n rfl rfl ?_
    refine wp_getf rfl (qset_ne rfl e1) rfl ?_
    refine wp_n rfl rfl ?_
    refine wp_n rfl rfl ?_
    refine wp_putf rfl (qset_ne rfl e1) (by exact Nat.le_of_ble_eq_true rfl) rfl ?_
    refine wp_n rfl rfl ?_
    refine wp_getf rfl (qset_self (qset_ne rfl e1)) rfl ?_
    repeat' first | refine wp_ist rfl rfl rfl rfl ?_ | refine wp_lst rfl rfl rfl rfl ?_ | refine wp_iinc rfl rfl rfl rfl ?_ | refine wp_f rfl rfl rfl ?_ | refine wp_getf rfl (by repeat' first | assumption | refine qset_ne rfl ?_ | refine qset_self (c0 := ?_) ?_ | refine qset_nf (by omega) ?_ | fail) rfl ?_ | refine wp_ast rfl rfl rfl rfl ?_ | refine wp_asN rfl rfl rfl rfl ?_ | refine wp_putf rfl (by repeat' first | assumption | refine qset_ne rfl ?_ | refine qset_self (c0 := ?_) ?_ | refine qset_nf (by omega) ?_ | fail) (by exact Nat.le_of_ble_eq_true rfl) rfl ?_ | refine wp_iald rfl (by repeat' first | assumption | refine qset_ne rfl ?_ | refine qset_self (c0 := ?_) ?_ | refine qset_nf (by omega) ?_ | fail) ?_ ?_ | refine wp_lald rfl (by repeat' first | assumption | refine qset_ne rfl ?_ | refine qset_self (c0 := ?_) ?_ | refine qset_nf (by omega) ?_ | fail) ?_ ?_ | refine wp_zald rfl (by repeat' first | assumption | refine qset_ne rfl ?_ | refine qset_self (c0 := ?_) ?_ | refine qset_nf (by omega) ?_ | fail) ?_ ?_ | refine wp_iast rfl (by repeat' first | assumption | refine qset_ne rfl ?_ | refine qset_self (c0 := ?_) ?_ | refine qset_nf (by omega) ?_ | fail) ?_ ?_ | refine wp_last rfl (by repeat' first | assumption | refine qset_ne rfl ?_ | refine qset_self (c0 := ?_) ?_ | refine qset_nf (by omega) ?_ | fail) ?_ ?_ | refine wp_alen rfl (by repeat' first | assumption | refine qset_ne rfl ?_ | refine qset_self (c0 := ?_) ?_ | refine qset_nf (by omega) ?_ | fail) rfl ?_ | refine wp_zast rfl (by repeat' first | assumption | refine qset_ne rfl ?_ | refine qset_self (c0 := ?_) ?_ | refine qset_nf (by omega) ?_ | fail) ?_ ?_ | refine wp_b rfl rfl (fun hc => absurd hc (by decide +kernel)) (fun _ => ?_) | refine wp_b rfl rfl (fun _ => ?_) (fun hc => absurd hc (by decide +kernel)) | refine wp_b rfl rfl (fun hc => ?_) (fun hc => ?_) | refine wp_v rfl rfl ?_ | refine ret_t ?_ | refine ret_f ?_ | fail
    have same : ∀ p, p < h.length → p ≠ 1 → p ≠ 5 → ((h2.set 5 (.inl (5, 64, .inr (.inr (.inr (.inr (va_up g2 E.2.2.length (some h.length)))))))).set 1 (.inr (1, List.set [.ref 2, .int (nI E.1.length), .ref 3, .ref 5, .int (nI E.2.2.length)] 4 (.int (nI E.2.2.length + nI 1)))))[p]? = h[p]? := by
      intro p hp hp1 hp2
      rw [List.getElem?_set_ne (by omega), List.getElem?_set_ne (by omega), q2.2.1 p (by rw [g.1]; omega) (by omega), g.2.1 p hp]
    have hlen : ((h2.set 5 (.inl (5, 64, .inr (.inr (.inr (.inr (va_up g2 E.2.2.length (some h.length)))))))).set 1 (.inr (1, List.set [.ref 2, .int (nI E.1.length), .ref 3, .ref 5, .int (nI E.2.2.length)] 4 (.int (nI E.2.2.length + nI 1))))).length = h.length + 10 := by rw [List.length_set, List.length_set, q2.1, g.1]
    refine ⟨fun z => absurd z h64, fun _ => ⟨?_, ⟨g1, va_up g2 E.2.2.length (some h.length), ?_, ?_, (by repeat' first | assumption | refine qset_ne rfl ?_ | refine qset_self (c0 := ?_) ?_ | refine qset_nf (by omega) ?_ | fail), a4.sm fun p x1 x2 => same p (by omega) (by omega) (by omega), a5, ?_, fun i s0 hi => ?_, fun i F0 hi => ?_⟩, ⟨fun i hi => ?_, fun i hi => ?_, fun i j hi hj hij => P3 i j hi hj hij, fun i j hi hj hij => ?_, fun i j hi hj => ?_⟩, hlen, ?_, same⟩⟩
    · show nI E.2.2.length + nI 1 - nI 1 = nI E.2.2.length
      rw [nI_add]
      exact nI_pred _
    · show _ = (some (.inr (1, [.ref 2, .int (nI E.1.length), .ref 3, .ref 5, .int (nI (E.2.2 ++ [(fl, [], [], [], [])]).length)])) : Option qC)
      rw [List.length_append, List.length_singleton, ← nI_add]
      exact qset_self (qset_ne rfl e1)
    · rw [same 2 (by omega) (by omega) (by omega)]
      exact a2
    · show (E.2.2 ++ [(fl, [], [], [], [])]).length ≤ 64
      rw [List.length_append, List.length_singleton]
      omega
    · obtain ⟨r1, r2, r3⟩ := a7 i s0 hi
      have b := P1 i (List.getElem?_eq_some_iff.mp hi).1
      exact ⟨r1, r2.sm fun p x1 x2 => same p (by omega) (by omega) (by omega), r3⟩
    · have hi : (E.2.2 ++ [(fl, [], [], [], [])])[i]? = some F0 := hi
      by_cases hin : i = E.2.2.length
      · subst hin
        rw [List.getElem?_append_right (Nat.le_refl _), Nat.sub_self] at hi
        cases hi
        unfold va_up upN
        simp only [if_true]
        exact ⟨trivial, q1.sm fun p x1 x2 => by rw [List.getElem?_set_ne (by omega), List.getElem?_set_ne (by omega)], h49⟩
      · have hil : i < E.2.2.length := by
          have := (List.getElem?_eq_some_iff.mp hi).1
          rw [List.length_append, List.length_singleton] at this
          omega
        rw [List.getElem?_append_left hil] at hi
        obtain ⟨r1, r2, r3⟩ := a8 i F0 hi
        have b := P2 i hil
        unfold va_up upN
        simp only [if_neg hin]
        exact ⟨r1, r2.sm fun p x1 x2 => same p (by omega) (by omega) (by omega), r3⟩
    · have b := P1 i hi
      omega
    · unfold upN
      by_cases hin : i = E.2.2.length
      · rw [if_pos hin]
        omega
      · rw [if_neg hin]
        have b := P2 i (by omega)
        omega
    · unfold upN
      by_cases hin : i = E.2.2.length
      · rw [if_pos hin, if_neg (by omega)]
        have b := P2 j (by omega)
        omega
      · rw [if_neg hin]
        have b := P2 i (by omega)
        by_cases hjn : j = E.2.2.length
        · rw [if_pos hjn]
          omega
        · rw [if_neg hjn]
          exact P4 i j (by omega) (by omega) hij
    · unfold upN
      have b := P1 i hi
      by_cases hjn : j = E.2.2.length
      · rw [if_pos hjn]
        omega
      · rw [if_neg hjn]
        exact P5 i j hi (by omega)
    · rw [qss_so (qset_ne rfl e1), qss_sa e2, q2.2.2, g.2.2.2]
      rfl
set_option maxHeartbeats 4000000 in
theorem c_Code_addType {g w n : Nat} {F : QF} (hw : w ≤ 2) (h49 : 49 ≤ g) (H : CdAt h g F) : wp sc (m_Code_addType, 0, qargs 0 [.ref g, .int (nI w), .long (lN n)], [], h) (rI fun r h' => ((if w = 2 then 32 else 8) ≤ (listL F w).length → r = -nI 3 ∧ h' = h) ∧ (¬ (if w = 2 then 32 else 8) ≤ (listL F w).length → r = nI ((listL F w).length + 1) ∧ CdAt h' g (listF F w n) ∧ qfx g (g + 9) h h')) := by
  obtain ⟨f1, f2, f3, b1, b2, b3, b4, b5, b6, b7, b8⟩ := id H
  obtain ⟨_, t1, _⟩ := id b2
  obtain ⟨_, t2, _⟩ := id b3
  obtain ⟨_, t3, _⟩ := id b4
  rcases (show w = 0 ∨ w = 1 ∨ w = 2 by omega) with rfl | rfl | rfl
  · repeat' first | refine wp_Vi rfl rfl (by repeat' first | assumption | refine qset_ne rfl ?_ | refine qset_self (c0 := ?_) ?_ | refine qset_nf (by omega) ?_ | fail) rfl (c_TypeList_add sc h (g + 1) 8 (fTakes F) b2 n) (fun r h2 Q => ?_) | refine wp_ist rfl rfl rfl rfl ?_ | refine wp_lst rfl rfl rfl rfl ?_ | refine wp_iinc rfl rfl rfl rfl ?_ | refine wp_f rfl rfl rfl ?_ | refine wp_getf rfl (by repeat' first | assumption | refine qset_ne rfl ?_ | refine qset_self (c0 := ?_) ?_ | refine qset_nf (by omega) ?_ | fail) rfl ?_ | refine wp_ast rfl rfl rfl rfl ?_ | refine wp_asN rfl rfl rfl rfl ?_ | refine wp_putf rfl (by repeat' first | assumption | refine qset_ne rfl ?_ | refine qset_self (c0 := ?_) ?_ | refine qset_nf (by omega) ?_ | fail) (by exact Nat.le_of_ble_eq_true rfl) rfl ?_ | refine wp_iald rfl (by repeat' first | assumption | refine qset_ne rfl ?_ | refine qset_self (c0 := ?_) ?_ | refine qset_nf (by omega) ?_ | fail) ?_ ?_ | refine wp_lald rfl (by repeat' first | assumption | refine qset_ne rfl ?_ | refine qset_self (c0 := ?_) ?_ | refine qset_nf (by omega) ?_ | fail) ?_ ?_ | refine wp_zald rfl (by repeat' first | assumption | refine qset_ne rfl ?_ | refine qset_self (c0 := ?_) ?_ | refine qset_nf (by omega) ?_ | fail) ?_ ?_ | refine wp_iast rfl (by repeat' first | assumption | refine qset_ne rfl ?_ | refine qset_self (c0 := ?_) ?_ | refine qset_nf (by omega) ?_ | fail) ?_ ?_ | refine wp_last rfl (by repeat' first | assumption | refine qset_ne rfl ?_ | refine qset_self (c0 := ?_) ?_ | refine qset_nf (by omega) ?_ | fail) ?_ ?_ | refine wp_alen rfl (by repeat' first | assumption | refine qset_ne rfl ?_ | refine qset_self (c0 := ?_) ?_ | refine qset_nf (by omega) ?_ | fail) rfl ?_ | refine wp_zast rfl (by repeat' first | assumption | refine qset_ne rfl ?_ | refine qset_self (c0 := ?_) ?_ | refine qset_nf (by omega) ?_ | fail) ?_ ?_ | refine wp_b rfl rfl (fun hc => absurd hc (by decide +kernel)) (fun _ => ?_) | refine wp_b rfl rfl (fun _ => ?_) (fun hc => absurd hc (by decide +kernel)) | refine wp_b rfl rfl (fun hc => ?_) (fun hc => ?_) | refine wp_v rfl rfl ?_ | refine ret_t ?_ | refine ret_f ?_ | fail
    refine ⟨fun z => Q.2 (Nat.not_lt.mpr z), fun z => ?_⟩
    obtain ⟨q1, q2, q3⟩ := Q.1 (Nat.not_le.mp z)
    exact ⟨q1, ⟨f1, f2, f3, q3.at (by omega) b1, q2, b3.fx q3 (by omega), b4.fx q3 (by omega), q3.at (by omega) b5, q3.at (by omega) b6, q3.at (by omega) b7, b8⟩, q3.mo (by omega) (by omega)⟩
  · repeat' first | refine wp_Vi rfl rfl (by repeat' first | assumption | refine qset_ne rfl ?_ | refine qset_self (c0 := ?_) ?_ | refine qset_nf (by omega) ?_ | fail) rfl (c_TypeList_add sc h (g + 3) 8 (fGives F) b3 n) (fun r h2 Q => ?_) | refine wp_ist rfl rfl rfl rfl ?_ | refine wp_lst rfl rfl rfl rfl ?_ | refine wp_iinc rfl rfl rfl rfl ?_ | refine wp_f rfl rfl rfl ?_ | refine wp_getf rfl (by repeat' first | assumption | refine qset_ne rfl ?_ | refine qset_self (c0 := ?_) ?_ | refine qset_nf (by omega) ?_ | fail) rfl ?_ | refine wp_ast rfl rfl rfl rfl ?_ | refine wp_asN rfl rfl rfl rfl ?_ | refine wp_putf rfl (by repeat' first | assumption | refine qset_ne rfl ?_ | refine qset_self (c0 := ?_) ?_ | refine qset_nf (by omega) ?_ | fail) (by exact Nat.le_of_ble_eq_true rfl) rfl ?_ | refine wp_iald rfl (by repeat' first | assumption | refine qset_ne rfl ?_ | refine qset_self (c0 := ?_) ?_ | refine qset_nf (by omega) ?_ | fail) ?_ ?_ | refine wp_lald rfl (by repeat' first | assumption | refine qset_ne rfl ?_ | refine qset_self (c0 := ?_) ?_ | refine qset_nf (by omega) ?_ | fail) ?_ ?_ | refine wp_zald rfl (by repeat' first | assumption | refine qset_ne rfl ?_ | refine qset_self (c0 := ?_) ?_ | refine qset_nf (by omega) ?_ | fail) ?_ ?_ | refine wp_iast rfl (by repeat' first | assumption | refine qset_ne rfl ?_ | refine qset_self (c0 := ?_) ?_ | refine qset_nf (by omega) ?_ | fail) ?_ ?_ | refine wp_last rfl (by repeat' first | assumption | refine qset_ne rfl ?_ | refine qset_self (c0 := ?_) ?_ | refine qset_nf (by omega) ?_ | fail) ?_ ?_ | refine wp_alen rfl (by repeat' first | assumption | refine qset_ne rfl ?_ | refine qset_self (c0 := ?_) ?_ | refine qset_nf (by omega) ?_ | fail) rfl ?_ | refine wp_zast rfl (by repeat' first | assumption | refine qset_ne rfl ?_ | refine qset_self (c0 := ?_) ?_ | refine qset_nf (by omega) ?_ | fail) ?_ ?_ | refine wp_b rfl rfl (fun hc => absurd hc (by decide +kernel)) (fun _ => ?_) | refine wp_b rfl rfl (fun _ => ?_) (fun hc => absurd hc (by decide +kernel)) | refine wp_b rfl rfl (fun hc => ?_) (fun hc => ?_) | refine wp_v rfl rfl ?_ | refine ret_t ?_ | refine ret_f ?_ | fail
    refine ⟨fun z => Q.2 (Nat.not_lt.mpr z), fun z => ?_⟩
    obtain ⟨q1, q2, q3⟩ := Q.1 (Nat.not_le.mp z)
    exact ⟨q1, ⟨f1, f2, f3, q3.at (by omega) b1, b2.fx q3 (by omega), q2, b4.fx q3 (by omega), q3.at (by omega) b5, q3.at (by omega) b6, q3.at (by omega) b7, b8⟩, q3.mo (by omega) (by omega)⟩
  · repeat' first | refine wp_Vi rfl rfl (by repeat' first | assumption | refine qset_ne rfl ?_ | refine qset_self (c0 := ?_) ?_ | refine qset_nf (by omega) ?_ | fail) rfl (c_TypeList_add sc h (g + 5) 32 (fMore F) b4 n) (fun r h2 Q => ?_) | refine wp_ist rfl rfl rfl rfl ?_ | refine wp_lst rfl rfl rfl rfl ?_ | refine wp_iinc rfl rfl rfl rfl ?_ | refine wp_f rfl rfl rfl ?_ | refine wp_getf rfl (by repeat' first | assumption | refine qset_ne rfl ?_ | refine qset_self (c0 := ?_) ?_ | refine qset_nf (by omega) ?_ | fail) rfl ?_ | refine wp_ast rfl rfl rfl rfl ?_ | refine wp_asN rfl rfl rfl rfl ?_ | refine wp_putf rfl (by repeat' first | assumption | refine qset_ne rfl ?_ | refine qset_self (c0 := ?_) ?_ | refine qset_nf (by omega) ?_ | fail) (by exact Nat.le_of_ble_eq_true rfl) rfl ?_ | refine wp_iald rfl (by repeat' first | assumption | refine qset_ne rfl ?_ | refine qset_self (c0 := ?_) ?_ | refine qset_nf (by omega) ?_ | fail) ?_ ?_ | refine wp_lald rfl (by repeat' first | assumption | refine qset_ne rfl ?_ | refine qset_self (c0 := ?_) ?_ | refine qset_nf (by omega) ?_ | fail) ?_ ?_ | refine wp_zald rfl (by repeat' first | assumption | refine qset_ne rfl ?_ | refine qset_self (c0 := ?_) ?_ | refine qset_nf (by omega) ?_ | fail) ?_ ?_ | refine wp_iast rfl (by repeat' first | assumption | refine qset_ne rfl ?_ | refine qset_self (c0 := ?_) ?_ | refine qset_nf (by omega) ?_ | fail) ?_ ?_ | refine wp_last rfl (by repeat' first | assumption | refine qset_ne rfl ?_ | refine qset_self (c0 := ?_) ?_ | refine qset_nf (by omega) ?_ | fail) ?_ ?_ | refine wp_alen rfl (by repeat' first | assumption | refine qset_ne rfl ?_ | refine qset_self (c0 := ?_) ?_ | refine qset_nf (by omega) ?_ | fail) rfl ?_ | refine wp_zast rfl (by repeat' first | assumption | refine qset_ne rfl ?_ | refine qset_self (c0 := ?_) ?_ | refine qset_nf (by omega) ?_ | fail) ?_ ?_ | refine wp_b rfl rfl (fun hc => absurd hc (by decide +kernel)) (fun _ => ?_) | refine wp_b rfl rfl (fun _ => ?_) (fun hc => absurd hc (by decide +kernel)) | refine wp_b rfl rfl (fun hc => ?_) (fun hc => ?_) | refine wp_v rfl rfl ?_ | refine ret_t ?_ | refine ret_f ?_ | fail
    refine ⟨fun z => Q.2 (Nat.not_lt.mpr z), fun z => ?_⟩
    obtain ⟨q1, q2, q3⟩ := Q.1 (Nat.not_le.mp z)
    exact ⟨q1, ⟨f1, f2, f3, q3.at (by omega) b1, b2.fx q3 (by omega), b3.fx q3 (by omega), q2, q3.at (by omega) b5, q3.at (by omega) b6, q3.at (by omega) b7, b8⟩, q3.mo (by omega) (by omega)⟩
set_option maxHeartbeats 4000000 in
theorem c_Code_addInstruction {g o : Nat} {x y : Int32} {F : QF} (ho : o < 60) (h49 : 49 ≤ g) (H : CdAt h g F) : wp sc (m_Code_addInstruction, 0, qargs 0 [.ref g, .int (nI o), .int x, .int y], [], h) (rI fun r h' => (256 ≤ (fCode F).length → r = -nI 3 ∧ h' = h) ∧ (¬ 256 ≤ (fCode F).length → r = nI ((fCode F).length + 1) ∧ CdAt h' g (insF F o x y) ∧ qfx g (g + 9) h h')) := by
  obtain ⟨f1, f2, f3, b1, b2, b3, b4, b5, b6, b7, b8, b9, b10⟩ := id H
  by_cases h256 : 256 ≤ (fCode F).length
  · repeat' first | refine wp_ist rfl rfl rfl rfl ?_ | refine wp_lst rfl rfl rfl rfl ?_ | refine wp_iinc rfl rfl rfl rfl ?_ | refine wp_f rfl rfl rfl ?_ | refine wp_getf rfl (by repeat' first | assumption | refine qset_ne rfl ?_ | refine qset_self (c0 := ?_) ?_ | refine qset_nf (by omega) ?_ | fail) rfl ?_ | refine wp_ast rfl rfl rfl rfl ?_ | refine wp_asN rfl rfl rfl rfl ?_ | refine wp_putf rfl (by repeat' first | assumption | refine qset_ne rfl ?_ | refine qset_self (c0 := ?_) ?_ | refine qset_nf (by omega) ?_ | fail) (by exact Nat.le_of_ble_eq_true rfl) rfl ?_ | refine wp_iald rfl (by repeat' first | assumption | refine qset_ne rfl ?_ | refine qset_self (c0 := ?_) ?_ | refine qset_nf (by omega) ?_ | fail) ?_ ?_ | refine wp_lald rfl (by repeat' first | assumption | refine qset_ne rfl ?_ | refine qset_self (c0 := ?_) ?_ | refine qset_nf (by omega) ?_ | fail) ?_ ?_ | refine wp_zald rfl (by repeat' first | assumption | refine qset_ne rfl ?_ | refine qset_self (c0 := ?_) ?_ | refine qset_nf (by omega) ?_ | fail) ?_ ?_ | refine wp_iast rfl (by repeat' first | assumption | refine qset_ne rfl ?_ | refine qset_self (c0 := ?_) ?_ | refine qset_nf (by omega) ?_ | fail) ?_ ?_ | refine wp_last rfl (by repeat' first | assumption | refine qset_ne rfl ?_ | refine qset_self (c0 := ?_) ?_ | refine qset_nf (by omega) ?_ | fail) ?_ ?_ | refine wp_alen rfl (by repeat' first | assumption | refine qset_ne rfl ?_ | refine qset_self (c0 := ?_) ?_ | refine qset_nf (by omega) ?_ | fail) rfl ?_ | refine wp_zast rfl (by repeat' first | assumption | refine qset_ne rfl ?_ | refine qset_self (c0 := ?_) ?_ | refine qset_nf (by omega) ?_ | fail) ?_ ?_ | refine wp_b rfl rfl (fun hc => absurd hc (by decide +kernel)) (fun _ => ?_) | refine wp_b rfl rfl (fun _ => ?_) (fun hc => absurd hc (by decide +kernel)) | refine wp_c2y rfl (by omega) (by omega) (by dsimp only [qn2]; omega) ?_ | refine wp_c2n rfl (by omega) (by omega) (by dsimp only [qn2]; omega) ?_ | refine wp_c1y rfl (by omega) (by first | exact True.intro | (dsimp only [qn1]; omega)) ?_ | refine wp_c1n rfl (by omega) (by first | exact (fun z => z) | (dsimp only [qn1]; omega)) ?_ | refine wp_b rfl rfl (fun hc => ?_) (fun hc => ?_) | refine wp_v rfl rfl ?_ | refine ret_t ?_ | refine ret_f ?_ | fail
    exact ⟨fun _ => ⟨rfl, rfl⟩, fun z => absurd h256 z⟩
  · repeat' first | refine wp_ist rfl rfl rfl rfl ?_ | refine wp_lst rfl rfl rfl rfl ?_ | refine wp_iinc rfl rfl rfl rfl ?_ | refine wp_f rfl rfl rfl ?_ | refine wp_getf rfl (by repeat' first | assumption | refine qset_ne rfl ?_ | refine qset_self (c0 := ?_) ?_ | refine qset_nf (by omega) ?_ | fail) rfl ?_ | refine wp_ast rfl rfl rfl rfl ?_ | refine wp_asN rfl rfl rfl rfl ?_ | refine wp_putf rfl (by repeat' first | assumption | refine qset_ne rfl ?_ | refine qset_self (c0 := ?_) ?_ | refine qset_nf (by omega) ?_ | fail) (by exact Nat.le_of_ble_eq_true rfl) rfl ?_ | refine wp_iald rfl (by repeat' first | assumption | refine qset_ne rfl ?_ | refine qset_self (c0 := ?_) ?_ | refine qset_nf (by omega) ?_ | fail) ?_ ?_ | refine wp_lald rfl (by repeat' first | assumption | refine qset_ne rfl ?_ | refine qset_self (c0 := ?_) ?_ | refine qset_nf (by omega) ?_ | fail) ?_ ?_ | refine wp_zald rfl (by repeat' first | assumption | refine qset_ne rfl ?_ | refine qset_self (c0 := ?_) ?_ | refine qset_nf (by omega) ?_ | fail) ?_ ?_ | refine wp_iast rfl (by repeat' first | assumption | refine qset_ne rfl ?_ | refine qset_self (c0 := ?_) ?_ | refine qset_nf (by omega) ?_ | fail) ?_ ?_ | refine wp_last rfl (by repeat' first | assumption | refine qset_ne rfl ?_ | refine qset_self (c0 := ?_) ?_ | refine qset_nf (by omega) ?_ | fail) ?_ ?_ | refine wp_alen rfl (by repeat' first | assumption | refine qset_ne rfl ?_ | refine qset_self (c0 := ?_) ?_ | refine qset_nf (by omega) ?_ | fail) rfl ?_ | refine wp_zast rfl (by repeat' first | assumption | refine qset_ne rfl ?_ | refine qset_self (c0 := ?_) ?_ | refine qset_nf (by omega) ?_ | fail) ?_ ?_ | refine wp_b rfl rfl (fun hc => absurd hc (by decide +kernel)) (fun _ => ?_) | refine wp_b rfl rfl (fun _ => ?_) (fun hc => absurd hc (by decide +kernel)) | refine wp_c2y rfl (by omega) (by omega) (by dsimp only [qn2]; omega) ?_ | refine wp_c2n rfl (by omega) (by omega) (by dsimp only [qn2]; omega) ?_ | refine wp_c1y rfl (by omega) (by first | exact True.intro | (dsimp only [qn1]; omega)) ?_ | refine wp_c1n rfl (by omega) (by first | exact (fun z => z) | (dsimp only [qn1]; omega)) ?_ | refine wp_b rfl rfl (fun hc => ?_) (fun hc => ?_) | refine wp_v rfl rfl ?_ | refine ret_t ?_ | refine ret_f ?_ | fail
    · exact qin_nI (by omega) (by omega)
    · exact qin_nI (by omega) (by omega)
    · exact qin_nI (by omega) (by omega)
    · rw [nI_clamp (show (fCode F).length < 2 ^ 31 by omega)]
      have x1 : qfx (g + 7) (g + 9) h (((h.set (g + 7) (.inl (0, 256, .inl (upd f1 (fCode F).length (nI o))))).set (g + 8) (.inl (0, 256, .inl (upd f2 (fCode F).length x)))).set (g + 9) (.inl (0, 256, .inl (upd f3 (fCode F).length y)))) := (by repeat' first | exact qfx.rf | refine qfx.sta ?_ (by repeat' first | assumption | refine qset_ne rfl ?_ | refine qset_self (c0 := ?_) ?_ | refine qset_nf (by omega) ?_ | fail) (by omega) (by omega) | refine qfx.sto ?_ (by repeat' first | assumption | refine qset_ne rfl ?_ | refine qset_self (c0 := ?_) ?_ | refine qset_nf (by omega) ?_ | fail) (by omega) (by omega) | fail)
      have x2 : qfx g g (((h.set (g + 7) (.inl (0, 256, .inl (upd f1 (fCode F).length (nI o))))).set (g + 8) (.inl (0, 256, .inl (upd f2 (fCode F).length x)))).set (g + 9) (.inl (0, 256, .inl (upd f3 (fCode F).length y)))) ((((h.set (g + 7) (.inl (0, 256, .inl (upd f1 (fCode F).length (nI o))))).set (g + 8) (.inl (0, 256, .inl (upd f2 (fCode F).length x)))).set (g + 9) (.inl (0, 256, .inl (upd f3 (fCode F).length y)))).set g (.inr (0, List.set [.int (nI F.1), .ref (g + 1), .ref (g + 3), .ref (g + 5), .ref (g + 7), .ref (g + 8), .ref (g + 9), .int (nI (fCode F).length)] 7 (.int (nI (fCode F).length + nI 1))))) := (by repeat' first | exact qfx.rf | refine qfx.sta ?_ (by repeat' first | assumption | refine qset_ne rfl ?_ | refine qset_self (c0 := ?_) ?_ | refine qset_nf (by omega) ?_ | fail) (by omega) (by omega) | refine qfx.sto ?_ (by repeat' first | assumption | refine qset_ne rfl ?_ | refine qset_self (c0 := ?_) ?_ | refine qset_nf (by omega) ?_ | fail) (by omega) (by omega) | fail)
      refine ⟨fun z => absurd z h256, fun _ => ⟨nI_add _ _, ⟨upd f1 (fCode F).length (nI o), upd f2 (fCode F).length x, upd f3 (fCode F).length y, ?_, (b2.fx x1 (by omega)).fx x2 (by omega), (b3.fx x1 (by omega)).fx x2 (by omega), (b4.fx x1 (by omega)).fx x2 (by omega), (by repeat' first | assumption | refine qset_ne rfl ?_ | refine qset_self (c0 := ?_) ?_ | refine qset_nf (by omega) ?_ | fail), (by repeat' first | assumption | refine qset_ne rfl ?_ | refine qset_self (c0 := ?_) ?_ | refine qset_nf (by omega) ?_ | fail), (by repeat' first | assumption | refine qset_ne rfl ?_ | refine qset_self (c0 := ?_) ?_ | refine qset_nf (by omega) ?_ | fail), b8, ?_, fun i q hq => ?_⟩, (x1.mo (by omega) (by omega)).tr (x2.mo (by omega) (by omega))⟩⟩
      · show _ = (some (.inr (0, [.int (nI F.1), .ref (g + 1), .ref (g + 3), .ref (g + 5), .ref (g + 7), .ref (g + 8), .ref (g + 9), .int (nI (fCode F ++ [(o, x, y)]).length)])) : Option qC)
        rw [List.length_append, List.length_singleton, ← nI_add]
        exact (by repeat' first | assumption | refine qset_ne rfl ?_ | refine qset_self (c0 := ?_) ?_ | refine qset_nf (by omega) ?_ | fail)
      · show (fCode F ++ [(o, x, y)]).length ≤ 256
        rw [List.length_append, List.length_singleton]
        omega
      · have hq : (fCode F ++ [(o, x, y)])[i]? = some q := hq
        unfold upd
        by_cases hin : i = (fCode F).length
        · subst hin
          rw [List.getElem?_append_right (Nat.le_refl _), Nat.sub_self] at hq
          cases hq
          simp only [if_true]
          exact ⟨trivial, trivial, trivial, ho⟩
        · have hil : i < (fCode F).length := by
            have := (List.getElem?_eq_some_iff.mp hq).1
            rw [List.length_append, List.length_singleton] at this
            omega
          rw [List.getElem?_append_left hil] at hq
          simp only [if_neg hin]
          exact b10 i q hq
end AA
