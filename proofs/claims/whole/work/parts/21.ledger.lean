/-! The ledger: lists of TYPEs, structures, functions, where they lie; what reads them. -/
def qfx (lo hi : Nat) (h h' : qH) : Prop := h'.length = h.length ∧ qss h' = qss h ∧ ∀ p, p < lo ∨ hi < p → h'[p]? = h[p]?
theorem qfx.rf {lo hi : Nat} {h : qH} : qfx lo hi h h := ⟨rfl, rfl, fun _ _ => rfl⟩
theorem qfx.tr {lo hi : Nat} {h h1 h2 : qH} (a : qfx lo hi h h1) (b : qfx lo hi h1 h2) : qfx lo hi h h2 := ⟨b.1.trans a.1, b.2.1.trans a.2.1, fun p hp => (b.2.2 p hp).trans (a.2.2 p hp)⟩
theorem qfx.mo {lo hi lo' hi' : Nat} {h h' : qH} (a : qfx lo hi h h') (h1 : lo' ≤ lo) (h2 : hi ≤ hi') : qfx lo' hi' h h' := ⟨a.1, a.2.1, fun p hp => a.2.2 p (by omega)⟩
theorem qfx.st {lo hi a : Nat} {h : qH} {c0 c1 : qC} (ha : h[a]? = some c0) (hc : qcs c1 = qcs c0) (h1 : lo ≤ a) (h2 : a ≤ hi) : qfx lo hi h (h.set a c1) :=
  ⟨List.length_set, qss_set ha hc, fun p hp => by rw [List.getElem?_set_ne (by omega)]⟩
theorem qfx.st2 {lo hi a b : Nat} {h : qH} {c0 c1 d0 d1 : qC} (ha : h[a]? = some c0) (hc : qcs c1 = qcs c0) (hb : h[b]? = some d0) (hd : qcs d1 = qcs d0) (hab : a ≠ b) (h1 : lo ≤ a) (h2 : a ≤ hi) (h3 : lo ≤ b) (h4 : b ≤ hi) : qfx lo hi h ((h.set a c1).set b d1) :=
  (qfx.st ha hc h1 h2).tr (qfx.st (qset_nf hab hb) hd h3 h4)
theorem qfx.stl {lo hi a : Nat} {h h1 : qH} {c0 c1 : qC} (x : qfx lo hi h h1) (ha : h1[a]? = some c0) (hc : qcs c1 = qcs c0) (l1 : lo ≤ a) (l2 : a ≤ hi) : qfx lo hi h (h1.set a c1) := x.tr (qfx.st ha hc l1 l2)
theorem qfx.sta {lo hi a t t' n : Nat} {f f'} {h h1 : qH} (x : qfx lo hi h h1) (ha : h1[a]? = some (.inl (t, n, f))) (l1 : lo ≤ a) (l2 : a ≤ hi) : qfx lo hi h (h1.set a (.inl (t', n, f'))) := x.tr (qfx.st ha rfl l1 l2)
theorem qfx.sto {lo hi a ci : Nat} {fs fs' : List Value} {h h1 : qH} (x : qfx lo hi h h1) (ha : h1[a]? = some (.inr (ci, fs))) (l1 : lo ≤ a) (l2 : a ≤ hi) : qfx lo hi h (h1.set a (.inr (ci, fs'))) := x.tr (qfx.st ha rfl l1 l2)
theorem qfx.at {lo hi p : Nat} {h h' : qH} {c : qC} (a : qfx lo hi h h') (hp : p < lo ∨ hi < p) (hc : h[p]? = some c) : h'[p]? = some c := by rw [a.2.2 p hp]; exact hc
/-- a list of TYPEs at a -/
def TLAt (h : qH) (a lim : Nat) (l : List Nat) : Prop := ∃ f : Nat → Int64, h[a]? = some (.inr (8, [.ref (a + 1), .int (nI l.length)])) ∧ h[a + 1]? = some (.inl (1, lim, .inr (.inl f))) ∧ l.length ≤ lim ∧ lim ≤ 64 ∧ ∀ i n, l[i]? = some n → f i = lN n
theorem TLAt.fx {lo hi a lim : Nat} {h h' : qH} {l : List Nat} (H : TLAt h a lim l) (x : qfx lo hi h h') (hp : a + 1 < lo ∨ hi < a) : TLAt h' a lim l := by
  obtain ⟨f, h1, h2, h3⟩ := H
  exact ⟨f, x.at (by omega) h1, x.at (by omega) h2, h3⟩
section L1
variable (sc : Nat × (Nat → Int32)) (h : qH)
theorem c_TypeList_has (a lim : Nat) (l : List Nat) (H : TLAt h a lim l) (k : Int32) : wp sc (m_TypeList_has, 0, qargs 0 [.ref a, .int k], [], h) (rI (pI (bI (decide (0 ≤ k) && decide (k < nI l.length))) h)) := by
  obtain ⟨f, h1, h2, h3, h4, h5⟩ := H
  repeat' first | refine wp_ist rfl rfl rfl rfl ?_ | refine wp_lst rfl rfl rfl rfl ?_ | refine wp_iinc rfl rfl rfl rfl ?_ | refine wp_f rfl rfl rfl ?_ | refine wp_getf rfl (by repeat' first | assumption | refine qset_ne rfl ?_ | refine qset_self (c0 := ?_) ?_ | refine qset_nf (by omega) ?_ | fail) rfl ?_ | refine wp_ast rfl rfl rfl rfl ?_ | refine wp_asN rfl rfl rfl rfl ?_ | refine wp_putf rfl (by repeat' first | assumption | refine qset_ne rfl ?_ | refine qset_self (c0 := ?_) ?_ | refine qset_nf (by omega) ?_ | fail) (by exact Nat.le_of_ble_eq_true rfl) rfl ?_ | refine wp_iald rfl (by repeat' first | assumption | refine qset_ne rfl ?_ | refine qset_self (c0 := ?_) ?_ | refine qset_nf (by omega) ?_ | fail) ?_ ?_ | refine wp_lald rfl (by repeat' first | assumption | refine qset_ne rfl ?_ | refine qset_self (c0 := ?_) ?_ | refine qset_nf (by omega) ?_ | fail) ?_ ?_ | refine wp_zald rfl (by repeat' first | assumption | refine qset_ne rfl ?_ | refine qset_self (c0 := ?_) ?_ | refine qset_nf (by omega) ?_ | fail) ?_ ?_ | refine wp_iast rfl (by repeat' first | assumption | refine qset_ne rfl ?_ | refine qset_self (c0 := ?_) ?_ | refine qset_nf (by omega) ?_ | fail) ?_ ?_ | refine wp_last rfl (by repeat' first | assumption | refine qset_ne rfl ?_ | refine qset_self (c0 := ?_) ?_ | refine qset_nf (by omega) ?_ | fail) ?_ ?_ | refine wp_alen rfl (by repeat' first | assumption | refine qset_ne rfl ?_ | refine qset_self (c0 := ?_) ?_ | refine qset_nf (by omega) ?_ | fail) rfl ?_ | refine wp_zast rfl (by repeat' first | assumption | refine qset_ne rfl ?_ | refine qset_self (c0 := ?_) ?_ | refine qset_nf (by omega) ?_ | fail) ?_ ?_ | refine wp_b rfl rfl (fun hc => absurd hc (by decide +kernel)) (fun _ => ?_) | refine wp_b rfl rfl (fun _ => ?_) (fun hc => absurd hc (by decide +kernel)) | refine wp_b rfl rfl (fun hc => ?_) (fun hc => ?_) | refine wp_v rfl rfl ?_ | refine ret_t ?_ | refine ret_f ?_ | fail
  · have : ¬ 0 ≤ k := by simpa [qcc1] using hc
    simp [this]
  · have : ¬ k < nI l.length := by simpa [qcc2] using hc
    simp [this]
  · rename_i hc1
    have a1 : 0 ≤ k := by simpa [qcc1] using hc1
    have a2 : k < nI l.length := by simpa [qcc2] using hc
    simp [a1, a2]
theorem c_TypeList_get (a lim : Nat) (l : List Nat) (H : TLAt h a lim l) (k : Nat) (hk : k < 2 ^ 31) : wp sc (m_TypeList_get, 0, qargs 0 [.ref a, .int (nI k)], [], h) (rL (pL (lN (l.getD k 0)) h)) := by
  have H0 := H
  obtain ⟨f, h1, h2, h3, h4, h5⟩ := H
  repeat' first | refine wp_Vip rfl rfl (by repeat' first | assumption | refine qset_ne rfl ?_ | refine qset_self (c0 := ?_) ?_ | refine qset_nf (by omega) ?_ | fail) rfl (c_TypeList_has sc h a lim l H0 _) ?_ | refine wp_ist rfl rfl rfl rfl ?_ | refine wp_lst rfl rfl rfl rfl ?_ | refine wp_iinc rfl rfl rfl rfl ?_ | refine wp_f rfl rfl rfl ?_ | refine wp_getf rfl (by repeat' first | assumption | refine qset_ne rfl ?_ | refine qset_self (c0 := ?_) ?_ | refine qset_nf (by omega) ?_ | fail) rfl ?_ | refine wp_ast rfl rfl rfl rfl ?_ | refine wp_asN rfl rfl rfl rfl ?_ | refine wp_putf rfl (by repeat' first | assumption | refine qset_ne rfl ?_ | refine qset_self (c0 := ?_) ?_ | refine qset_nf (by omega) ?_ | fail) (by exact Nat.le_of_ble_eq_true rfl) rfl ?_ | refine wp_iald rfl (by repeat' first | assumption | refine qset_ne rfl ?_ | refine qset_self (c0 := ?_) ?_ | refine qset_nf (by omega) ?_ | fail) ?_ ?_ | refine wp_lald rfl (by repeat' first | assumption | refine qset_ne rfl ?_ | refine qset_self (c0 := ?_) ?_ | refine qset_nf (by omega) ?_ | fail) ?_ ?_ | refine wp_zald rfl (by repeat' first | assumption | refine qset_ne rfl ?_ | refine qset_self (c0 := ?_) ?_ | refine qset_nf (by omega) ?_ | fail) ?_ ?_ | refine wp_iast rfl (by repeat' first | assumption | refine qset_ne rfl ?_ | refine qset_self (c0 := ?_) ?_ | refine qset_nf (by omega) ?_ | fail) ?_ ?_ | refine wp_last rfl (by repeat' first | assumption | refine qset_ne rfl ?_ | refine qset_self (c0 := ?_) ?_ | refine qset_nf (by omega) ?_ | fail) ?_ ?_ | refine wp_alen rfl (by repeat' first | assumption | refine qset_ne rfl ?_ | refine qset_self (c0 := ?_) ?_ | refine qset_nf (by omega) ?_ | fail) rfl ?_ | refine wp_zast rfl (by repeat' first | assumption | refine qset_ne rfl ?_ | refine qset_self (c0 := ?_) ?_ | refine qset_nf (by omega) ?_ | fail) ?_ ?_ | refine wp_b rfl rfl (fun hc => absurd hc (by decide +kernel)) (fun _ => ?_) | refine wp_b rfl rfl (fun _ => ?_) (fun hc => absurd hc (by decide +kernel)) | refine wp_b rfl rfl (fun hc => ?_) (fun hc => ?_) | refine wp_v rfl rfl ?_ | refine ret_t ?_ | refine ret_f ?_ | fail
  · rw [bI_eq] at hc
    simp only [Bool.not_eq_true', Bool.and_eq_false_iff, decide_eq_false_iff_not] at hc
    refine ⟨?_, rfl⟩
    rcases hc with hc | hc
    · exact absurd (nI_pos' hk) hc
    · rw [nI_ltI hk (by omega)] at hc
      rw [List.getD_eq_getElem?_getD, List.getElem?_eq_none (by omega)]
      rfl
  · rw [bI_eq] at hc
    simp only [Bool.not_eq_false', Bool.and_eq_true, decide_eq_true_eq, nI_ltI hk (show l.length < 2 ^ 31 by omega)] at hc
    exact qin_nI (by omega) (by omega)
  · rw [bI_eq] at hc
    simp only [Bool.not_eq_false', Bool.and_eq_true, decide_eq_true_eq, nI_ltI hk (show l.length < 2 ^ 31 by omega)] at hc
    refine ⟨?_, rfl⟩
    rw [nI_clamp hk, List.getD_eq_getElem?_getD, List.getElem?_eq_getElem hc.2, h5 k _ (List.getElem?_eq_getElem hc.2)]
    rfl
theorem c_TypeList_add (a lim : Nat) (l : List Nat) (H : TLAt h a lim l) (n : Nat) : wp sc (m_TypeList_add, 0, qargs 0 [.ref a, .long (lN n)], [], h) (rI fun r h' => (l.length < lim → r = nI (l.length + 1) ∧ TLAt h' a lim (l ++ [n]) ∧ qfx a (a + 1) h h') ∧ (¬ l.length < lim → r = -nI 3 ∧ h' = h)) := by
  obtain ⟨f, h1, h2, h3, h4, h5⟩ := H
  repeat' first | refine wp_ist rfl rfl rfl rfl ?_ | refine wp_lst rfl rfl rfl rfl ?_ | refine wp_iinc rfl rfl rfl rfl ?_ | refine wp_f rfl rfl rfl ?_ | refine wp_getf rfl (by repeat' first | assumption | refine qset_ne rfl ?_ | refine qset_self (c0 := ?_) ?_ | refine qset_nf (by omega) ?_ | fail) rfl ?_ | refine wp_ast rfl rfl rfl rfl ?_ | refine wp_asN rfl rfl rfl rfl ?_ | refine wp_putf rfl (by repeat' first | assumption | refine qset_ne rfl ?_ | refine qset_self (c0 := ?_) ?_ | refine qset_nf (by omega) ?_ | fail) (by exact Nat.le_of_ble_eq_true rfl) rfl ?_ | refine wp_iald rfl (by repeat' first | assumption | refine qset_ne rfl ?_ | refine qset_self (c0 := ?_) ?_ | refine qset_nf (by omega) ?_ | fail) ?_ ?_ | refine wp_lald rfl (by repeat' first | assumption | refine qset_ne rfl ?_ | refine qset_self (c0 := ?_) ?_ | refine qset_nf (by omega) ?_ | fail) ?_ ?_ | refine wp_zald rfl (by repeat' first | assumption | refine qset_ne rfl ?_ | refine qset_self (c0 := ?_) ?_ | refine qset_nf (by omega) ?_ | fail) ?_ ?_ | refine wp_iast rfl (by repeat' first | assumption | refine qset_ne rfl ?_ | refine qset_self (c0 := ?_) ?_ | refine qset_nf (by omega) ?_ | fail) ?_ ?_ | refine wp_last rfl (by repeat' first | assumption | refine qset_ne rfl ?_ | refine qset_self (c0 := ?_) ?_ | refine qset_nf (by omega) ?_ | fail) ?_ ?_ | refine wp_alen rfl (by repeat' first | assumption | refine qset_ne rfl ?_ | refine qset_self (c0 := ?_) ?_ | refine qset_nf (by omega) ?_ | fail) rfl ?_ | refine wp_zast rfl (by repeat' first | assumption | refine qset_ne rfl ?_ | refine qset_self (c0 := ?_) ?_ | refine qset_nf (by omega) ?_ | fail) ?_ ?_ | refine wp_b rfl rfl (fun hc => absurd hc (by decide +kernel)) (fun _ => ?_) | refine wp_b rfl rfl (fun _ => ?_) (fun hc => absurd hc (by decide +kernel)) | refine wp_b rfl rfl (fun hc => ?_) (fun hc => ?_) | refine wp_v rfl rfl ?_ | refine ret_t ?_ | refine ret_f ?_ | fail
  · rw [c2_lt (by omega) (by omega), decide_eq_true_eq] at hc
    exact qin_nI hc (by omega)
  · rw [c2_lt (by omega) (by omega), decide_eq_true_eq] at hc
    refine ⟨fun _ => ⟨nI_add _ _, ⟨vp_updL f l.length (lN n), ?_, ?_, ?_, h4, ?_⟩, ?_⟩, fun z => absurd hc z⟩
    · rw [List.length_append, List.length_singleton, ← nI_add]
      exact qset_self (qset_nf (by omega) h1)
    · rw [nI_clamp (by omega)]
      exact qset_nf (by omega) (qset_self h2)
    · rw [List.length_append, List.length_singleton]; omega
    · intro i m hm
      by_cases hi : i = l.length
      · subst hi
        rw [List.getElem?_append_right (Nat.le_refl _), Nat.sub_self] at hm
        cases hm
        simp [vp_updL]
      · have hil : i < l.length := by
          have := (List.getElem?_eq_some_iff.mp hm).1
          rw [List.length_append, List.length_singleton] at this
          omega
        rw [List.getElem?_append_left hil] at hm
        simp only [vp_updL, hi, if_false]
        exact h5 i m hm
    · exact qfx.st2 h2 rfl h1 rfl (by omega) (Nat.le_succ a) (Nat.le_refl _) (Nat.le_refl a) (Nat.le_succ a)
  · rw [c2_lt (by omega) (by omega), decide_eq_false_iff_not] at hc
    exact ⟨fun z => absurd z hc, fun _ => ⟨rfl, rfl⟩⟩
end L1
/-- structure s, function F where they lie -/
def StAt (h : qH) (a : Nat) (s : Nat × List Nat) : Prop := h[a]? = some (.inr (7, [.int (nI s.1), .ref (a + 1)])) ∧ TLAt h (a + 1) 16 s.2 ∧ s.1 < 16
def CdAt (h : qH) (a : Nat) (F : QF) : Prop := ∃ f1 f2 f3 : Nat → Int32, h[a]? = some (.inr (0, [.int (nI F.1), .ref (a + 1), .ref (a + 3), .ref (a + 5), .ref (a + 7), .ref (a + 8), .ref (a + 9), .int (nI (fCode F).length)])) ∧
  TLAt h (a + 1) 8 (fTakes F) ∧ TLAt h (a + 3) 8 (fGives F) ∧ TLAt h (a + 5) 32 (fMore F) ∧ h[a + 7]? = some (.inl (0, 256, .inl f1)) ∧ h[a + 8]? = some (.inl (0, 256, .inl f2)) ∧ h[a + 9]? = some (.inl (0, 256, .inl f3)) ∧
  F.1 < 8 ∧ (fCode F).length ≤ 256 ∧ ∀ i q, (fCode F)[i]? = some q → f1 i = nI q.1 ∧ f2 i = q.2.1 ∧ f3 i = q.2.2 ∧ q.1 < 60
def LdAt (h : qH) (sa fa : Nat → Nat) (E : QE) : Prop := ∃ g1 g2 : Nat → Option Nat, h[1]? = some (.inr (1, [.ref 2, .int (nI E.1.length), .ref 3, .ref 5, .int (nI E.2.2.length)])) ∧ h[2]? = some (.inl (4, 32, .inr (.inr (.inr (.inr g1))))) ∧
  h[5]? = some (.inl (5, 64, .inr (.inr (.inr (.inr g2))))) ∧ TLAt h 3 32 E.2.1 ∧ E.1.length ≤ 32 ∧ E.2.2.length ≤ 64 ∧
  (∀ k s, E.1[k]? = some s → g1 k = some (sa k) ∧ StAt h (sa k) s ∧ 49 ≤ sa k) ∧ (∀ k F, E.2.2[k]? = some F → g2 k = some (fa k) ∧ CdAt h (fa k) F ∧ 49 ≤ fa k)
theorem StAt.fx {lo hi a : Nat} {h h' : qH} {s : Nat × List Nat} (H : StAt h a s) (x : qfx lo hi h h') (hp : a + 2 < lo ∨ hi < a) : StAt h' a s := ⟨x.at (by omega) H.1, H.2.1.fx x (by omega), H.2.2⟩
theorem CdAt.fx {lo hi a : Nat} {h h' : qH} {F : QF} (H : CdAt h a F) (x : qfx lo hi h h') (hp : a + 9 < lo ∨ hi < a) : CdAt h' a F := by
  obtain ⟨f1, f2, f3, h1, h2, h3, h4, h5, h6, h7, h8⟩ := H
  exact ⟨f1, f2, f3, x.at (by omega) h1, h2.fx x (by omega), h3.fx x (by omega), h4.fx x (by omega), x.at (by omega) h5, x.at (by omega) h6, x.at (by omega) h7, h8⟩
theorem LdAt.fx {lo hi : Nat} {h h' : qH} {sa fa : Nat → Nat} {E : QE} (H : LdAt h sa fa E) (x : qfx lo hi h h') (h1 : 6 ≤ lo) (h2 : hi ≤ 48) : LdAt h' sa fa E := by
  obtain ⟨g1, g2, a1, a2, a3, a4, a5, a6, a7, a8⟩ := H
  refine ⟨g1, g2, x.at (by omega) a1, x.at (by omega) a2, x.at (by omega) a3, a4.fx x (by omega), a5, a6, fun k s hk => ?_, fun k F hk => ?_⟩
  · obtain ⟨b1, b2, b3⟩ := a7 k s hk
    exact ⟨b1, b2.fx x (by omega), b3⟩
  · obtain ⟨b1, b2, b3⟩ := a8 k F hk
    exact ⟨b1, b2.fx x (by omega), b3⟩

section L2
variable (sc : Nat × (Nat → Int32)) (h : qH)
theorem ix_tf {x : Int32} {n : Nat} (h1 : qcc1 .lt x = false) (h2 : qcc2 .ge x (nI n) = false) (hn : n < 2 ^ 31) : ∃ k, k < n ∧ x = nI k := by
  simp only [qcc1, qcc2, decide_eq_false_iff_not] at h1 h2
  rcases pk_ix x hn with z | z | z
  · exact absurd z h1
  · exact absurd z h2
  · exact z
/-- the place of an index: its number where it is one of n -/
def ixN (x : Int32) (n : Nat) : Option Nat := if 0 ≤ x ∧ x < nI n then some x.toNatClampNeg else none
theorem ixN_k {k n : Nat} (hk : k < n) (hn : n < 2 ^ 31) : ixN (nI k) n = some k := by
  unfold ixN
  rw [if_pos ⟨nI_pos' (by omega), nI_lt hk hn⟩, nI_clamp (by omega)]
theorem ixN_n {x : Int32} {n : Nat} (h : qcc1 .lt x = true ∨ qcc2 .ge x (nI n) = true) : ixN x n = none := by
  unfold ixN
  rw [if_neg]
  intro z
  simp only [qcc1, qcc2, decide_eq_true_eq] at h
  rcases h with h | h
  · exact absurd h (Int32.not_lt.mpr z.1)
  · exact absurd z.2 (Int32.not_lt.mpr h)
theorem c_Ledger_structureAt {sa fa : Nat → Nat} {E : QE} (H : LdAt h sa fa E) (x : Int32) : wp sc (m_Ledger_structureAt, 0, qargs 0 [.ref 1, .int x], [], h) (rO (pO ((ixN x E.1.length).map sa) h)) := by
  obtain ⟨g1, g2, a1, a2, a3, a4, a5, a6, a7, a8⟩ := H
  repeat' first | refine wp_ist rfl rfl rfl rfl ?_ | refine wp_lst rfl rfl rfl rfl ?_ | refine wp_iinc rfl rfl rfl rfl ?_ | refine wp_f rfl rfl rfl ?_ | refine wp_getf rfl (by repeat' first | assumption | refine qset_ne rfl ?_ | refine qset_self (c0 := ?_) ?_ | refine qset_nf (by omega) ?_ | fail) rfl ?_ | refine wp_ast rfl rfl rfl rfl ?_ | refine wp_asN rfl rfl rfl rfl ?_ | refine wp_putf rfl (by repeat' first | assumption | refine qset_ne rfl ?_ | refine qset_self (c0 := ?_) ?_ | refine qset_nf (by omega) ?_ | fail) (by exact Nat.le_of_ble_eq_true rfl) rfl ?_ | refine wp_iald rfl (by repeat' first | assumption | refine qset_ne rfl ?_ | refine qset_self (c0 := ?_) ?_ | refine qset_nf (by omega) ?_ | fail) ?_ ?_ | refine wp_lald rfl (by repeat' first | assumption | refine qset_ne rfl ?_ | refine qset_self (c0 := ?_) ?_ | refine qset_nf (by omega) ?_ | fail) ?_ ?_ | refine wp_zald rfl (by repeat' first | assumption | refine qset_ne rfl ?_ | refine qset_self (c0 := ?_) ?_ | refine qset_nf (by omega) ?_ | fail) ?_ ?_ | refine wp_iast rfl (by repeat' first | assumption | refine qset_ne rfl ?_ | refine qset_self (c0 := ?_) ?_ | refine qset_nf (by omega) ?_ | fail) ?_ ?_ | refine wp_last rfl (by repeat' first | assumption | refine qset_ne rfl ?_ | refine qset_self (c0 := ?_) ?_ | refine qset_nf (by omega) ?_ | fail) ?_ ?_ | refine wp_alen rfl (by repeat' first | assumption | refine qset_ne rfl ?_ | refine qset_self (c0 := ?_) ?_ | refine qset_nf (by omega) ?_ | fail) rfl ?_ | refine wp_zast rfl (by repeat' first | assumption | refine qset_ne rfl ?_ | refine qset_self (c0 := ?_) ?_ | refine qset_nf (by omega) ?_ | fail) ?_ ?_ | refine wp_b rfl rfl (fun hc => absurd hc (by decide +kernel)) (fun _ => ?_) | refine wp_b rfl rfl (fun _ => ?_) (fun hc => absurd hc (by decide +kernel)) | refine wp_b rfl rfl (fun hc => ?_) (fun hc => ?_) | refine wp_v rfl rfl ?_ | refine ret_t ?_ | refine ret_f ?_ | fail
  · rw [ixN_n (Or.inl hc)]; exact ⟨rfl, rfl⟩
  · rw [ixN_n (Or.inr hc)]; exact ⟨rfl, rfl⟩
  · rename_i hc1
    obtain ⟨k, hk, rfl⟩ := ix_tf hc1 hc (by omega)
    refine wp_aald4 rfl (by repeat' first | assumption | refine qset_ne rfl ?_ | refine qset_self (c0 := ?_) ?_ | refine qset_nf (by omega) ?_ | fail) (qin_nI (by omega) (by omega)) ?_
    rw [nI_clamp (by omega), (a7 k _ (List.getElem?_eq_getElem hk)).1, ixN_k hk (by omega)]
    repeat' first | refine wp_ist rfl rfl rfl rfl ?_ | refine wp_lst rfl rfl rfl rfl ?_ | refine wp_iinc rfl rfl rfl rfl ?_ | refine wp_f rfl rfl rfl ?_ | refine wp_getf rfl (by repeat' first | assumption | refine qset_ne rfl ?_ | refine qset_self (c0 := ?_) ?_ | refine qset_nf (by omega) ?_ | fail) rfl ?_ | refine wp_ast rfl rfl rfl rfl ?_ | refine wp_asN rfl rfl rfl rfl ?_ | refine wp_putf rfl (by repeat' first | assumption | refine qset_ne rfl ?_ | refine qset_self (c0 := ?_) ?_ | refine qset_nf (by omega) ?_ | fail) (by exact Nat.le_of_ble_eq_true rfl) rfl ?_ | refine wp_iald rfl (by repeat' first | assumption | refine qset_ne rfl ?_ | refine qset_self (c0 := ?_) ?_ | refine qset_nf (by omega) ?_ | fail) ?_ ?_ | refine wp_lald rfl (by repeat' first | assumption | refine qset_ne rfl ?_ | refine qset_self (c0 := ?_) ?_ | refine qset_nf (by omega) ?_ | fail) ?_ ?_ | refine wp_zald rfl (by repeat' first | assumption | refine qset_ne rfl ?_ | refine qset_self (c0 := ?_) ?_ | refine qset_nf (by omega) ?_ | fail) ?_ ?_ | refine wp_iast rfl (by repeat' first | assumption | refine qset_ne rfl ?_ | refine qset_self (c0 := ?_) ?_ | refine qset_nf (by omega) ?_ | fail) ?_ ?_ | refine wp_last rfl (by repeat' first | assumption | refine qset_ne rfl ?_ | refine qset_self (c0 := ?_) ?_ | refine qset_nf (by omega) ?_ | fail) ?_ ?_ | refine wp_alen rfl (by repeat' first | assumption | refine qset_ne rfl ?_ | refine qset_self (c0 := ?_) ?_ | refine qset_nf (by omega) ?_ | fail) rfl ?_ | refine wp_zast rfl (by repeat' first | assumption | refine qset_ne rfl ?_ | refine qset_self (c0 := ?_) ?_ | refine qset_nf (by omega) ?_ | fail) ?_ ?_ | refine wp_b rfl rfl (fun hc => absurd hc (by decide +kernel)) (fun _ => ?_) | refine wp_b rfl rfl (fun _ => ?_) (fun hc => absurd hc (by decide +kernel)) | refine wp_b rfl rfl (fun hc => ?_) (fun hc => ?_) | refine wp_v rfl rfl ?_ | refine ret_t ?_ | refine ret_f ?_ | fail
    exact ⟨rfl, rfl⟩
theorem c_Ledger_codeAt {sa fa : Nat → Nat} {E : QE} (H : LdAt h sa fa E) (x : Int32) : wp sc (m_Ledger_codeAt, 0, qargs 0 [.ref 1, .int x], [], h) (rO (pO ((ixN x E.2.2.length).map fa) h)) := by
  obtain ⟨g1, g2, a1, a2, a3, a4, a5, a6, a7, a8⟩ := H
  repeat' first | refine wp_ist rfl rfl rfl rfl ?_ | refine wp_lst rfl rfl rfl rfl ?_ | refine wp_iinc rfl rfl rfl rfl ?_ | refine wp_f rfl rfl rfl ?_ | refine wp_getf rfl (by repeat' first | assumption | refine qset_ne rfl ?_ | refine qset_self (c0 := ?_) ?_ | refine qset_nf (by omega) ?_ | fail) rfl ?_ | refine wp_ast rfl rfl rfl rfl ?_ | refine wp_asN rfl rfl rfl rfl ?_ | refine wp_putf rfl (by repeat' first | assumption | refine qset_ne rfl ?_ | refine qset_self (c0 := ?_) ?_ | refine qset_nf (by omega) ?_ | fail) (by exact Nat.le_of_ble_eq_true rfl) rfl ?_ | refine wp_iald rfl (by repeat' first | assumption | refine qset_ne rfl ?_ | refine qset_self (c0 := ?_) ?_ | refine qset_nf (by omega) ?_ | fail) ?_ ?_ | refine wp_lald rfl (by repeat' first | assumption | refine qset_ne rfl ?_ | refine qset_self (c0 := ?_) ?_ | refine qset_nf (by omega) ?_ | fail) ?_ ?_ | refine wp_zald rfl (by repeat' first | assumption | refine qset_ne rfl ?_ | refine qset_self (c0 := ?_) ?_ | refine qset_nf (by omega) ?_ | fail) ?_ ?_ | refine wp_iast rfl (by repeat' first | assumption | refine qset_ne rfl ?_ | refine qset_self (c0 := ?_) ?_ | refine qset_nf (by omega) ?_ | fail) ?_ ?_ | refine wp_last rfl (by repeat' first | assumption | refine qset_ne rfl ?_ | refine qset_self (c0 := ?_) ?_ | refine qset_nf (by omega) ?_ | fail) ?_ ?_ | refine wp_alen rfl (by repeat' first | assumption | refine qset_ne rfl ?_ | refine qset_self (c0 := ?_) ?_ | refine qset_nf (by omega) ?_ | fail) rfl ?_ | refine wp_zast rfl (by repeat' first | assumption | refine qset_ne rfl ?_ | refine qset_self (c0 := ?_) ?_ | refine qset_nf (by omega) ?_ | fail) ?_ ?_ | refine wp_b rfl rfl (fun hc => absurd hc (by decide +kernel)) (fun _ => ?_) | refine wp_b rfl rfl (fun _ => ?_) (fun hc => absurd hc (by decide +kernel)) | refine wp_b rfl rfl (fun hc => ?_) (fun hc => ?_) | refine wp_v rfl rfl ?_ | refine ret_t ?_ | refine ret_f ?_ | fail
  · rw [ixN_n (Or.inl hc)]; exact ⟨rfl, rfl⟩
  · rw [ixN_n (Or.inr hc)]; exact ⟨rfl, rfl⟩
  · rename_i hc1
    obtain ⟨k, hk, rfl⟩ := ix_tf hc1 hc (by omega)
    refine wp_aald5 rfl (by repeat' first | assumption | refine qset_ne rfl ?_ | refine qset_self (c0 := ?_) ?_ | refine qset_nf (by omega) ?_ | fail) (qin_nI (by omega) (by omega)) ?_
    rw [nI_clamp (by omega), (a8 k _ (List.getElem?_eq_getElem hk)).1, ixN_k hk (by omega)]
    repeat' first | refine wp_ist rfl rfl rfl rfl ?_ | refine wp_lst rfl rfl rfl rfl ?_ | refine wp_iinc rfl rfl rfl rfl ?_ | refine wp_f rfl rfl rfl ?_ | refine wp_getf rfl (by repeat' first | assumption | refine qset_ne rfl ?_ | refine qset_self (c0 := ?_) ?_ | refine qset_nf (by omega) ?_ | fail) rfl ?_ | refine wp_ast rfl rfl rfl rfl ?_ | refine wp_asN rfl rfl rfl rfl ?_ | refine wp_putf rfl (by repeat' first | assumption | refine qset_ne rfl ?_ | refine qset_self (c0 := ?_) ?_ | refine qset_nf (by omega) ?_ | fail) (by exact Nat.le_of_ble_eq_true rfl) rfl ?_ | refine wp_iald rfl (by repeat' first | assumption | refine qset_ne rfl ?_ | refine qset_self (c0 := ?_) ?_ | refine qset_nf (by omega) ?_ | fail) ?_ ?_ | refine wp_lald rfl (by repeat' first | assumption | refine qset_ne rfl ?_ | refine qset_self (c0 := ?_) ?_ | refine qset_nf (by omega) ?_ | fail) ?_ ?_ | refine wp_zald rfl (by repeat' first | assumption | refine qset_ne rfl ?_ | refine qset_self (c0 := ?_) ?_ | refine qset_nf (by omega) ?_ | fail) ?_ ?_ | refine wp_iast rfl (by repeat' first | assumption | refine qset_ne rfl ?_ | refine qset_self (c0 := ?_) ?_ | refine qset_nf (by omega) ?_ | fail) ?_ ?_ | refine wp_last rfl (by repeat' first | assumption | refine qset_ne rfl ?_ | refine qset_self (c0 := ?_) ?_ | refine qset_nf (by omega) ?_ | fail) ?_ ?_ | refine wp_alen rfl (by repeat' first | assumption | refine qset_ne rfl ?_ | refine qset_self (c0 := ?_) ?_ | refine qset_nf (by omega) ?_ | fail) rfl ?_ | refine wp_zast rfl (by repeat' first | assumption | refine qset_ne rfl ?_ | refine qset_self (c0 := ?_) ?_ | refine qset_nf (by omega) ?_ | fail) ?_ ?_ | refine wp_b rfl rfl (fun hc => absurd hc (by decide +kernel)) (fun _ => ?_) | refine wp_b rfl rfl (fun _ => ?_) (fun hc => absurd hc (by decide +kernel)) | refine wp_b rfl rfl (fun hc => ?_) (fun hc => ?_) | refine wp_v rfl rfl ?_ | refine ret_t ?_ | refine ret_f ?_ | fail
    exact ⟨rfl, rfl⟩
theorem c_Ledger_fieldCount {sa fa : Nat → Nat} {E : QE} (H : LdAt h sa fa E) (s : Nat) (hs : s < E.1.length) : wp sc (m_Ledger_fieldCount, 0, qargs 0 [.ref 1, .int (nI s)], [], h) (rI (pI (nI (eFields E s).length) h)) := by
  have H0 := H
  obtain ⟨g1, g2, a1, a2, a3, a4, a5, a6, a7, a8⟩ := H
  obtain ⟨b1, ⟨b2, ⟨f, b3, b4, b5⟩, b6⟩, b7⟩ := a7 s _ (List.getElem?_eq_getElem hs)
  have e : eFields E s = E.1[s].2 := by unfold eFields; rw [List.getElem?_eq_getElem hs]; rfl
  have e2 := ixN_k hs (show E.1.length < 2 ^ 31 by omega)
  have hc := c_Ledger_structureAt sc h H0 (nI s)
  rw [e2] at hc
  repeat' first | refine wp_Vop rfl rfl (by repeat' first | assumption | refine qset_ne rfl ?_ | refine qset_self (c0 := ?_) ?_ | refine qset_nf (by omega) ?_ | fail) rfl (hc) ?_ | refine wp_ist rfl rfl rfl rfl ?_ | refine wp_lst rfl rfl rfl rfl ?_ | refine wp_iinc rfl rfl rfl rfl ?_ | refine wp_f rfl rfl rfl ?_ | refine wp_getf rfl (by repeat' first | assumption | refine qset_ne rfl ?_ | refine qset_self (c0 := ?_) ?_ | refine qset_nf (by omega) ?_ | fail) rfl ?_ | refine wp_ast rfl rfl rfl rfl ?_ | refine wp_asN rfl rfl rfl rfl ?_ | refine wp_putf rfl (by repeat' first | assumption | refine qset_ne rfl ?_ | refine qset_self (c0 := ?_) ?_ | refine qset_nf (by omega) ?_ | fail) (by exact Nat.le_of_ble_eq_true rfl) rfl ?_ | refine wp_iald rfl (by repeat' first | assumption | refine qset_ne rfl ?_ | refine qset_self (c0 := ?_) ?_ | refine qset_nf (by omega) ?_ | fail) ?_ ?_ | refine wp_lald rfl (by repeat' first | assumption | refine qset_ne rfl ?_ | refine qset_self (c0 := ?_) ?_ | refine qset_nf (by omega) ?_ | fail) ?_ ?_ | refine wp_zald rfl (by repeat' first | assumption | refine qset_ne rfl ?_ | refine qset_self (c0 := ?_) ?_ | refine qset_nf (by omega) ?_ | fail) ?_ ?_ | refine wp_iast rfl (by repeat' first | assumption | refine qset_ne rfl ?_ | refine qset_self (c0 := ?_) ?_ | refine qset_nf (by omega) ?_ | fail) ?_ ?_ | refine wp_last rfl (by repeat' first | assumption | refine qset_ne rfl ?_ | refine qset_self (c0 := ?_) ?_ | refine qset_nf (by omega) ?_ | fail) ?_ ?_ | refine wp_alen rfl (by repeat' first | assumption | refine qset_ne rfl ?_ | refine qset_self (c0 := ?_) ?_ | refine qset_nf (by omega) ?_ | fail) rfl ?_ | refine wp_zast rfl (by repeat' first | assumption | refine qset_ne rfl ?_ | refine qset_self (c0 := ?_) ?_ | refine qset_nf (by omega) ?_ | fail) ?_ ?_ | refine wp_b rfl rfl (fun hc => absurd hc (by decide +kernel)) (fun _ => ?_) | refine wp_b rfl rfl (fun _ => ?_) (fun hc => absurd hc (by decide +kernel)) | refine wp_b rfl rfl (fun hc => ?_) (fun hc => ?_) | refine wp_v rfl rfl ?_ | refine ret_t ?_ | refine ret_f ?_ | fail
  rw [e]
  exact ⟨rfl, rfl⟩
theorem c_Ledger_fieldType {sa fa : Nat → Nat} {E : QE} (H : LdAt h sa fa E) (s k : Nat) (hs : s < E.1.length) (hk : k < 2 ^ 31) : wp sc (m_Ledger_fieldType, 0, qargs 0 [.ref 1, .int (nI s), .int (nI k)], [], h) (rL (pL (lN ((eFields E s).getD k 0)) h)) := by
  have H0 := H
  obtain ⟨g1, g2, a1, a2, a3, a4, a5, a6, a7, a8⟩ := H
  obtain ⟨b1, ⟨b2, B3, b6⟩, b7⟩ := a7 s _ (List.getElem?_eq_getElem hs)
  have B4 := B3
  obtain ⟨f, b3, b4, b5⟩ := B3
  have e : eFields E s = E.1[s].2 := by unfold eFields; rw [List.getElem?_eq_getElem hs]; rfl
  have e2 := ixN_k hs (show E.1.length < 2 ^ 31 by omega)
  have hc := c_Ledger_structureAt sc h H0 (nI s)
  rw [e2] at hc
  repeat' first | refine wp_Vop rfl rfl (by repeat' first | assumption | refine qset_ne rfl ?_ | refine qset_self (c0 := ?_) ?_ | refine qset_nf (by omega) ?_ | fail) rfl (hc) ?_ | refine wp_Vlp rfl rfl (by repeat' first | assumption | refine qset_ne rfl ?_ | refine qset_self (c0 := ?_) ?_ | refine qset_nf (by omega) ?_ | fail) rfl (c_TypeList_get sc h _ 16 _ B4 k hk) ?_ | refine wp_ist rfl rfl rfl rfl ?_ | refine wp_lst rfl rfl rfl rfl ?_ | refine wp_iinc rfl rfl rfl rfl ?_ | refine wp_f rfl rfl rfl ?_ | refine wp_getf rfl (by repeat' first | assumption | refine qset_ne rfl ?_ | refine qset_self (c0 := ?_) ?_ | refine qset_nf (by omega) ?_ | fail) rfl ?_ | refine wp_ast rfl rfl rfl rfl ?_ | refine wp_asN rfl rfl rfl rfl ?_ | refine wp_putf rfl (by repeat' first | assumption | refine qset_ne rfl ?_ | refine qset_self (c0 := ?_) ?_ | refine qset_nf (by omega) ?_ | fail) (by exact Nat.le_of_ble_eq_true rfl) rfl ?_ | refine wp_iald rfl (by repeat' first | assumption | refine qset_ne rfl ?_ | refine qset_self (c0 := ?_) ?_ | refine qset_nf (by omega) ?_ | fail) ?_ ?_ | refine wp_lald rfl (by repeat' first | assumption | refine qset_ne rfl ?_ | refine qset_self (c0 := ?_) ?_ | refine qset_nf (by omega) ?_ | fail) ?_ ?_ | refine wp_zald rfl (by repeat' first | assumption | refine qset_ne rfl ?_ | refine qset_self (c0 := ?_) ?_ | refine qset_nf (by omega) ?_ | fail) ?_ ?_ | refine wp_iast rfl (by repeat' first | assumption | refine qset_ne rfl ?_ | refine qset_self (c0 := ?_) ?_ | refine qset_nf (by omega) ?_ | fail) ?_ ?_ | refine wp_last rfl (by repeat' first | assumption | refine qset_ne rfl ?_ | refine qset_self (c0 := ?_) ?_ | refine qset_nf (by omega) ?_ | fail) ?_ ?_ | refine wp_alen rfl (by repeat' first | assumption | refine qset_ne rfl ?_ | refine qset_self (c0 := ?_) ?_ | refine qset_nf (by omega) ?_ | fail) rfl ?_ | refine wp_zast rfl (by repeat' first | assumption | refine qset_ne rfl ?_ | refine qset_self (c0 := ?_) ?_ | refine qset_nf (by omega) ?_ | fail) ?_ ?_ | refine wp_b rfl rfl (fun hc => absurd hc (by decide +kernel)) (fun _ => ?_) | refine wp_b rfl rfl (fun _ => ?_) (fun hc => absurd hc (by decide +kernel)) | refine wp_b rfl rfl (fun hc => ?_) (fun hc => ?_) | refine wp_v rfl rfl ?_ | refine ret_t ?_ | refine ret_f ?_ | fail
  rw [e]
  exact ⟨rfl, rfl⟩
theorem c_Ledger_hasField {sa fa : Nat → Nat} {E : QE} (H : LdAt h sa fa E) (x y : Int32) : wp sc (m_Ledger_hasField, 0, qargs 0 [.ref 1, .int x, .int y], [], h) (rI (pI (bI ((decide (0 ≤ x) && decide (x < nI E.1.length)) && (decide (0 ≤ y) && decide (y < nI (eFields E x.toNatClampNeg).length)))) h)) := by
  have H0 := H
  obtain ⟨g1, g2, a1, a2, a3, a4, a5, a6, a7, a8⟩ := H
  have hc := c_Ledger_structureAt sc h H0 x
  rcases pk_ix x (show E.1.length < 2 ^ 31 by omega) with hx | hx | ⟨k, hk, rfl⟩
  · rw [ixN_n (Or.inl (by simpa [qcc1] using hx))] at hc
    have : ¬ 0 ≤ x := Int32.not_le.mpr hx
    repeat' first | refine wp_Vop rfl rfl (by repeat' first | assumption | refine qset_ne rfl ?_ | refine qset_self (c0 := ?_) ?_ | refine qset_nf (by omega) ?_ | fail) rfl (hc) ?_ | refine wp_ist rfl rfl rfl rfl ?_ | refine wp_lst rfl rfl rfl rfl ?_ | refine wp_iinc rfl rfl rfl rfl ?_ | refine wp_f rfl rfl rfl ?_ | refine wp_getf rfl (by repeat' first | assumption | refine qset_ne rfl ?_ | refine qset_self (c0 := ?_) ?_ | refine qset_nf (by omega) ?_ | fail) rfl ?_ | refine wp_ast rfl rfl rfl rfl ?_ | refine wp_asN rfl rfl rfl rfl ?_ | refine wp_putf rfl (by repeat' first | assumption | refine qset_ne rfl ?_ | refine qset_self (c0 := ?_) ?_ | refine qset_nf (by omega) ?_ | fail) (by exact Nat.le_of_ble_eq_true rfl) rfl ?_ | refine wp_iald rfl (by repeat' first | assumption | refine qset_ne rfl ?_ | refine qset_self (c0 := ?_) ?_ | refine qset_nf (by omega) ?_ | fail) ?_ ?_ | refine wp_lald rfl (by repeat' first | assumption | refine qset_ne rfl ?_ | refine qset_self (c0 := ?_) ?_ | refine qset_nf (by omega) ?_ | fail) ?_ ?_ | refine wp_zald rfl (by repeat' first | assumption | refine qset_ne rfl ?_ | refine qset_self (c0 := ?_) ?_ | refine qset_nf (by omega) ?_ | fail) ?_ ?_ | refine wp_iast rfl (by repeat' first | assumption | refine qset_ne rfl ?_ | refine qset_self (c0 := ?_) ?_ | refine qset_nf (by omega) ?_ | fail) ?_ ?_ | refine wp_last rfl (by repeat' first | assumption | refine qset_ne rfl ?_ | refine qset_self (c0 := ?_) ?_ | refine qset_nf (by omega) ?_ | fail) ?_ ?_ | refine wp_alen rfl (by repeat' first | assumption | refine qset_ne rfl ?_ | refine qset_self (c0 := ?_) ?_ | refine qset_nf (by omega) ?_ | fail) rfl ?_ | refine wp_zast rfl (by repeat' first | assumption | refine qset_ne rfl ?_ | refine qset_self (c0 := ?_) ?_ | refine qset_nf (by omega) ?_ | fail) ?_ ?_ | refine wp_b rfl rfl (fun hc => absurd hc (by decide +kernel)) (fun _ => ?_) | refine wp_b rfl rfl (fun _ => ?_) (fun hc => absurd hc (by decide +kernel)) | refine wp_b rfl rfl (fun hc => ?_) (fun hc => ?_) | refine wp_v rfl rfl ?_ | refine ret_t ?_ | refine ret_f ?_ | fail
    simp [this]
  · rw [ixN_n (Or.inr (by simpa [qcc2] using hx))] at hc
    have : ¬ x < nI E.1.length := Int32.not_lt.mpr hx
    repeat' first | refine wp_Vop rfl rfl (by repeat' first | assumption | refine qset_ne rfl ?_ | refine qset_self (c0 := ?_) ?_ | refine qset_nf (by omega) ?_ | fail) rfl (hc) ?_ | refine wp_ist rfl rfl rfl rfl ?_ | refine wp_lst rfl rfl rfl rfl ?_ | refine wp_iinc rfl rfl rfl rfl ?_ | refine wp_f rfl rfl rfl ?_ | refine wp_getf rfl (by repeat' first | assumption | refine qset_ne rfl ?_ | refine qset_self (c0 := ?_) ?_ | refine qset_nf (by omega) ?_ | fail) rfl ?_ | refine wp_ast rfl rfl rfl rfl ?_ | refine wp_asN rfl rfl rfl rfl ?_ | refine wp_putf rfl (by repeat' first | assumption | refine qset_ne rfl ?_ | refine qset_self (c0 := ?_) ?_ | refine qset_nf (by omega) ?_ | fail) (by exact Nat.le_of_ble_eq_true rfl) rfl ?_ | refine wp_iald rfl (by repeat' first | assumption | refine qset_ne rfl ?_ | refine qset_self (c0 := ?_) ?_ | refine qset_nf (by omega) ?_ | fail) ?_ ?_ | refine wp_lald rfl (by repeat' first | assumption | refine qset_ne rfl ?_ | refine qset_self (c0 := ?_) ?_ | refine qset_nf (by omega) ?_ | fail) ?_ ?_ | refine wp_zald rfl (by repeat' first | assumption | refine qset_ne rfl ?_ | refine qset_self (c0 := ?_) ?_ | refine qset_nf (by omega) ?_ | fail) ?_ ?_ | refine wp_iast rfl (by repeat' first | assumption | refine qset_ne rfl ?_ | refine qset_self (c0 := ?_) ?_ | refine qset_nf (by omega) ?_ | fail) ?_ ?_ | refine wp_last rfl (by repeat' first | assumption | refine qset_ne rfl ?_ | refine qset_self (c0 := ?_) ?_ | refine qset_nf (by omega) ?_ | fail) ?_ ?_ | refine wp_alen rfl (by repeat' first | assumption | refine qset_ne rfl ?_ | refine qset_self (c0 := ?_) ?_ | refine qset_nf (by omega) ?_ | fail) rfl ?_ | refine wp_zast rfl (by repeat' first | assumption | refine qset_ne rfl ?_ | refine qset_self (c0 := ?_) ?_ | refine qset_nf (by omega) ?_ | fail) ?_ ?_ | refine wp_b rfl rfl (fun hc => absurd hc (by decide +kernel)) (fun _ => ?_) | refine wp_b rfl rfl (fun _ => ?_) (fun hc => absurd hc (by decide +kernel)) | refine wp_b rfl rfl (fun hc => ?_) (fun hc => ?_) | refine wp_v rfl rfl ?_ | refine ret_t ?_ | refine ret_f ?_ | fail
    simp [this]
  · obtain ⟨b1, ⟨b2, B3, b6⟩, b7⟩ := a7 k _ (List.getElem?_eq_getElem hk)
    have B4 := B3
    obtain ⟨f, b3, b4, b5⟩ := B3
    have e : eFields E k = E.1[k].2 := by unfold eFields; rw [List.getElem?_eq_getElem hk]; rfl
    rw [ixN_k hk (by omega)] at hc
    have hT : (decide (0 ≤ nI k) && decide (nI k < nI E.1.length)) = true := by
      simp only [Bool.and_eq_true, decide_eq_true_eq]
      exact ⟨nI_pos' (by omega), nI_lt hk (by omega)⟩
    rw [hT, nI_clamp (by omega), e, Bool.true_and]
    have hh := c_TypeList_has sc h _ 16 _ B4 y
    repeat' first | refine wp_Vop rfl rfl (by repeat' first | assumption | refine qset_ne rfl ?_ | refine qset_self (c0 := ?_) ?_ | refine qset_nf (by omega) ?_ | fail) rfl (hc) ?_ | refine wp_Vip rfl rfl (by repeat' first | assumption | refine qset_ne rfl ?_ | refine qset_self (c0 := ?_) ?_ | refine qset_nf (by omega) ?_ | fail) rfl (hh) ?_ | refine wp_ist rfl rfl rfl rfl ?_ | refine wp_lst rfl rfl rfl rfl ?_ | refine wp_iinc rfl rfl rfl rfl ?_ | refine wp_f rfl rfl rfl ?_ | refine wp_getf rfl (by repeat' first | assumption | refine qset_ne rfl ?_ | refine qset_self (c0 := ?_) ?_ | refine qset_nf (by omega) ?_ | fail) rfl ?_ | refine wp_ast rfl rfl rfl rfl ?_ | refine wp_asN rfl rfl rfl rfl ?_ | refine wp_putf rfl (by repeat' first | assumption | refine qset_ne rfl ?_ | refine qset_self (c0 := ?_) ?_ | refine qset_nf (by omega) ?_ | fail) (by exact Nat.le_of_ble_eq_true rfl) rfl ?_ | refine wp_iald rfl (by repeat' first | assumption | refine qset_ne rfl ?_ | refine qset_self (c0 := ?_) ?_ | refine qset_nf (by omega) ?_ | fail) ?_ ?_ | refine wp_lald rfl (by repeat' first | assumption | refine qset_ne rfl ?_ | refine qset_self (c0 := ?_) ?_ | refine qset_nf (by omega) ?_ | fail) ?_ ?_ | refine wp_zald rfl (by repeat' first | assumption | refine qset_ne rfl ?_ | refine qset_self (c0 := ?_) ?_ | refine qset_nf (by omega) ?_ | fail) ?_ ?_ | refine wp_iast rfl (by repeat' first | assumption | refine qset_ne rfl ?_ | refine qset_self (c0 := ?_) ?_ | refine qset_nf (by omega) ?_ | fail) ?_ ?_ | refine wp_last rfl (by repeat' first | assumption | refine qset_ne rfl ?_ | refine qset_self (c0 := ?_) ?_ | refine qset_nf (by omega) ?_ | fail) ?_ ?_ | refine wp_alen rfl (by repeat' first | assumption | refine qset_ne rfl ?_ | refine qset_self (c0 := ?_) ?_ | refine qset_nf (by omega) ?_ | fail) rfl ?_ | refine wp_zast rfl (by repeat' first | assumption | refine qset_ne rfl ?_ | refine qset_self (c0 := ?_) ?_ | refine qset_nf (by omega) ?_ | fail) ?_ ?_ | refine wp_b rfl rfl (fun hc => absurd hc (by decide +kernel)) (fun _ => ?_) | refine wp_b rfl rfl (fun _ => ?_) (fun hc => absurd hc (by decide +kernel)) | refine wp_b rfl rfl (fun hc => ?_) (fun hc => ?_) | refine wp_v rfl rfl ?_ | refine ret_t ?_ | refine ret_f ?_ | fail
    · rw [bI_eq, Bool.not_eq_true'] at hc; exact hc
    · rw [bI_eq, Bool.not_eq_false'] at hc; exact hc
theorem nI_andS : ∀ a, a < 16 → ∀ b, b < 16 → nI a &&& nI b = nI (a &&& b) := by decide +kernel
theorem nI_andM : ∀ a, a < 16 → nI a &&& -nI 9 = nI (a &&& 7) := by decide +kernel
theorem tby_lt (n k : Nat) : tby n k < 256 := Nat.mod_lt _ (by decide)
theorem eAb_lt {sa fa : Nat → Nat} {E : QE} {h : qH} (H : LdAt h sa fa E) (n : Nat) : eAb E n < 16 := by
  obtain ⟨g1, g2, a1, a2, a3, a4, a5, a6, a7, a8⟩ := H
  have key : (if tby n 1 = 6 then ((E.1[tby n 0]?).map (·.1)).getD 0 else 7) < 16 := by
    split
    · cases hs : E.1[tby n 0]? with
      | none => decide
      | some s => exact (a7 _ s hs).2.1.2.2
    · decide
  unfold eAb
  cases tref n with
  | true => exact (by decide : 3 < 16)
  | false =>
    show (if tlead n = 7 then (if tby n 1 = 6 then ((E.1[tby n 0]?).map (·.1)).getD 0 else 7) &&& 7 else (if tby n 1 = 6 then ((E.1[tby n 0]?).map (·.1)).getD 0 else 7)) < 16
    by_cases h7 : tlead n = 7
    · rw [if_pos h7]; exact Nat.lt_of_le_of_lt Nat.and_le_left key
    · rw [if_neg h7]; exact key
theorem c_Ledger_abilitiesOf {sa fa : Nat → Nat} {E : QE} (H : LdAt h sa fa E) (n : Nat) (hn : n < 2 ^ 63) : wp sc (m_Ledger_abilitiesOf, 0, qargs 0 [.ref 1, .long (lN n)], [], h) (rI (pI (nI (eAb E n)) h)) := by
  have H0 := H
  obtain ⟨g1, g2, a1, a2, a3, a4, a5, a6, a7, a8⟩ := H
  have hl : tlead n < 256 := Nat.mod_lt _ (by decide)
  have hb1 := tby_lt n 1
  have hb0 := tby_lt n 0
  have hst := c_Ledger_structureAt sc h H0 (nI (tby n 0))
  have eR : tref n = true → eAb E n = 3 := fun h => by unfold eAb; rw [if_pos h]
  have eN : tref n = false → eAb E n = if tlead n = 7 then (if tby n 1 = 6 then ((E.1[tby n 0]?).map (·.1)).getD 0 else 7) &&& 7 else (if tby n 1 = 6 then ((E.1[tby n 0]?).map (·.1)).getD 0 else 7) := fun h => by unfold eAb; rw [h]; rfl
  repeat' first | refine wp_Sip rfl rfl rfl (c_Type_lead sc h n hn) ?_ | refine wp_Sip rfl rfl rfl (c_Type_byteAt sc h n 1 (by omega) (by decide)) ?_ | refine wp_Sip rfl rfl rfl (c_Type_byteAt sc h n 0 (by omega) (by decide)) ?_ | refine wp_ist rfl rfl rfl rfl ?_ | refine wp_lst rfl rfl rfl rfl ?_ | refine wp_iinc rfl rfl rfl rfl ?_ | refine wp_f rfl rfl rfl ?_ | refine wp_getf rfl (by repeat' first | assumption | refine qset_ne rfl ?_ | refine qset_self (c0 := ?_) ?_ | refine qset_nf (by omega) ?_ | fail) rfl ?_ | refine wp_ast rfl rfl rfl rfl ?_ | refine wp_asN rfl rfl rfl rfl ?_ | refine wp_putf rfl (by repeat' first | assumption | refine qset_ne rfl ?_ | refine qset_self (c0 := ?_) ?_ | refine qset_nf (by omega) ?_ | fail) (by exact Nat.le_of_ble_eq_true rfl) rfl ?_ | refine wp_iald rfl (by repeat' first | assumption | refine qset_ne rfl ?_ | refine qset_self (c0 := ?_) ?_ | refine qset_nf (by omega) ?_ | fail) ?_ ?_ | refine wp_lald rfl (by repeat' first | assumption | refine qset_ne rfl ?_ | refine qset_self (c0 := ?_) ?_ | refine qset_nf (by omega) ?_ | fail) ?_ ?_ | refine wp_zald rfl (by repeat' first | assumption | refine qset_ne rfl ?_ | refine qset_self (c0 := ?_) ?_ | refine qset_nf (by omega) ?_ | fail) ?_ ?_ | refine wp_iast rfl (by repeat' first | assumption | refine qset_ne rfl ?_ | refine qset_self (c0 := ?_) ?_ | refine qset_nf (by omega) ?_ | fail) ?_ ?_ | refine wp_last rfl (by repeat' first | assumption | refine qset_ne rfl ?_ | refine qset_self (c0 := ?_) ?_ | refine qset_nf (by omega) ?_ | fail) ?_ ?_ | refine wp_alen rfl (by repeat' first | assumption | refine qset_ne rfl ?_ | refine qset_self (c0 := ?_) ?_ | refine qset_nf (by omega) ?_ | fail) rfl ?_ | refine wp_zast rfl (by repeat' first | assumption | refine qset_ne rfl ?_ | refine qset_self (c0 := ?_) ?_ | refine qset_nf (by omega) ?_ | fail) ?_ ?_ | refine wp_b rfl rfl (fun hc => absurd hc (by decide +kernel)) (fun _ => ?_) | refine wp_b rfl rfl (fun _ => ?_) (fun hc => absurd hc (by decide +kernel)) | refine wp_b rfl rfl (fun hc => ?_) (fun hc => ?_) | refine wp_v rfl rfl ?_ | refine ret_t ?_ | refine ret_f ?_ | fail
  · (try simp (disch := omega) only [c2_eq, c2_ne, c2_lt, c2_ge, c2_gt, c2_le, c1_eq, c1_ne, c1_lt, c1_le, c1_gt, c1_ge, lg_le, lg_lt, lg_ge, lg_gt, lg_eq, lg_ne, bI_eq, bI_ne, qlc_0, qlc_2, qlc_3, qlc_4, qlc_5, qlc_7, qlc_8, qlc_9, qlc_10, qlc_11, qlc_12, qlc_14, lN_z, lN_leN, lN_ltN, lN_eqN, decide_eq_true_eq, decide_eq_false_iff_not, Bool.not_eq_true', Bool.not_eq_false'] at *)
    rw [eR (by simp [tref, hc])]; exact ⟨rfl, rfl⟩
  · rename_i hc2 hc1
    (try simp (disch := omega) only [c2_eq, c2_ne, c2_lt, c2_ge, c2_gt, c2_le, c1_eq, c1_ne, c1_lt, c1_le, c1_gt, c1_ge, lg_le, lg_lt, lg_ge, lg_gt, lg_eq, lg_ne, bI_eq, bI_ne, qlc_0, qlc_2, qlc_3, qlc_4, qlc_5, qlc_7, qlc_8, qlc_9, qlc_10, qlc_11, qlc_12, qlc_14, lN_z, lN_leN, lN_ltN, lN_eqN, decide_eq_true_eq, decide_eq_false_iff_not, Bool.not_eq_true', Bool.not_eq_false'] at *)
    have hr : tref n = false := by simp [tref, hc2, hc1]
    rw [eN hr, if_pos hc]
    rcases Nat.lt_or_ge (tby n 0) E.1.length with hs | hs
    · obtain ⟨b1, ⟨b2, B3, b6⟩, b7⟩ := a7 _ _ (List.getElem?_eq_getElem hs)
      rw [ixN_k hs (by omega)] at hst
      rw [List.getElem?_eq_getElem hs]
      repeat' first | refine wp_Vop rfl rfl (by repeat' first | assumption | refine qset_ne rfl ?_ | refine qset_self (c0 := ?_) ?_ | refine qset_nf (by omega) ?_ | fail) rfl (hst) ?_ | refine wp_ist rfl rfl rfl rfl ?_ | refine wp_lst rfl rfl rfl rfl ?_ | refine wp_iinc rfl rfl rfl rfl ?_ | refine wp_f rfl rfl rfl ?_ | refine wp_getf rfl (by repeat' first | assumption | refine qset_ne rfl ?_ | refine qset_self (c0 := ?_) ?_ | refine qset_nf (by omega) ?_ | fail) rfl ?_ | refine wp_ast rfl rfl rfl rfl ?_ | refine wp_asN rfl rfl rfl rfl ?_ | refine wp_putf rfl (by repeat' first | assumption | refine qset_ne rfl ?_ | refine qset_self (c0 := ?_) ?_ | refine qset_nf (by omega) ?_ | fail) (by exact Nat.le_of_ble_eq_true rfl) rfl ?_ | refine wp_iald rfl (by repeat' first | assumption | refine qset_ne rfl ?_ | refine qset_self (c0 := ?_) ?_ | refine qset_nf (by omega) ?_ | fail) ?_ ?_ | refine wp_lald rfl (by repeat' first | assumption | refine qset_ne rfl ?_ | refine qset_self (c0 := ?_) ?_ | refine qset_nf (by omega) ?_ | fail) ?_ ?_ | refine wp_zald rfl (by repeat' first | assumption | refine qset_ne rfl ?_ | refine qset_self (c0 := ?_) ?_ | refine qset_nf (by omega) ?_ | fail) ?_ ?_ | refine wp_iast rfl (by repeat' first | assumption | refine qset_ne rfl ?_ | refine qset_self (c0 := ?_) ?_ | refine qset_nf (by omega) ?_ | fail) ?_ ?_ | refine wp_last rfl (by repeat' first | assumption | refine qset_ne rfl ?_ | refine qset_self (c0 := ?_) ?_ | refine qset_nf (by omega) ?_ | fail) ?_ ?_ | refine wp_alen rfl (by repeat' first | assumption | refine qset_ne rfl ?_ | refine qset_self (c0 := ?_) ?_ | refine qset_nf (by omega) ?_ | fail) rfl ?_ | refine wp_zast rfl (by repeat' first | assumption | refine qset_ne rfl ?_ | refine qset_self (c0 := ?_) ?_ | refine qset_nf (by omega) ?_ | fail) ?_ ?_ | refine wp_b rfl rfl (fun hc => absurd hc (by decide +kernel)) (fun _ => ?_) | refine wp_b rfl rfl (fun _ => ?_) (fun hc => absurd hc (by decide +kernel)) | refine wp_b rfl rfl (fun hc => ?_) (fun hc => ?_) | refine wp_v rfl rfl ?_ | refine ret_t ?_ | refine ret_f ?_ | fail
      · (try simp (disch := omega) only [c2_eq, c2_ne, c2_lt, c2_ge, c2_gt, c2_le, c1_eq, c1_ne, c1_lt, c1_le, c1_gt, c1_ge, lg_le, lg_lt, lg_ge, lg_gt, lg_eq, lg_ne, bI_eq, bI_ne, qlc_0, qlc_2, qlc_3, qlc_4, qlc_5, qlc_7, qlc_8, qlc_9, qlc_10, qlc_11, qlc_12, qlc_14, lN_z, lN_leN, lN_ltN, lN_eqN, decide_eq_true_eq, decide_eq_false_iff_not, Bool.not_eq_true', Bool.not_eq_false'] at *)
        rw [if_neg hc]
        exact ⟨rfl, rfl⟩
      · (try simp (disch := omega) only [c2_eq, c2_ne, c2_lt, c2_ge, c2_gt, c2_le, c1_eq, c1_ne, c1_lt, c1_le, c1_gt, c1_ge, lg_le, lg_lt, lg_ge, lg_gt, lg_eq, lg_ne, bI_eq, bI_ne, qlc_0, qlc_2, qlc_3, qlc_4, qlc_5, qlc_7, qlc_8, qlc_9, qlc_10, qlc_11, qlc_12, qlc_14, lN_z, lN_leN, lN_ltN, lN_eqN, decide_eq_true_eq, decide_eq_false_iff_not, Bool.not_eq_true', Bool.not_eq_false'] at *)
        rw [if_pos hc, nI_andM _ b6]
        exact ⟨rfl, rfl⟩
    · rw [ixN_n (Or.inr (by rw [c2_ge (by omega) (by omega)]; simpa using hs))] at hst
      rw [List.getElem?_eq_none hs]
      repeat' first | refine wp_Vop rfl rfl (by repeat' first | assumption | refine qset_ne rfl ?_ | refine qset_self (c0 := ?_) ?_ | refine qset_nf (by omega) ?_ | fail) rfl (hst) ?_ | refine wp_ist rfl rfl rfl rfl ?_ | refine wp_lst rfl rfl rfl rfl ?_ | refine wp_iinc rfl rfl rfl rfl ?_ | refine wp_f rfl rfl rfl ?_ | refine wp_getf rfl (by repeat' first | assumption | refine qset_ne rfl ?_ | refine qset_self (c0 := ?_) ?_ | refine qset_nf (by omega) ?_ | fail) rfl ?_ | refine wp_ast rfl rfl rfl rfl ?_ | refine wp_asN rfl rfl rfl rfl ?_ | refine wp_putf rfl (by repeat' first | assumption | refine qset_ne rfl ?_ | refine qset_self (c0 := ?_) ?_ | refine qset_nf (by omega) ?_ | fail) (by exact Nat.le_of_ble_eq_true rfl) rfl ?_ | refine wp_iald rfl (by repeat' first | assumption | refine qset_ne rfl ?_ | refine qset_self (c0 := ?_) ?_ | refine qset_nf (by omega) ?_ | fail) ?_ ?_ | refine wp_lald rfl (by repeat' first | assumption | refine qset_ne rfl ?_ | refine qset_self (c0 := ?_) ?_ | refine qset_nf (by omega) ?_ | fail) ?_ ?_ | refine wp_zald rfl (by repeat' first | assumption | refine qset_ne rfl ?_ | refine qset_self (c0 := ?_) ?_ | refine qset_nf (by omega) ?_ | fail) ?_ ?_ | refine wp_iast rfl (by repeat' first | assumption | refine qset_ne rfl ?_ | refine qset_self (c0 := ?_) ?_ | refine qset_nf (by omega) ?_ | fail) ?_ ?_ | refine wp_last rfl (by repeat' first | assumption | refine qset_ne rfl ?_ | refine qset_self (c0 := ?_) ?_ | refine qset_nf (by omega) ?_ | fail) ?_ ?_ | refine wp_alen rfl (by repeat' first | assumption | refine qset_ne rfl ?_ | refine qset_self (c0 := ?_) ?_ | refine qset_nf (by omega) ?_ | fail) rfl ?_ | refine wp_zast rfl (by repeat' first | assumption | refine qset_ne rfl ?_ | refine qset_self (c0 := ?_) ?_ | refine qset_nf (by omega) ?_ | fail) ?_ ?_ | refine wp_b rfl rfl (fun hc => absurd hc (by decide +kernel)) (fun _ => ?_) | refine wp_b rfl rfl (fun _ => ?_) (fun hc => absurd hc (by decide +kernel)) | refine wp_b rfl rfl (fun hc => ?_) (fun hc => ?_) | refine wp_v rfl rfl ?_ | refine ret_t ?_ | refine ret_f ?_ | fail
      all_goals (try simp (disch := omega) only [c2_eq, c2_ne, c2_lt, c2_ge, c2_gt, c2_le, c1_eq, c1_ne, c1_lt, c1_le, c1_gt, c1_ge, lg_le, lg_lt, lg_ge, lg_gt, lg_eq, lg_ne, bI_eq, bI_ne, qlc_0, qlc_2, qlc_3, qlc_4, qlc_5, qlc_7, qlc_8, qlc_9, qlc_10, qlc_11, qlc_12, qlc_14, lN_z, lN_leN, lN_ltN, lN_eqN, decide_eq_true_eq, decide_eq_false_iff_not, Bool.not_eq_true', Bool.not_eq_false'] at *)
      · rw [if_neg hc]; exact ⟨rfl, rfl⟩
      · rw [if_pos hc, nI_andM _ (by decide)]; exact ⟨rfl, rfl⟩
  · rename_i hc2 hc1
    (try simp (disch := omega) only [c2_eq, c2_ne, c2_lt, c2_ge, c2_gt, c2_le, c1_eq, c1_ne, c1_lt, c1_le, c1_gt, c1_ge, lg_le, lg_lt, lg_ge, lg_gt, lg_eq, lg_ne, bI_eq, bI_ne, qlc_0, qlc_2, qlc_3, qlc_4, qlc_5, qlc_7, qlc_8, qlc_9, qlc_10, qlc_11, qlc_12, qlc_14, lN_z, lN_leN, lN_ltN, lN_eqN, decide_eq_true_eq, decide_eq_false_iff_not, Bool.not_eq_true', Bool.not_eq_false'] at *)
    have hr : tref n = false := by simp [tref, hc2, hc1]
    rw [eN hr, if_neg hc]
    have : (if tlead n = 7 then 7 &&& 7 else 7) = 7 := by split <;> rfl
    rw [this]
    exact ⟨rfl, rfl⟩
  · rename_i hc2
    (try simp (disch := omega) only [c2_eq, c2_ne, c2_lt, c2_ge, c2_gt, c2_le, c1_eq, c1_ne, c1_lt, c1_le, c1_gt, c1_ge, lg_le, lg_lt, lg_ge, lg_gt, lg_eq, lg_ne, bI_eq, bI_ne, qlc_0, qlc_2, qlc_3, qlc_4, qlc_5, qlc_7, qlc_8, qlc_9, qlc_10, qlc_11, qlc_12, qlc_14, lN_z, lN_leN, lN_ltN, lN_eqN, decide_eq_true_eq, decide_eq_false_iff_not, Bool.not_eq_true', Bool.not_eq_false'] at *)
    rw [eR (by simp [tref, hc])]; exact ⟨rfl, rfl⟩
theorem c_Ledger_can {sa fa : Nat → Nat} {E : QE} (H : LdAt h sa fa E) (n b : Nat) (hn : n < 2 ^ 63) (hb : b < 16) : wp sc (m_Ledger_can, 0, qargs 0 [.ref 1, .long (lN n), .int (nI b)], [], h) (rI (pI (bI (eCan E n b)) h)) := by
  have H0 := H
  have hlt := eAb_lt H n
  have hle : eAb E n &&& b < 16 := Nat.lt_of_le_of_lt Nat.and_le_left hlt
  obtain ⟨g1, g2, a1, a2, a3, a4, a5, a6, a7, a8⟩ := H
  repeat' first | refine wp_Vip rfl rfl (by repeat' first | assumption | refine qset_ne rfl ?_ | refine qset_self (c0 := ?_) ?_ | refine qset_nf (by omega) ?_ | fail) rfl (c_Ledger_abilitiesOf sc h H0 n hn) ?_ | refine wp_ist rfl rfl rfl rfl ?_ | refine wp_lst rfl rfl rfl rfl ?_ | refine wp_iinc rfl rfl rfl rfl ?_ | refine wp_f rfl rfl rfl ?_ | refine wp_getf rfl (by repeat' first | assumption | refine qset_ne rfl ?_ | refine qset_self (c0 := ?_) ?_ | refine qset_nf (by omega) ?_ | fail) rfl ?_ | refine wp_ast rfl rfl rfl rfl ?_ | refine wp_asN rfl rfl rfl rfl ?_ | refine wp_putf rfl (by repeat' first | assumption | refine qset_ne rfl ?_ | refine qset_self (c0 := ?_) ?_ | refine qset_nf (by omega) ?_ | fail) (by exact Nat.le_of_ble_eq_true rfl) rfl ?_ | refine wp_iald rfl (by repeat' first | assumption | refine qset_ne rfl ?_ | refine qset_self (c0 := ?_) ?_ | refine qset_nf (by omega) ?_ | fail) ?_ ?_ | refine wp_lald rfl (by repeat' first | assumption | refine qset_ne rfl ?_ | refine qset_self (c0 := ?_) ?_ | refine qset_nf (by omega) ?_ | fail) ?_ ?_ | refine wp_zald rfl (by repeat' first | assumption | refine qset_ne rfl ?_ | refine qset_self (c0 := ?_) ?_ | refine qset_nf (by omega) ?_ | fail) ?_ ?_ | refine wp_iast rfl (by repeat' first | assumption | refine qset_ne rfl ?_ | refine qset_self (c0 := ?_) ?_ | refine qset_nf (by omega) ?_ | fail) ?_ ?_ | refine wp_last rfl (by repeat' first | assumption | refine qset_ne rfl ?_ | refine qset_self (c0 := ?_) ?_ | refine qset_nf (by omega) ?_ | fail) ?_ ?_ | refine wp_alen rfl (by repeat' first | assumption | refine qset_ne rfl ?_ | refine qset_self (c0 := ?_) ?_ | refine qset_nf (by omega) ?_ | fail) rfl ?_ | refine wp_zast rfl (by repeat' first | assumption | refine qset_ne rfl ?_ | refine qset_self (c0 := ?_) ?_ | refine qset_nf (by omega) ?_ | fail) ?_ ?_ | refine wp_b rfl rfl (fun hc => absurd hc (by decide +kernel)) (fun _ => ?_) | refine wp_b rfl rfl (fun _ => ?_) (fun hc => absurd hc (by decide +kernel)) | refine wp_b rfl rfl (fun hc => ?_) (fun hc => ?_) | refine wp_v rfl rfl ?_ | refine ret_t ?_ | refine ret_f ?_ | fail
  all_goals
    rw [nI_andS _ hlt _ hb] at hc
    (try simp (disch := omega) only [c2_eq, c2_ne, c2_lt, c2_ge, c2_gt, c2_le, c1_eq, c1_ne, c1_lt, c1_le, c1_gt, c1_ge, lg_le, lg_lt, lg_ge, lg_gt, lg_eq, lg_ne, bI_eq, bI_ne, qlc_0, qlc_2, qlc_3, qlc_4, qlc_5, qlc_7, qlc_8, qlc_9, qlc_10, qlc_11, qlc_12, qlc_14, lN_z, lN_leN, lN_ltN, lN_eqN, decide_eq_true_eq, decide_eq_false_iff_not, Bool.not_eq_true', Bool.not_eq_false'] at *)
    simp [eCan, hc]
end L2
