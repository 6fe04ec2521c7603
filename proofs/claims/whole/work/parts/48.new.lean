/-! New objects and arrays: what a constructor lays. -/
set_option maxHeartbeats 4000000 in
theorem qss_so {h : qH} {a ci : Nat} {fs fs' : List Value} (ha : h[a]? = some (.inr (ci, fs))) : qss (h.set a (.inr (ci, fs'))) = qss h := qss_set ha rfl
/-- h1 is h with c behind it -/
def Gr (h h1 : qH) (c : qC) : Prop := h1.length = h.length + 1 ∧ (∀ p, p < h.length → h1[p]? = h[p]?) ∧ h1[h.length]? = some c ∧ qss h1 = qss h + qcs c
set_option maxHeartbeats 4000000 in
theorem Gr.mk (h : qH) (c : qC) : Gr h (h ++ [c]) c := ⟨by rw [List.length_append, List.length_singleton], fun p hp => List.getElem?_append_left hp, by rw [List.getElem?_append_right (Nat.le_refl _), Nat.sub_self]; rfl, qss_app⟩
section NW
variable {sc : Nat × (Nat → Int32)} {Q : Option Value → qH → Prop} {k pc nx t1 t2 : Nat} {ls : qL} {st : List Value} {h : qH} {i : Instr}
set_option maxHeartbeats 4000000 in
theorem wp_newG {L idx : Nat} (hi : qins k pc = some (.new idx, nx, t1, t2)) (hL : h.length = L) (hw : ∀ h1, Gr h h1 (.inr (t1, qdef t1)) → wp sc (k, nx, ls, .ref L :: st, h1) Q) : wp sc (k, pc, ls, st, h) Q := by
  subst hL
  exact wp_new hi (hw _ (Gr.mk _ _))
set_option maxHeartbeats 4000000 in
theorem wp_arrG {L : Nat} {x : Int32} {c : qC} {b : Bool} (hi : qins k pc = some (i, nx, t1, t2)) (hs : qstepI sc i k nx t1 t2 ls (.int x :: st) h = qG b (k, nx, ls, .ref h.length :: st, h ++ [c])) (hb : b = true) (hL : h.length = L) (hw : ∀ h1, Gr h h1 c → wp sc (k, nx, ls, .ref L :: st, h1) Q) : wp sc (k, pc, ls, .int x :: st, h) Q := by
  subst hL
  exact wp_g hi hs hb (hw _ (Gr.mk _ _))
set_option maxHeartbeats 4000000 in
theorem wp_Iu2 {x0 : Nat} {as rest : List Value} {P : qH → Prop} (hi : qins k pc = some (i, nx, t1, t2)) (hsp : qspl (qnp t1 + 1) [] st = some (.ref x0 :: as, rest)) (hs : qstepI sc i k nx t1 t2 ls st h = qX t1 (.ref x0 :: as) (k, nx, ls, rest, h)) (hw : wp sc (t1, 0, qargs 0 (.ref x0 :: as), [], h) (rU P)) (hk : ∀ h2, P h2 → wp sc (k, nx, ls, rest, h2) Q) : wp sc (k, pc, ls, st, h) Q := wp_Iu hi hsp hs hw hk
end NW
/-- behind a constructor of the object at a, h of L cells: n cells more, m slots more; below a nothing changed, nor between a and L -/
def Nw (h h1 : qH) (a n m : Nat) : Prop := h1.length = h.length + n ∧ (∀ p, p < h.length → p ≠ a → h1[p]? = h[p]?) ∧ qss h1 = qss h + m
set_option maxHeartbeats 4000000 in
theorem Gr.at {h h1 : qH} {c c' : qC} {p : Nat} (g : Gr h h1 c) (hp : h[p]? = some c') : h1[p]? = some c' := by
  rw [g.2.1 p (List.getElem?_eq_some_iff.mp hp).1]
  exact hp
set_option maxHeartbeats 4000000 in
theorem Nw.at {h h1 : qH} {a n m p : Nat} {c : qC} (g : Nw h h1 a n m) (ha : p ≠ a) (hp : h[p]? = some c) : h1[p]? = some c := by
  rw [g.2.1 p (List.getElem?_eq_some_iff.mp hp).1 ha]
  exact hp
set_option maxHeartbeats 4000000 in
theorem arr_1 (n : Nat) : qnew 1 n = .inl (1, n, .inr (.inl fun _ => 0)) := rfl
section NC
variable (sc : Nat × (Nat → Int32)) (h : qH)
set_option maxHeartbeats 4000000 in
theorem c_TypeList_init {a lim : Nat} (hlim : lim ≤ 64) (ha : h[a]? = some (.inr (8, qdef 8))) : wp sc (m_TypeList_init, 0, qargs 0 [.ref a, .int (nI lim)], [], h) (rU fun h' => h'[a]? = some (.inr (8, [.ref h.length, .int (nI 0)])) ∧ h'[h.length]? = some (.inl (1, lim, .inr (.inl fun _ => 0))) ∧ Nw h h' a 1 lim) := by
  have hal := (List.getElem?_eq_some_iff.mp ha).1
  have hb : (!(decide (nI lim < 0)) && decide ((nI lim).toNatClampNeg ≤ 60000000)) = true := by
    rw [nI_clamp (by omega), decide_eq_false (by rw [show (0 : Int32) = nI 0 from rfl, nI_ltI (by omega) (by decide)]; omega)]
    simp
    omega
  repeat' first | refine wp_ist rfl rfl rfl rfl ?_ | refine wp_lst rfl rfl rfl rfl ?_ | refine wp_iinc rfl rfl rfl rfl ?_ | refine wp_f rfl rfl rfl ?_ | refine wp_getf rfl (by repeat' first | assumption | refine qset_ne rfl ?_ | refine qset_self (c0 := ?_) ?_ | refine qset_nf (by omega) ?_ | fail) rfl ?_ | refine wp_ast rfl rfl rfl rfl ?_ | refine wp_asN rfl rfl rfl rfl ?_ | refine wp_putf rfl (by repeat' first | assumption | refine qset_ne rfl ?_ | refine qset_self (c0 := ?_) ?_ | refine qset_nf (by omega) ?_ | fail) (by exact Nat.le_of_ble_eq_true rfl) rfl ?_ | refine wp_iald rfl (by repeat' first | assumption | refine qset_ne rfl ?_ | refine qset_self (c0 := ?_) ?_ | refine qset_nf (by omega) ?_ | fail) ?_ ?_ | refine wp_lald rfl (by repeat' first | assumption | refine qset_ne rfl ?_ | refine qset_self (c0 := ?_) ?_ | refine qset_nf (by omega) ?_ | fail) ?_ ?_ | refine wp_zald rfl (by repeat' first | assumption | refine qset_ne rfl ?_ | refine qset_self (c0 := ?_) ?_ | refine qset_nf (by omega) ?_ | fail) ?_ ?_ | refine wp_iast rfl (by repeat' first | assumption | refine qset_ne rfl ?_ | refine qset_self (c0 := ?_) ?_ | refine qset_nf (by omega) ?_ | fail) ?_ ?_ | refine wp_last rfl (by repeat' first | assumption | refine qset_ne rfl ?_ | refine qset_self (c0 := ?_) ?_ | refine qset_nf (by omega) ?_ | fail) ?_ ?_ | refine wp_alen rfl (by repeat' first | assumption | refine qset_ne rfl ?_ | refine qset_self (c0 := ?_) ?_ | refine qset_nf (by omega) ?_ | fail) rfl ?_ | refine wp_zast rfl (by repeat' first | assumption | refine qset_ne rfl ?_ | refine qset_self (c0 := ?_) ?_ | refine qset_nf (by omega) ?_ | fail) ?_ ?_ | refine wp_b rfl rfl (fun hc => absurd hc (by decide +kernel)) (fun _ => ?_) | refine wp_b rfl rfl (fun _ => ?_) (fun hc => absurd hc (by decide +kernel)) | refine wp_c2y rfl (by omega) (by omega) (by dsimp only [qn2]; omega) ?_ | refine wp_c2n rfl (by omega) (by omega) (by dsimp only [qn2]; omega) ?_ | refine wp_c1y rfl (by omega) (by first | exact True.intro | (dsimp only [qn1]; omega)) ?_ | refine wp_c1n rfl (by omega) (by first | exact (fun z => z) | (dsimp only [qn1]; omega)) ?_ | refine wp_b rfl rfl (fun hc => ?_) (fun hc => ?_) | refine wp_v rfl rfl ?_ | refine ret_t ?_ | refine ret_f ?_ | fail
  refine wp_arrG rfl rfl hb rfl fun h1 g => ?_
  have e1 := g.at ha
  have e2 := g.2.2.1
  rw [nI_clamp (show lim < 2 ^ 31 by omega)] at e2
  have gs := g.2.2.2
  rw [nI_clamp (show lim < 2 ^ 31 by omega)] at gs
  refine wp_putf rfl e1 (by exact Nat.le_of_ble_eq_true rfl) rfl ?_
  repeat' first | refine wp_ist rfl rfl rfl rfl ?_ | refine wp_lst rfl rfl rfl rfl ?_ | refine wp_iinc rfl rfl rfl rfl ?_ | refine wp_f rfl rfl rfl ?_ | refine wp_getf rfl (by repeat' first | assumption | refine qset_ne rfl ?_ | refine qset_self (c0 := ?_) ?_ | refine qset_nf (by omega) ?_ | fail) rfl ?_ | refine wp_ast rfl rfl rfl rfl ?_ | refine wp_asN rfl rfl rfl rfl ?_ | refine wp_putf rfl (by repeat' first | assumption | refine qset_ne rfl ?_ | refine qset_self (c0 := ?_) ?_ | refine qset_nf (by omega) ?_ | fail) (by exact Nat.le_of_ble_eq_true rfl) rfl ?_ | refine wp_iald rfl (by repeat' first | assumption | refine qset_ne rfl ?_ | refine qset_self (c0 := ?_) ?_ | refine qset_nf (by omega) ?_ | fail) ?_ ?_ | refine wp_lald rfl (by repeat' first | assumption | refine qset_ne rfl ?_ | refine qset_self (c0 := ?_) ?_ | refine qset_nf (by omega) ?_ | fail) ?_ ?_ | refine wp_zald rfl (by repeat' first | assumption | refine qset_ne rfl ?_ | refine qset_self (c0 := ?_) ?_ | refine qset_nf (by omega) ?_ | fail) ?_ ?_ | refine wp_iast rfl (by repeat' first | assumption | refine qset_ne rfl ?_ | refine qset_self (c0 := ?_) ?_ | refine qset_nf (by omega) ?_ | fail) ?_ ?_ | refine wp_last rfl (by repeat' first | assumption | refine qset_ne rfl ?_ | refine qset_self (c0 := ?_) ?_ | refine qset_nf (by omega) ?_ | fail) ?_ ?_ | refine wp_alen rfl (by repeat' first | assumption | refine qset_ne rfl ?_ | refine qset_self (c0 := ?_) ?_ | refine qset_nf (by omega) ?_ | fail) rfl ?_ | refine wp_zast rfl (by repeat' first | assumption | refine qset_ne rfl ?_ | refine qset_self (c0 := ?_) ?_ | refine qset_nf (by omega) ?_ | fail) ?_ ?_ | refine wp_b rfl rfl (fun hc => absurd hc (by decide +kernel)) (fun _ => ?_) | refine wp_b rfl rfl (fun _ => ?_) (fun hc => absurd hc (by decide +kernel)) | refine wp_b rfl rfl (fun hc => ?_) (fun hc => ?_) | refine wp_v rfl rfl ?_ | refine ret_t ?_ | refine ret_f ?_ | fail
  refine ⟨qset_self e1, qset_nf (by omega) e2, by rw [List.length_set]; exact g.1, fun p hp hpa => ?_, ?_⟩
  · rw [List.getElem?_set_ne (by omega)]
    exact g.2.1 p hp
  · rw [qss_so e1, gs]
    rfl
set_option maxHeartbeats 4000000 in
theorem c_Structure_init {a ab : Nat} (hab : ab < 16) (ha : h[a]? = some (.inr (7, qdef 7))) (hL : h.length = a + 1) : wp sc (m_Structure_init, 0, qargs 0 [.ref a, .int (nI ab)], [], h) (rU fun h' => StAt h' a (ab, []) ∧ Nw h h' a 2 18) := by
  repeat' first | (refine wp_newG rfl hL fun h1 g1 => ?_) | refine wp_ist rfl rfl rfl rfl ?_ | refine wp_lst rfl rfl rfl rfl ?_ | refine wp_iinc rfl rfl rfl rfl ?_ | refine wp_f rfl rfl rfl ?_ | refine wp_getf rfl (by repeat' first | assumption | refine qset_ne rfl ?_ | refine qset_self (c0 := ?_) ?_ | refine qset_nf (by omega) ?_ | fail) rfl ?_ | refine wp_ast rfl rfl rfl rfl ?_ | refine wp_asN rfl rfl rfl rfl ?_ | refine wp_putf rfl (by repeat' first | assumption | refine qset_ne rfl ?_ | refine qset_self (c0 := ?_) ?_ | refine qset_nf (by omega) ?_ | fail) (by exact Nat.le_of_ble_eq_true rfl) rfl ?_ | refine wp_iald rfl (by repeat' first | assumption | refine qset_ne rfl ?_ | refine qset_self (c0 := ?_) ?_ | refine qset_nf (by omega) ?_ | fail) ?_ ?_ | refine wp_lald rfl (by repeat' first | assumption | refine qset_ne rfl ?_ | refine qset_self (c0 := ?_) ?_ | refine qset_nf (by omega) ?_ | fail) ?_ ?_ | refine wp_zald rfl (by repeat' first | assumption | refine qset_ne rfl ?_ | refine qset_self (c0 := ?_) ?_ | refine qset_nf (by omega) ?_ | fail) ?_ ?_ | refine wp_iast rfl (by repeat' first | assumption | refine qset_ne rfl ?_ | refine qset_self (c0 := ?_) ?_ | refine qset_nf (by omega) ?_ | fail) ?_ ?_ | refine wp_last rfl (by repeat' first | assumption | refine qset_ne rfl ?_ | refine qset_self (c0 := ?_) ?_ | refine qset_nf (by omega) ?_ | fail) ?_ ?_ | refine wp_alen rfl (by repeat' first | assumption | refine qset_ne rfl ?_ | refine qset_self (c0 := ?_) ?_ | refine qset_nf (by omega) ?_ | fail) rfl ?_ | refine wp_zast rfl (by repeat' first | assumption | refine qset_ne rfl ?_ | refine qset_self (c0 := ?_) ?_ | refine qset_nf (by omega) ?_ | fail) ?_ ?_ | refine wp_b rfl rfl (fun hc => absurd hc (by decide +kernel)) (fun _ => ?_) | refine wp_b rfl rfl (fun _ => ?_) (fun hc => absurd hc (by decide +kernel)) | refine wp_b rfl rfl (fun hc => ?_) (fun hc => ?_) | refine wp_v rfl rfl ?_ | refine ret_t ?_ | refine ret_f ?_ | fail
  have e1 := g1.at ha
  have e2 := g1.2.2.1
  rw [hL] at e2
  have l1 := g1.1
  rw [hL] at l1
  refine wp_Iu2 rfl rfl rfl (c_TypeList_init sc h1 (a := a + 1) (lim := 16) (by decide) e2) fun h2 ⟨q1, q2, q3⟩ => ?_
  rw [l1] at q1 q2
  have e3 := q3.at (by omega) e1
  refine wp_putf rfl e3 (by exact Nat.le_of_ble_eq_true rfl) rfl ?_
  refine wp_n rfl rfl ?_
  refine wp_n rfl rfl ?_
  refine wp_putf rfl (qset_self e3) (by exact Nat.le_of_ble_eq_true rfl) rfl ?_
  repeat' first | refine wp_ist rfl rfl rfl rfl ?_ | refine wp_lst rfl rfl rfl rfl ?_ | refine wp_iinc rfl rfl rfl rfl ?_ | refine wp_f rfl rfl rfl ?_ | refine wp_getf rfl (by repeat' first | assumption | refine qset_ne rfl ?_ | refine qset_self (c0 := ?_) ?_ | refine qset_nf (by omega) ?_ | fail) rfl ?_ | refine wp_ast rfl rfl rfl rfl ?_ | refine wp_asN rfl rfl rfl rfl ?_ | refine wp_putf rfl (by repeat' first | assumption | refine qset_ne rfl ?_ | refine qset_self (c0 := ?_) ?_ | refine qset_nf (by omega) ?_ | fail) (by exact Nat.le_of_ble_eq_true rfl) rfl ?_ | refine wp_iald rfl (by repeat' first | assumption | refine qset_ne rfl ?_ | refine qset_self (c0 := ?_) ?_ | refine qset_nf (by omega) ?_ | fail) ?_ ?_ | refine wp_lald rfl (by repeat' first | assumption | refine qset_ne rfl ?_ | refine qset_self (c0 := ?_) ?_ | refine qset_nf (by omega) ?_ | fail) ?_ ?_ | refine wp_zald rfl (by repeat' first | assumption | refine qset_ne rfl ?_ | refine qset_self (c0 := ?_) ?_ | refine qset_nf (by omega) ?_ | fail) ?_ ?_ | refine wp_iast rfl (by repeat' first | assumption | refine qset_ne rfl ?_ | refine qset_self (c0 := ?_) ?_ | refine qset_nf (by omega) ?_ | fail) ?_ ?_ | refine wp_last rfl (by repeat' first | assumption | refine qset_ne rfl ?_ | refine qset_self (c0 := ?_) ?_ | refine qset_nf (by omega) ?_ | fail) ?_ ?_ | refine wp_alen rfl (by repeat' first | assumption | refine qset_ne rfl ?_ | refine qset_self (c0 := ?_) ?_ | refine qset_nf (by omega) ?_ | fail) rfl ?_ | refine wp_zast rfl (by repeat' first | assumption | refine qset_ne rfl ?_ | refine qset_self (c0 := ?_) ?_ | refine qset_nf (by omega) ?_ | fail) ?_ ?_ | refine wp_b rfl rfl (fun hc => absurd hc (by decide +kernel)) (fun _ => ?_) | refine wp_b rfl rfl (fun _ => ?_) (fun hc => absurd hc (by decide +kernel)) | refine wp_b rfl rfl (fun hc => ?_) (fun hc => ?_) | refine wp_v rfl rfl ?_ | refine ret_t ?_ | refine ret_f ?_ | fail
  refine ⟨⟨qset_self (qset_self e3), ⟨fun _ => 0, qset_nf (by omega) (qset_nf (by omega) q1), qset_nf (by omega) (qset_nf (by omega) q2), Nat.zero_le _, by decide, fun i n hi => by cases hi⟩, hab⟩, ?_, fun p hp hpa => ?_, ?_⟩
  · rw [List.length_set, List.length_set, q3.1, g1.1]
  · rw [List.getElem?_set_ne (by omega), List.getElem?_set_ne (by omega), q3.2.1 p (by omega) (by omega)]
    exact g1.2.1 p hp
  · rw [qss_so (qset_self e3), qss_so e3, q3.2.2, g1.2.2.2]
    rfl
set_option maxHeartbeats 4000000 in
theorem c_Code_init {a fl : Nat} (hfl : fl < 8) (ha : h[a]? = some (.inr (0, qdef 0))) (hL : h.length = a + 1) : wp sc (m_Code_init, 0, qargs 0 [.ref a, .int (nI fl)], [], h) (rU fun h' => CdAt h' a (fl, [], [], [], []) ∧ Nw h h' a 9 822) := by
  repeat' first | (refine wp_newG rfl hL fun h1 g1 => ?_) | refine wp_ist rfl rfl rfl rfl ?_ | refine wp_lst rfl rfl rfl rfl ?_ | refine wp_iinc rfl rfl rfl rfl ?_ | refine wp_f rfl rfl rfl ?_ | refine wp_getf rfl (by repeat' first | assumption | refine qset_ne rfl ?_ | refine qset_self (c0 := ?_) ?_ | refine qset_nf (by omega) ?_ | fail) rfl ?_ | refine wp_ast rfl rfl rfl rfl ?_ | refine wp_asN rfl rfl rfl rfl ?_ | refine wp_putf rfl (by repeat' first | assumption | refine qset_ne rfl ?_ | refine qset_self (c0 := ?_) ?_ | refine qset_nf (by omega) ?_ | fail) (by exact Nat.le_of_ble_eq_true rfl) rfl ?_ | refine wp_iald rfl (by repeat' first | assumption | refine qset_ne rfl ?_ | refine qset_self (c0 := ?_) ?_ | refine qset_nf (by omega) ?_ | fail) ?_ ?_ | refine wp_lald rfl (by repeat' first | assumption | refine qset_ne rfl ?_ | refine qset_self (c0 := ?_) ?_ | refine qset_nf (by omega) ?_ | fail) ?_ ?_ | refine wp_zald rfl (by repeat' first | assumption | refine qset_ne rfl ?_ | refine qset_self (c0 := ?_) ?_ | refine qset_nf (by omega) ?_ | fail) ?_ ?_ | refine wp_iast rfl (by repeat' first | assumption | refine qset_ne rfl ?_ | refine qset_self (c0 := ?_) ?_ | refine qset_nf (by omega) ?_ | fail) ?_ ?_ | refine wp_last rfl (by repeat' first | assumption | refine qset_ne rfl ?_ | refine qset_self (c0 := ?_) ?_ | refine qset_nf (by omega) ?_ | fail) ?_ ?_ | refine wp_alen rfl (by repeat' first | assumption | refine qset_ne rfl ?_ | refine qset_self (c0 := ?_) ?_ | refine qset_nf (by omega) ?_ | fail) rfl ?_ | refine wp_zast rfl (by repeat' first | assumption | refine qset_ne rfl ?_ | refine qset_self (c0 := ?_) ?_ | refine qset_nf (by omega) ?_ | fail) ?_ ?_ | refine wp_b rfl rfl (fun hc => absurd hc (by decide +kernel)) (fun _ => ?_) | refine wp_b rfl rfl (fun _ => ?_) (fun hc => absurd hc (by decide +kernel)) | refine wp_b rfl rfl (fun hc => ?_) (fun hc => ?_) | refine wp_v rfl rfl ?_ | refine ret_t ?_ | refine ret_f ?_ | fail
  have a1 := g1.at ha
  have b1 := g1.2.2.1
  have l1 := g1.1
  rw [hL] at b1 l1
  refine wp_Iu2 rfl rfl rfl (c_TypeList_init sc h1 (a := a + 1) (lim := 8) (by decide) b1) fun h2 ⟨q1, q2, q3⟩ => ?_
  rw [l1] at q1 q2
  have a2 := q3.at (by omega) a1
  refine wp_putf rfl a2 (by exact Nat.le_of_ble_eq_true rfl) rfl ?_
  have f3 : ∃ h3, h3 = h2.set a (.inr (0, List.set (qdef 0) 1 (.ref (a + 1)))) := ⟨_, rfl⟩
  obtain ⟨h3, e3⟩ := f3
  rw [← e3]
  have a3 : h3[a]? = some (.inr (0, [.int 0, .ref (a + 1), .null, .null, .null, .null, .null, .int 0])) := by rw [e3]; exact qset_self a2
  have b3 : h3[a + 1]? = some (.inr (8, [.ref (a + 1 + 1), .int (nI 0)])) := by rw [e3]; exact qset_nf (by omega) q1
  have c3 : h3[a + 1 + 1]? = some (.inl (1, 8, .inr (.inl fun _ => 0))) := by rw [e3]; exact qset_nf (by omega) q2
  have l3 : h3.length = a + 3 := by rw [e3, List.length_set, q3.1, l1]
  have n3 : Nw h h3 a 2 10 := ⟨by rw [l3, hL], fun p hp hpa => by rw [e3, List.getElem?_set_ne (by omega), q3.2.1 p (by omega) (by omega), g1.2.1 p hp], by rw [e3, qss_so a2, q3.2.2, g1.2.2.2]; rfl⟩
  clear e3 q1 q2 q3 a2 b1 l1 a1 g1
  refine wp_n rfl rfl ?_
  refine wp_newG rfl l3 fun h1 g1 => ?_
  have a1 := g1.at a3
  have b1 := g1.2.2.1
  have l1 := g1.1
  rw [l3] at b1 l1
  refine wp_n rfl rfl ?_
  refine wp_n rfl rfl ?_
  refine wp_Iu2 rfl rfl rfl (c_TypeList_init sc h1 (a := a + 3) (lim := 8) (by decide) b1) fun h2 ⟨q1, q2, q3⟩ => ?_
  rw [l1] at q1 q2
  have a2 := q3.at (by omega) a1
  refine wp_putf rfl a2 (by exact Nat.le_of_ble_eq_true rfl) rfl ?_
  have f4 : ∃ h4, h4 = h2.set a (.inr (0, List.set [.int 0, .ref (a + 1), .null, .null, .null, .null, .null, .int 0] 2 (.ref (a + 3)))) := ⟨_, rfl⟩
  obtain ⟨h4, e4⟩ := f4
  rw [← e4]
  have a4 : h4[a]? = some (.inr (0, [.int 0, .ref (a + 1), .ref (a + 3), .null, .null, .null, .null, .int 0])) := by rw [e4]; exact qset_self a2
  have b4 : h4[a + 1]? = some (.inr (8, [.ref (a + 1 + 1), .int (nI 0)])) := by rw [e4]; exact qset_nf (by omega) (q3.at (by omega) (g1.at b3))
  have c4 : h4[a + 1 + 1]? = some (.inl (1, 8, .inr (.inl fun _ => 0))) := by rw [e4]; exact qset_nf (by omega) (q3.at (by omega) (g1.at c3))
  have d4 : h4[a + 3]? = some (.inr (8, [.ref (a + 3 + 1), .int (nI 0)])) := by rw [e4]; exact qset_nf (by omega) q1
  have p4 : h4[a + 3 + 1]? = some (.inl (1, 8, .inr (.inl fun _ => 0))) := by rw [e4]; exact qset_nf (by omega) q2
  have l4 : h4.length = a + 5 := by rw [e4, List.length_set, q3.1, l1]
  have n4 : Nw h h4 a 4 20 := ⟨by rw [l4, hL], fun p hp hpa => by rw [e4, List.getElem?_set_ne (by omega), q3.2.1 p (by omega) (by omega), g1.2.1 p (by omega), n3.2.1 p hp hpa], by rw [e4, qss_so a2, q3.2.2, g1.2.2.2, n3.2.2]; rfl⟩
  clear e4 q1 q2 q3 a2 b1 l1 a1 g1 a3 b3 c3 l3 n3
  refine wp_n rfl rfl ?_
  refine wp_newG rfl l4 fun h1 g1 => ?_
  have a1 := g1.at a4
  have b1 := g1.2.2.1
  have l1 := g1.1
  rw [l4] at b1 l1
  refine wp_n rfl rfl ?_
  refine wp_n rfl rfl ?_
  refine wp_Iu2 rfl rfl rfl (c_TypeList_init sc h1 (a := a + 5) (lim := 32) (by decide) b1) fun h2 ⟨q1, q2, q3⟩ => ?_
  rw [l1] at q1 q2
  have a2 := q3.at (by omega) a1
  refine wp_putf rfl a2 (by exact Nat.le_of_ble_eq_true rfl) rfl ?_
  have f5 : ∃ h5, h5 = h2.set a (.inr (0, List.set [.int 0, .ref (a + 1), .ref (a + 3), .null, .null, .null, .null, .int 0] 3 (.ref (a + 5)))) := ⟨_, rfl⟩
  obtain ⟨h5, e5⟩ := f5
  rw [← e5]
  have a5 : h5[a]? = some (.inr (0, [.int 0, .ref (a + 1), .ref (a + 3), .ref (a + 5), .null, .null, .null, .int 0])) := by rw [e5]; exact qset_self a2
  have b5 : h5[a + 1]? = some (.inr (8, [.ref (a + 1 + 1), .int (nI 0)])) := by rw [e5]; exact qset_nf (by omega) (q3.at (by omega) (g1.at b4))
  have c5 : h5[a + 1 + 1]? = some (.inl (1, 8, .inr (.inl fun _ => 0))) := by rw [e5]; exact qset_nf (by omega) (q3.at (by omega) (g1.at c4))
  have d5 : h5[a + 3]? = some (.inr (8, [.ref (a + 3 + 1), .int (nI 0)])) := by rw [e5]; exact qset_nf (by omega) (q3.at (by omega) (g1.at d4))
  have p5 : h5[a + 3 + 1]? = some (.inl (1, 8, .inr (.inl fun _ => 0))) := by rw [e5]; exact qset_nf (by omega) (q3.at (by omega) (g1.at p4))
  have r5 : h5[a + 5]? = some (.inr (8, [.ref (a + 5 + 1), .int (nI 0)])) := by rw [e5]; exact qset_nf (by omega) q1
  have s5 : h5[a + 5 + 1]? = some (.inl (1, 32, .inr (.inl fun _ => 0))) := by rw [e5]; exact qset_nf (by omega) q2
  have l5 : h5.length = a + 7 := by rw [e5, List.length_set, q3.1, l1]
  have n5 : Nw h h5 a 6 54 := ⟨by rw [l5, hL], fun p hp hpa => by rw [e5, List.getElem?_set_ne (by omega), q3.2.1 p (by omega) (by omega), g1.2.1 p (by omega), n4.2.1 p hp hpa], by rw [e5, qss_so a2, q3.2.2, g1.2.2.2, n4.2.2]; rfl⟩
  clear e5 q1 q2 q3 a2 b1 l1 a1 g1 a4 b4 c4 d4 p4 l4 n4
  refine wp_n rfl rfl ?_
  refine wp_n rfl rfl ?_
  refine wp_arrG rfl rfl (by decide) l5 fun h1 g1 => ?_
  have x1 : h1[a + 7]? = some (.inl (0, 256, .inl fun _ => 0)) := l5 ▸ g1.2.2.1
  have l6 : h1.length = a + 8 := by rw [g1.1, l5]
  refine wp_putf rfl (g1.at a5) (by exact Nat.le_of_ble_eq_true rfl) rfl ?_
  refine wp_n rfl rfl ?_
  refine wp_n rfl rfl ?_
  refine wp_arrG (L := a + 8) rfl rfl (by decide) (by rw [List.length_set]; exact l6) fun h2 g2 => ?_
  have x2 : h2[a + 8]? = some (.inl (0, 256, .inl fun _ => 0)) := by have := g2.2.2.1; rw [List.length_set, l6] at this; exact this
  have l7 : h2.length = a + 9 := by rw [g2.1, List.length_set, l6]
  refine wp_putf rfl (g2.at (qset_self (g1.at a5))) (by exact Nat.le_of_ble_eq_true rfl) rfl ?_
  refine wp_n rfl rfl ?_
  refine wp_n rfl rfl ?_
  refine wp_arrG (L := a + 9) rfl rfl (by decide) (by rw [List.length_set]; exact l7) fun h3 g3 => ?_
  have x3 : h3[a + 9]? = some (.inl (0, 256, .inl fun _ => 0)) := by have := g3.2.2.1; rw [List.length_set, l7] at this; exact this
  have l8 : h3.length = a + 10 := by rw [g3.1, List.length_set, l7]
  have z := g3.at (qset_self (c := .inr (0, List.set (List.set [.int 0, .ref (a + 1), .ref (a + 3), .ref (a + 5), .null, .null, .null, .int 0] 4 (.ref (a + 7))) 5 (.ref (a + 8)))) (g2.at (qset_self (c := .inr (0, List.set [.int 0, .ref (a + 1), .ref (a + 3), .ref (a + 5), .null, .null, .null, .int 0] 4 (.ref (a + 7)))) (g1.at a5))))
  refine wp_putf rfl z (by exact Nat.le_of_ble_eq_true rfl) rfl ?_
  refine wp_n rfl rfl ?_
  refine wp_n rfl rfl ?_
  refine wp_putf rfl (qset_self z) (by exact Nat.le_of_ble_eq_true rfl) rfl ?_
  have up : ∀ {p : Nat} {c : qC}, p ≠ a → h5[p]? = some c → h3[p]? = some c := fun hp hc => g3.at (qset_nf (by omega) (g2.at (qset_nf (by omega) (g1.at hc))))
  have u1 := up (by omega) b5
  have u2 := up (by omega) c5
  have u3 := up (by omega) d5
  have u4 := up (by omega) p5
  have u5 := up (by omega) r5
  have u6 := up (by omega) s5
  have u7 : h3[a + 7]? = some (.inl (0, 256, .inl fun _ => 0)) := g3.at (qset_nf (by omega) (g2.at (qset_nf (by omega) x1)))
  have u8 : h3[a + 8]? = some (.inl (0, 256, .inl fun _ => 0)) := g3.at (qset_nf (by omega) x2)
  repeat' first | refine wp_ist rfl rfl rfl rfl ?_ | refine wp_lst rfl rfl rfl rfl ?_ | refine wp_iinc rfl rfl rfl rfl ?_ | refine wp_f rfl rfl rfl ?_ | refine wp_getf rfl (by repeat' first | assumption | refine qset_ne rfl ?_ | refine qset_self (c0 := ?_) ?_ | refine qset_nf (by omega) ?_ | fail) rfl ?_ | refine wp_ast rfl rfl rfl rfl ?_ | refine wp_asN rfl rfl rfl rfl ?_ | refine wp_putf rfl (by repeat' first | assumption | refine qset_ne rfl ?_ | refine qset_self (c0 := ?_) ?_ | refine qset_nf (by omega) ?_ | fail) (by exact Nat.le_of_ble_eq_true rfl) rfl ?_ | refine wp_iald rfl (by repeat' first | assumption | refine qset_ne rfl ?_ | refine qset_self (c0 := ?_) ?_ | refine qset_nf (by omega) ?_ | fail) ?_ ?_ | refine wp_lald rfl (by repeat' first | assumption | refine qset_ne rfl ?_ | refine qset_self (c0 := ?_) ?_ | refine qset_nf (by omega) ?_ | fail) ?_ ?_ | refine wp_zald rfl (by repeat' first | assumption | refine qset_ne rfl ?_ | refine qset_self (c0 := ?_) ?_ | refine qset_nf (by omega) ?_ | fail) ?_ ?_ | refine wp_iast rfl (by repeat' first | assumption | refine qset_ne rfl ?_ | refine qset_self (c0 := ?_) ?_ | refine qset_nf (by omega) ?_ | fail) ?_ ?_ | refine wp_last rfl (by repeat' first | assumption | refine qset_ne rfl ?_ | refine qset_self (c0 := ?_) ?_ | refine qset_nf (by omega) ?_ | fail) ?_ ?_ | refine wp_alen rfl (by repeat' first | assumption | refine qset_ne rfl ?_ | refine qset_self (c0 := ?_) ?_ | refine qset_nf (by omega) ?_ | fail) rfl ?_ | refine wp_zast rfl (by repeat' first | assumption | refine qset_ne rfl ?_ | refine qset_self (c0 := ?_) ?_ | refine qset_nf (by omega) ?_ | fail) ?_ ?_ | refine wp_b rfl rfl (fun hc => absurd hc (by decide +kernel)) (fun _ => ?_) | refine wp_b rfl rfl (fun _ => ?_) (fun hc => absurd hc (by decide +kernel)) | refine wp_b rfl rfl (fun hc => ?_) (fun hc => ?_) | refine wp_v rfl rfl ?_ | refine ret_t ?_ | refine ret_f ?_ | fail
  refine ⟨⟨fun _ => 0, fun _ => 0, fun _ => 0, qset_self (qset_self z), ⟨fun _ => 0, qset_nf (by omega) (qset_nf (by omega) u1), qset_nf (by omega) (qset_nf (by omega) u2), Nat.zero_le _, by decide, fun i n hi => by cases hi⟩, ⟨fun _ => 0, qset_nf (by omega) (qset_nf (by omega) u3), qset_nf (by omega) (qset_nf (by omega) u4), Nat.zero_le _, by decide, fun i n hi => by cases hi⟩, ⟨fun _ => 0, qset_nf (by omega) (qset_nf (by omega) u5), qset_nf (by omega) (qset_nf (by omega) u6), Nat.zero_le _, by decide, fun i n hi => by cases hi⟩,
    qset_nf (by omega) (qset_nf (by omega) u7), qset_nf (by omega) (qset_nf (by omega) u8), qset_nf (by omega) (qset_nf (by omega) x3), hfl, Nat.zero_le _, fun i q hq => by cases hq⟩, ?_, fun p hp hpa => ?_, ?_⟩
  · rw [List.length_set, List.length_set, l8, hL]
  · rw [List.getElem?_set_ne (by omega), List.getElem?_set_ne (by omega), g3.2.1 p (by rw [List.length_set]; omega), List.getElem?_set_ne (by omega), g2.2.1 p (by rw [List.length_set]; omega), List.getElem?_set_ne (by omega), g1.2.1 p (by omega), n5.2.1 p hp hpa]
  · rw [qss_so (qset_self z), qss_so z, g3.2.2.2, qss_so (g2.at (qset_self (g1.at a5))), g2.2.2.2, qss_so (g1.at a5), g1.2.2.2, n5.2.2]
    rfl
end NC
