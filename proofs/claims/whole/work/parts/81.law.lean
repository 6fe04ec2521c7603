/-! The law: a call of each method. -/
set_option maxHeartbeats 4000000 in
theorem RTab.sm {h h' : qH} {th : Nat → Int32} {po : Nat → Int64} {wi : Nat → Int32} (H : RTab h th po wi) (s : ∀ p, 21 ≤ p → p < 49 → h'[p]? = h[p]?) : RTab h' th po wi := ⟨by rw [s _ (by decide) (by decide)]; exact H.1, by rw [s _ (by decide) (by decide)]; exact H.2.1, by rw [s _ (by decide) (by decide)]; exact H.2.2⟩
set_option maxHeartbeats 4000000 in
theorem RfB.sm {h h' : qH} {E : QE} {sn fd : Int32} (H : RfB h E sn fd) (s : ∀ p, 21 ≤ p → p < 49 → h'[p]? = h[p]?) : RfB h' E sn fd := by
  obtain ⟨⟨f, n, w, tv, e21⟩, L, V, ⟨ty, og, is, k1, k2, k3⟩, ⟨th, po, wi, l1, l2, l3⟩, ⟨cm, ht, th2, po2, wi2, t1, t2, t3⟩, led, d1⟩ := H
  exact ⟨⟨f, n, w, tv, by rw [s _ (by decide) (by decide)]; exact e21⟩, L.sm fun p h1 h2 => s p (by omega) (by omega), V, ⟨ty, og, is, by rw [s _ (by decide) (by decide)]; exact k1, by rw [s _ (by decide) (by decide)]; exact k2, by rw [s _ (by decide) (by decide)]; exact k3⟩, ⟨th, po, wi, by rw [s _ (by decide) (by decide)]; exact l1, by rw [s _ (by decide) (by decide)]; exact l2, by rw [s _ (by decide) (by decide)]; exact l3⟩, ⟨cm, ht, th2, po2, wi2, by rw [s _ (by decide) (by decide)]; exact t1, by rw [s _ (by decide) (by decide)]; exact t2, t3.sm s⟩, led, by rw [s _ (by decide) (by decide)]; exact d1⟩
set_option maxHeartbeats 4000000 in
theorem RfAt.sm {h h' : qH} {T : QT} (H : RfAt h T) (s : ∀ p, 21 ≤ p → p < 49 → h'[p]? = h[p]?) : RfAt h' T := ⟨H.1.sm s, fun g S hg => ⟨(H.2 g S hg).1, (H.2 g S hg).2.at fun p h1 h2 => s p (by omega) (by omega)⟩⟩
/-- behind k calls -/
def LW (h : qH) (T : QT) (k : Nat) : Prop := (∃ sa fa, ClAt h sa fa T) ∧ RfAt h T ∧ TV T ∧ h.length ≤ 49 + 10 * k ∧ qss h ≤ 100000 + 900 * k
set_option maxHeartbeats 4000000 in
theorem LW.same {h : qH} {T : QT} {k : Nat} (H : LW h T k) : LW h T (k + 1) := ⟨H.1, H.2.1, H.2.2.1, by have := H.2.2.2.1; omega, by have := H.2.2.2.2; omega⟩
set_option maxHeartbeats 4000000 in
theorem LW.two {h h1 h2 : qH} {T T' : QT} {k : Nat} {sa fa : Nat → Nat} (H : LW h T k) (C : ClAt h1 sa fa T') (F : CFr h h1) (R : RfAt h2 T') (x : qfR h1 h2) (V : TV T') : LW h2 T' (k + 1) := by
  obtain ⟨_, _, _, b1, b2⟩ := H
  obtain ⟨_, f1, f2, f3⟩ := F
  exact ⟨⟨sa, fa, C.fr x.1 x.2.2⟩, R, V, by have e := x.1; omega, by have e := x.2.1; omega⟩
set_option maxHeartbeats 4000000 in
theorem RfAt.ob {h : qH} {T : QT} (H : RfAt h T) : ∃ fs, h[21]? = some (.inr (10, fs)) := by
  obtain ⟨⟨⟨f, n, w, tv, e21⟩, _⟩, _⟩ := H
  exact ⟨_, e21⟩
section LWS
variable {L : Nat} {xs : Nat → Int32} {k : Nat} {h : qH} {T : QT} {Q : Option Value → qH → Prop}
set_option maxHeartbeats 4000000 in
theorem wp_sald {pc nx t1 t2 : Nat} {ls : qL} {st : List Value} {j : Int32} (hi : qins m_L_law pc = some (.iaload, nx, t1, t2)) (hj : qin j L = true) (hw : wp (L, xs) (m_L_law, nx, ls, .int (xs j.toNatClampNeg) :: st, h) Q) : wp (L, xs) (m_L_law, pc, ls, .int j :: .float 0 :: st, h) Q := by
  refine wp_g hi ?_ hj hw
  rfl
set_option maxHeartbeats 4000000 in
theorem eq_yes (x : Int32) : qcc2 .eq x x = true := by unfold qcc2; exact decide_eq_true rfl
set_option maxHeartbeats 4000000 in
theorem l_eq_yes (x : Int64) : qcc1 .eq (lg_cmp x x) = true := by rw [lg_eq]; exact decide_eq_true rfl

set_option maxHeartbeats 4000000 in
theorem lw_0 (W : LW h T k) (q1 : qin (nI (4 * k) + nI 1) L = true) (q2 : qin (nI (4 * k) + nI 2) L = true) (q3 : qin (nI (4 * k) + nI 3) L = true) (nx : ∀ h2 T2, LW h2 T2 (k + 1) → wp (L, xs) (m_L_law, 560, [(3, .int (nI (4 * k))), (2, .ref 21), (1, .ref 0), (0, .float 0)], [], h2) Q) : wp (L, xs) (m_L_law, 100, [(3, .int (nI (4 * k))), (2, .ref 21), (1, .ref 0), (0, .float 0)], [], h) Q := by
  obtain ⟨⟨sa, fa, C⟩, R, V, b1, b2⟩ := id W
  have e0 := C.2.2.2.2.1
  refine wp_f rfl rfl rfl ?_
  refine wp_f rfl rfl rfl ?_
  refine wp_f rfl rfl rfl ?_
  refine wp_f rfl rfl rfl ?_
  refine wp_f rfl rfl rfl ?_
  refine wp_sald rfl q1 ?_
  refine wp_Vi rfl rfl (by ((repeat' first | assumption | refine qset_ne rfl ?_ | refine qset_self (c0 := ?_) ?_ | refine qset_nf (by omega) ?_ | fail); done)) rfl (c_AC_structure (L, xs) h C _) (fun r1 h1 P1 => ?_)
  obtain ⟨rfl, ⟨sa1, fa1, C1⟩, F1⟩ := P1
  have R1 := R.sm F1.1
  obtain ⟨fs, e21⟩ := R1.ob
  refine wp_f rfl rfl rfl ?_
  refine wp_f rfl rfl rfl ?_
  refine wp_f rfl rfl rfl ?_
  refine wp_f rfl rfl rfl ?_
  refine wp_f rfl rfl rfl ?_
  refine wp_sald rfl q1 ?_
  refine wp_Vi rfl rfl (by ((repeat' first | assumption | refine qset_ne rfl ?_ | refine qset_self (c0 := ?_) ?_ | refine qset_nf (by omega) ?_ | fail); done)) rfl (c_R_structure (L, xs) h1 V R1 _) (fun r2 h2 P2 => ?_)
  obtain ⟨rfl, R2, F2⟩ := P2
  refine wp_b rfl rfl (fun _ => ?_) (fun hc => absurd ((eq_yes _).symm.trans hc) (by decide))
  exact nx _ _ (LW.two W C1 F1 R2 F2 (V.struct _))
set_option maxHeartbeats 4000000 in
theorem lw_1 (W : LW h T k) (q1 : qin (nI (4 * k) + nI 1) L = true) (q2 : qin (nI (4 * k) + nI 2) L = true) (q3 : qin (nI (4 * k) + nI 3) L = true) (nx : ∀ h2 T2, LW h2 T2 (k + 1) → wp (L, xs) (m_L_law, 560, [(3, .int (nI (4 * k))), (2, .ref 21), (1, .ref 0), (0, .float 0)], [], h2) Q) : wp (L, xs) (m_L_law, 123, [(3, .int (nI (4 * k))), (2, .ref 21), (1, .ref 0), (0, .float 0)], [], h) Q := by
  obtain ⟨⟨sa, fa, C⟩, R, V, b1, b2⟩ := id W
  have e0 := C.2.2.2.2.1
  refine wp_f rfl rfl rfl ?_
  refine wp_f rfl rfl rfl ?_
  refine wp_f rfl rfl rfl ?_
  refine wp_f rfl rfl rfl ?_
  refine wp_f rfl rfl rfl ?_
  refine wp_sald rfl q1 ?_
  refine wp_f rfl rfl rfl ?_
  refine wp_f rfl rfl rfl ?_
  refine wp_f rfl rfl rfl ?_
  refine wp_f rfl rfl rfl ?_
  refine wp_f rfl rfl rfl ?_
  refine wp_f rfl rfl rfl ?_
  refine wp_f rfl rfl rfl ?_
  refine wp_sald rfl q2 ?_
  refine wp_f rfl rfl rfl ?_
  refine wp_f rfl rfl rfl ?_
  refine wp_f rfl rfl rfl ?_
  refine wp_f rfl rfl rfl ?_
  refine wp_Vi rfl rfl (by ((repeat' first | assumption | refine qset_ne rfl ?_ | refine qset_self (c0 := ?_) ?_ | refine qset_nf (by omega) ?_ | fail); done)) rfl (c_AC_field (L, xs) h V C _) (fun r1 h1 P1 => ?_)
  obtain ⟨rfl, ⟨sa1, fa1, C1⟩, F1⟩ := P1
  have R1 := R.sm F1.1
  obtain ⟨fs, e21⟩ := R1.ob
  refine wp_f rfl rfl rfl ?_
  refine wp_f rfl rfl rfl ?_
  refine wp_f rfl rfl rfl ?_
  refine wp_f rfl rfl rfl ?_
  refine wp_f rfl rfl rfl ?_
  refine wp_sald rfl q1 ?_
  refine wp_f rfl rfl rfl ?_
  refine wp_f rfl rfl rfl ?_
  refine wp_f rfl rfl rfl ?_
  refine wp_f rfl rfl rfl ?_
  refine wp_f rfl rfl rfl ?_
  refine wp_f rfl rfl rfl ?_
  refine wp_f rfl rfl rfl ?_
  refine wp_sald rfl q2 ?_
  refine wp_f rfl rfl rfl ?_
  refine wp_f rfl rfl rfl ?_
  refine wp_f rfl rfl rfl ?_
  refine wp_f rfl rfl rfl ?_
  refine wp_Vi rfl rfl (by ((repeat' first | assumption | refine qset_ne rfl ?_ | refine qset_self (c0 := ?_) ?_ | refine qset_nf (by omega) ?_ | fail); done)) rfl (c_R_field (L, xs) h1 V R1 _) (fun r2 h2 P2 => ?_)
  obtain ⟨rfl, R2, F2⟩ := P2
  refine wp_b rfl rfl (fun _ => ?_) (fun hc => absurd ((eq_yes _).symm.trans hc) (by decide))
  exact nx _ _ (LW.two W C1 F1 R2 F2 (V.field _))
set_option maxHeartbeats 4000000 in
theorem lw_2 (W : LW h T k) (q1 : qin (nI (4 * k) + nI 1) L = true) (q2 : qin (nI (4 * k) + nI 2) L = true) (q3 : qin (nI (4 * k) + nI 3) L = true) (nx : ∀ h2 T2, LW h2 T2 (k + 1) → wp (L, xs) (m_L_law, 560, [(3, .int (nI (4 * k))), (2, .ref 21), (1, .ref 0), (0, .float 0)], [], h2) Q) : wp (L, xs) (m_L_law, 176, [(3, .int (nI (4 * k))), (2, .ref 21), (1, .ref 0), (0, .float 0)], [], h) Q := by
  obtain ⟨⟨sa, fa, C⟩, R, V, b1, b2⟩ := id W
  have e0 := C.2.2.2.2.1
  obtain ⟨fs, e21⟩ := R.ob
  refine wp_f rfl rfl rfl ?_
  refine wp_f rfl rfl rfl ?_
  refine wp_f rfl rfl rfl ?_
  refine wp_f rfl rfl rfl ?_
  refine wp_f rfl rfl rfl ?_
  refine wp_sald rfl q1 ?_
  refine wp_f rfl rfl rfl ?_
  refine wp_f rfl rfl rfl ?_
  refine wp_f rfl rfl rfl ?_
  refine wp_f rfl rfl rfl ?_
  refine wp_f rfl rfl rfl ?_
  refine wp_f rfl rfl rfl ?_
  refine wp_f rfl rfl rfl ?_
  refine wp_sald rfl q2 ?_
  refine wp_f rfl rfl rfl ?_
  refine wp_f rfl rfl rfl ?_
  refine wp_f rfl rfl rfl ?_
  refine wp_f rfl rfl rfl ?_
  refine wp_Vip rfl rfl (by ((repeat' first | assumption | refine qset_ne rfl ?_ | refine qset_self (c0 := ?_) ?_ | refine qset_nf (by omega) ?_ | fail); done)) rfl (c_AC_abilities (L, xs) h C _) ?_
  refine wp_f rfl rfl rfl ?_
  refine wp_f rfl rfl rfl ?_
  refine wp_f rfl rfl rfl ?_
  refine wp_f rfl rfl rfl ?_
  refine wp_f rfl rfl rfl ?_
  refine wp_sald rfl q1 ?_
  refine wp_f rfl rfl rfl ?_
  refine wp_f rfl rfl rfl ?_
  refine wp_f rfl rfl rfl ?_
  refine wp_f rfl rfl rfl ?_
  refine wp_f rfl rfl rfl ?_
  refine wp_f rfl rfl rfl ?_
  refine wp_f rfl rfl rfl ?_
  refine wp_sald rfl q2 ?_
  refine wp_f rfl rfl rfl ?_
  refine wp_f rfl rfl rfl ?_
  refine wp_f rfl rfl rfl ?_
  refine wp_f rfl rfl rfl ?_
  refine wp_Vip rfl rfl (by ((repeat' first | assumption | refine qset_ne rfl ?_ | refine qset_self (c0 := ?_) ?_ | refine qset_nf (by omega) ?_ | fail); done)) rfl (c_R_abilities (L, xs) h V R _) ?_
  refine wp_b rfl rfl (fun _ => ?_) (fun hc => absurd ((eq_yes _).symm.trans hc) (by decide))
  exact nx _ _ W.same
set_option maxHeartbeats 4000000 in
theorem lw_3 (W : LW h T k) (q1 : qin (nI (4 * k) + nI 1) L = true) (q2 : qin (nI (4 * k) + nI 2) L = true) (q3 : qin (nI (4 * k) + nI 3) L = true) (nx : ∀ h2 T2, LW h2 T2 (k + 1) → wp (L, xs) (m_L_law, 560, [(3, .int (nI (4 * k))), (2, .ref 21), (1, .ref 0), (0, .float 0)], [], h2) Q) : wp (L, xs) (m_L_law, 229, [(3, .int (nI (4 * k))), (2, .ref 21), (1, .ref 0), (0, .float 0)], [], h) Q := by
  obtain ⟨⟨sa, fa, C⟩, R, V, b1, b2⟩ := id W
  have e0 := C.2.2.2.2.1
  obtain ⟨fs, e21⟩ := R.ob
  refine wp_f rfl rfl rfl ?_
  refine wp_f rfl rfl rfl ?_
  refine wp_f rfl rfl rfl ?_
  refine wp_f rfl rfl rfl ?_
  refine wp_f rfl rfl rfl ?_
  refine wp_sald rfl q1 ?_
  refine wp_Vip rfl rfl (by ((repeat' first | assumption | refine qset_ne rfl ?_ | refine qset_self (c0 := ?_) ?_ | refine qset_nf (by omega) ?_ | fail); done)) rfl (c_AC_bears (L, xs) h V C _) ?_
  refine wp_f rfl rfl rfl ?_
  refine wp_f rfl rfl rfl ?_
  refine wp_f rfl rfl rfl ?_
  refine wp_f rfl rfl rfl ?_
  refine wp_f rfl rfl rfl ?_
  refine wp_sald rfl q1 ?_
  refine wp_Vip rfl rfl (by ((repeat' first | assumption | refine qset_ne rfl ?_ | refine qset_self (c0 := ?_) ?_ | refine qset_nf (by omega) ?_ | fail); done)) rfl (c_R_bears (L, xs) h V R _) ?_
  refine wp_b rfl rfl (fun _ => ?_) (fun hc => absurd ((eq_yes _).symm.trans hc) (by decide))
  exact nx _ _ W.same
set_option maxHeartbeats 4000000 in
theorem lw_4 (W : LW h T k) (q1 : qin (nI (4 * k) + nI 1) L = true) (q2 : qin (nI (4 * k) + nI 2) L = true) (q3 : qin (nI (4 * k) + nI 3) L = true) (nx : ∀ h2 T2, LW h2 T2 (k + 1) → wp (L, xs) (m_L_law, 560, [(3, .int (nI (4 * k))), (2, .ref 21), (1, .ref 0), (0, .float 0)], [], h2) Q) : wp (L, xs) (m_L_law, 252, [(3, .int (nI (4 * k))), (2, .ref 21), (1, .ref 0), (0, .float 0)], [], h) Q := by
  obtain ⟨⟨sa, fa, C⟩, R, V, b1, b2⟩ := id W
  have e0 := C.2.2.2.2.1
  refine wp_f rfl rfl rfl ?_
  refine wp_f rfl rfl rfl ?_
  refine wp_f rfl rfl rfl ?_
  refine wp_f rfl rfl rfl ?_
  refine wp_f rfl rfl rfl ?_
  refine wp_sald rfl q1 ?_
  refine wp_f rfl rfl rfl ?_
  refine wp_f rfl rfl rfl ?_
  refine wp_f rfl rfl rfl ?_
  refine wp_f rfl rfl rfl ?_
  refine wp_f rfl rfl rfl ?_
  refine wp_f rfl rfl rfl ?_
  refine wp_f rfl rfl rfl ?_
  refine wp_sald rfl q2 ?_
  refine wp_f rfl rfl rfl ?_
  refine wp_f rfl rfl rfl ?_
  refine wp_f rfl rfl rfl ?_
  refine wp_f rfl rfl rfl ?_
  refine wp_Vi rfl rfl (by ((repeat' first | assumption | refine qset_ne rfl ?_ | refine qset_self (c0 := ?_) ?_ | refine qset_nf (by omega) ?_ | fail); done)) rfl (c_AC_element (L, xs) h C _) (fun r1 h1 P1 => ?_)
  obtain ⟨rfl, ⟨sa1, fa1, C1⟩, F1⟩ := P1
  have R1 := R.sm F1.1
  obtain ⟨fs, e21⟩ := R1.ob
  refine wp_f rfl rfl rfl ?_
  refine wp_f rfl rfl rfl ?_
  refine wp_f rfl rfl rfl ?_
  refine wp_f rfl rfl rfl ?_
  refine wp_f rfl rfl rfl ?_
  refine wp_sald rfl q1 ?_
  refine wp_f rfl rfl rfl ?_
  refine wp_f rfl rfl rfl ?_
  refine wp_f rfl rfl rfl ?_
  refine wp_f rfl rfl rfl ?_
  refine wp_f rfl rfl rfl ?_
  refine wp_f rfl rfl rfl ?_
  refine wp_f rfl rfl rfl ?_
  refine wp_sald rfl q2 ?_
  refine wp_f rfl rfl rfl ?_
  refine wp_f rfl rfl rfl ?_
  refine wp_f rfl rfl rfl ?_
  refine wp_f rfl rfl rfl ?_
  refine wp_Vi rfl rfl (by ((repeat' first | assumption | refine qset_ne rfl ?_ | refine qset_self (c0 := ?_) ?_ | refine qset_nf (by omega) ?_ | fail); done)) rfl (c_R_element (L, xs) h1 V R1 _) (fun r2 h2 P2 => ?_)
  obtain ⟨rfl, R2, F2⟩ := P2
  refine wp_b rfl rfl (fun _ => ?_) (fun hc => absurd ((eq_yes _).symm.trans hc) (by decide))
  exact nx _ _ (LW.two W C1 F1 R2 F2 (V.element _))
set_option maxHeartbeats 4000000 in
theorem lw_5 (W : LW h T k) (q1 : qin (nI (4 * k) + nI 1) L = true) (q2 : qin (nI (4 * k) + nI 2) L = true) (q3 : qin (nI (4 * k) + nI 3) L = true) (nx : ∀ h2 T2, LW h2 T2 (k + 1) → wp (L, xs) (m_L_law, 560, [(3, .int (nI (4 * k))), (2, .ref 21), (1, .ref 0), (0, .float 0)], [], h2) Q) : wp (L, xs) (m_L_law, 305, [(3, .int (nI (4 * k))), (2, .ref 21), (1, .ref 0), (0, .float 0)], [], h) Q := by
  obtain ⟨⟨sa, fa, C⟩, R, V, b1, b2⟩ := id W
  have e0 := C.2.2.2.2.1
  refine wp_f rfl rfl rfl ?_
  refine wp_f rfl rfl rfl ?_
  refine wp_f rfl rfl rfl ?_
  refine wp_f rfl rfl rfl ?_
  refine wp_f rfl rfl rfl ?_
  refine wp_sald rfl q1 ?_
  refine wp_Vi rfl rfl (by ((repeat' first | assumption | refine qset_ne rfl ?_ | refine qset_self (c0 := ?_) ?_ | refine qset_nf (by omega) ?_ | fail); done)) rfl (c_AC_function (L, xs) h V C _) (fun r1 h1 P1 => ?_)
  obtain ⟨rfl, ⟨sa1, fa1, C1⟩, F1⟩ := P1
  have R1 := R.sm F1.1
  obtain ⟨fs, e21⟩ := R1.ob
  refine wp_f rfl rfl rfl ?_
  refine wp_f rfl rfl rfl ?_
  refine wp_f rfl rfl rfl ?_
  refine wp_f rfl rfl rfl ?_
  refine wp_f rfl rfl rfl ?_
  refine wp_sald rfl q1 ?_
  refine wp_Vi rfl rfl (by ((repeat' first | assumption | refine qset_ne rfl ?_ | refine qset_self (c0 := ?_) ?_ | refine qset_nf (by omega) ?_ | fail); done)) rfl (c_R_function (L, xs) h1 V R1 _) (fun r2 h2 P2 => ?_)
  obtain ⟨rfl, R2, F2⟩ := P2
  refine wp_b rfl rfl (fun _ => ?_) (fun hc => absurd ((eq_yes _).symm.trans hc) (by decide))
  exact nx _ _ (LW.two W C1 F1 R2 F2 (V.function _))
set_option maxHeartbeats 4000000 in
theorem lw_6 (W : LW h T k) (q1 : qin (nI (4 * k) + nI 1) L = true) (q2 : qin (nI (4 * k) + nI 2) L = true) (q3 : qin (nI (4 * k) + nI 3) L = true) (nx : ∀ h2 T2, LW h2 T2 (k + 1) → wp (L, xs) (m_L_law, 560, [(3, .int (nI (4 * k))), (2, .ref 21), (1, .ref 0), (0, .float 0)], [], h2) Q) : wp (L, xs) (m_L_law, 328, [(3, .int (nI (4 * k))), (2, .ref 21), (1, .ref 0), (0, .float 0)], [], h) Q := by
  obtain ⟨⟨sa, fa, C⟩, R, V, b1, b2⟩ := id W
  have e0 := C.2.2.2.2.1
  refine wp_f rfl rfl rfl ?_
  refine wp_f rfl rfl rfl ?_
  refine wp_f rfl rfl rfl ?_
  refine wp_f rfl rfl rfl ?_
  refine wp_f rfl rfl rfl ?_
  refine wp_sald rfl q1 ?_
  refine wp_f rfl rfl rfl ?_
  refine wp_f rfl rfl rfl ?_
  refine wp_f rfl rfl rfl ?_
  refine wp_f rfl rfl rfl ?_
  refine wp_sald rfl q2 ?_
  refine wp_f rfl rfl rfl ?_
  refine wp_f rfl rfl rfl ?_
  refine wp_f rfl rfl rfl ?_
  refine wp_f rfl rfl rfl ?_
  refine wp_f rfl rfl rfl ?_
  refine wp_f rfl rfl rfl ?_
  refine wp_f rfl rfl rfl ?_
  refine wp_sald rfl q3 ?_
  refine wp_f rfl rfl rfl ?_
  refine wp_f rfl rfl rfl ?_
  refine wp_f rfl rfl rfl ?_
  refine wp_f rfl rfl rfl ?_
  refine wp_Vi rfl rfl (by ((repeat' first | assumption | refine qset_ne rfl ?_ | refine qset_self (c0 := ?_) ?_ | refine qset_nf (by omega) ?_ | fail); done)) rfl (c_AC_list (L, xs) h V C _ _) (fun r1 h1 P1 => ?_)
  obtain ⟨rfl, ⟨sa1, fa1, C1⟩, F1⟩ := P1
  have R1 := R.sm F1.1
  obtain ⟨fs, e21⟩ := R1.ob
  refine wp_f rfl rfl rfl ?_
  refine wp_f rfl rfl rfl ?_
  refine wp_f rfl rfl rfl ?_
  refine wp_f rfl rfl rfl ?_
  refine wp_f rfl rfl rfl ?_
  refine wp_sald rfl q1 ?_
  refine wp_f rfl rfl rfl ?_
  refine wp_f rfl rfl rfl ?_
  refine wp_f rfl rfl rfl ?_
  refine wp_f rfl rfl rfl ?_
  refine wp_sald rfl q2 ?_
  refine wp_f rfl rfl rfl ?_
  refine wp_f rfl rfl rfl ?_
  refine wp_f rfl rfl rfl ?_
  refine wp_f rfl rfl rfl ?_
  refine wp_f rfl rfl rfl ?_
  refine wp_f rfl rfl rfl ?_
  refine wp_f rfl rfl rfl ?_
  refine wp_sald rfl q3 ?_
  refine wp_f rfl rfl rfl ?_
  refine wp_f rfl rfl rfl ?_
  refine wp_f rfl rfl rfl ?_
  refine wp_f rfl rfl rfl ?_
  refine wp_Vi rfl rfl (by ((repeat' first | assumption | refine qset_ne rfl ?_ | refine qset_self (c0 := ?_) ?_ | refine qset_nf (by omega) ?_ | fail); done)) rfl (c_R_list (L, xs) h1 V R1 _ _) (fun r2 h2 P2 => ?_)
  obtain ⟨rfl, R2, F2⟩ := P2
  refine wp_b rfl rfl (fun _ => ?_) (fun hc => absurd ((eq_yes _).symm.trans hc) (by decide))
  exact nx _ _ (LW.two W C1 F1 R2 F2 (V.list _ _))
set_option maxHeartbeats 4000000 in
theorem lw_7 (W : LW h T k) (q1 : qin (nI (4 * k) + nI 1) L = true) (q2 : qin (nI (4 * k) + nI 2) L = true) (q3 : qin (nI (4 * k) + nI 3) L = true) (nx : ∀ h2 T2, LW h2 T2 (k + 1) → wp (L, xs) (m_L_law, 560, [(3, .int (nI (4 * k))), (2, .ref 21), (1, .ref 0), (0, .float 0)], [], h2) Q) : wp (L, xs) (m_L_law, 391, [(3, .int (nI (4 * k))), (2, .ref 21), (1, .ref 0), (0, .float 0)], [], h) Q := by
  obtain ⟨⟨sa, fa, C⟩, R, V, b1, b2⟩ := id W
  have e0 := C.2.2.2.2.1
  refine wp_f rfl rfl rfl ?_
  refine wp_f rfl rfl rfl ?_
  refine wp_f rfl rfl rfl ?_
  refine wp_f rfl rfl rfl ?_
  refine wp_f rfl rfl rfl ?_
  refine wp_sald rfl q1 ?_
  refine wp_f rfl rfl rfl ?_
  refine wp_f rfl rfl rfl ?_
  refine wp_f rfl rfl rfl ?_
  refine wp_f rfl rfl rfl ?_
  refine wp_sald rfl q2 ?_
  refine wp_f rfl rfl rfl ?_
  refine wp_f rfl rfl rfl ?_
  refine wp_f rfl rfl rfl ?_
  refine wp_f rfl rfl rfl ?_
  refine wp_sald rfl q3 ?_
  refine wp_Vi rfl rfl (by ((repeat' first | assumption | refine qset_ne rfl ?_ | refine qset_self (c0 := ?_) ?_ | refine qset_nf (by omega) ?_ | fail); done)) rfl (c_AC_instruction (L, xs) h V C _ _ _) (fun r1 h1 P1 => ?_)
  obtain ⟨rfl, ⟨sa1, fa1, C1⟩, F1⟩ := P1
  have R1 := R.sm F1.1
  obtain ⟨fs, e21⟩ := R1.ob
  refine wp_f rfl rfl rfl ?_
  refine wp_f rfl rfl rfl ?_
  refine wp_f rfl rfl rfl ?_
  refine wp_f rfl rfl rfl ?_
  refine wp_f rfl rfl rfl ?_
  refine wp_sald rfl q1 ?_
  refine wp_f rfl rfl rfl ?_
  refine wp_f rfl rfl rfl ?_
  refine wp_f rfl rfl rfl ?_
  refine wp_f rfl rfl rfl ?_
  refine wp_sald rfl q2 ?_
  refine wp_f rfl rfl rfl ?_
  refine wp_f rfl rfl rfl ?_
  refine wp_f rfl rfl rfl ?_
  refine wp_f rfl rfl rfl ?_
  refine wp_sald rfl q3 ?_
  refine wp_Vi rfl rfl (by ((repeat' first | assumption | refine qset_ne rfl ?_ | refine qset_self (c0 := ?_) ?_ | refine qset_nf (by omega) ?_ | fail); done)) rfl (c_R_instruction (L, xs) h1 V R1 _ _ _) (fun r2 h2 P2 => ?_)
  obtain ⟨rfl, R2, F2⟩ := P2
  refine wp_b rfl rfl (fun _ => ?_) (fun hc => absurd ((eq_yes _).symm.trans hc) (by decide))
  exact nx _ _ (LW.two W C1 F1 R2 F2 (V.instruction _ _ _))
set_option maxHeartbeats 4000000 in
theorem lw_8 (W : LW h T k) (q1 : qin (nI (4 * k) + nI 1) L = true) (q2 : qin (nI (4 * k) + nI 2) L = true) (q3 : qin (nI (4 * k) + nI 3) L = true) (nx : ∀ h2 T2, LW h2 T2 (k + 1) → wp (L, xs) (m_L_law, 560, [(3, .int (nI (4 * k))), (2, .ref 21), (1, .ref 0), (0, .float 0)], [], h2) Q) : wp (L, xs) (m_L_law, 434, [(3, .int (nI (4 * k))), (2, .ref 21), (1, .ref 0), (0, .float 0)], [], h) Q := by
  obtain ⟨⟨sa, fa, C⟩, R, V, b1, b2⟩ := id W
  have e0 := C.2.2.2.2.1
  refine wp_f rfl rfl rfl ?_
  refine wp_f rfl rfl rfl ?_
  refine wp_f rfl rfl rfl ?_
  refine wp_f rfl rfl rfl ?_
  refine wp_f rfl rfl rfl ?_
  refine wp_sald rfl q1 ?_
  refine wp_Vi rfl rfl (by ((repeat' first | assumption | refine qset_ne rfl ?_ | refine qset_self (c0 := ?_) ?_ | refine qset_nf (by omega) ?_ | fail); done)) rfl (c_AC_check (L, xs) h V C _) (fun r1 h1 P1 => ?_)
  obtain ⟨rfl, ⟨sa1, fa1, C1⟩, F1⟩ := P1
  have R1 := R.sm F1.1
  obtain ⟨fs, e21⟩ := R1.ob
  refine wp_f rfl rfl rfl ?_
  refine wp_f rfl rfl rfl ?_
  refine wp_f rfl rfl rfl ?_
  refine wp_f rfl rfl rfl ?_
  refine wp_f rfl rfl rfl ?_
  refine wp_sald rfl q1 ?_
  refine wp_Vi rfl rfl (by ((repeat' first | assumption | refine qset_ne rfl ?_ | refine qset_self (c0 := ?_) ?_ | refine qset_nf (by omega) ?_ | fail); done)) rfl (c_R_check (L, xs) h1 R1.1 _ (T := T) rfl) (fun r2 h2 P2 => ?_)
  obtain ⟨rfl, R2, F2⟩ := P2
  refine wp_b rfl rfl (fun _ => ?_) (fun hc => absurd ((eq_yes _).symm.trans hc) (by decide))
  exact nx _ _ (LW.two W C1 F1 R2 F2 (V.check _))
set_option maxHeartbeats 4000000 in
theorem lw_9 (W : LW h T k) (q1 : qin (nI (4 * k) + nI 1) L = true) (q2 : qin (nI (4 * k) + nI 2) L = true) (q3 : qin (nI (4 * k) + nI 3) L = true) (nx : ∀ h2 T2, LW h2 T2 (k + 1) → wp (L, xs) (m_L_law, 560, [(3, .int (nI (4 * k))), (2, .ref 21), (1, .ref 0), (0, .float 0)], [], h2) Q) : wp (L, xs) (m_L_law, 457, [(3, .int (nI (4 * k))), (2, .ref 21), (1, .ref 0), (0, .float 0)], [], h) Q := by
  obtain ⟨⟨sa, fa, C⟩, R, V, b1, b2⟩ := id W
  have e0 := C.2.2.2.2.1
  obtain ⟨fs, e21⟩ := R.ob
  refine wp_f rfl rfl rfl ?_
  refine wp_Vip rfl rfl (by ((repeat' first | assumption | refine qset_ne rfl ?_ | refine qset_self (c0 := ?_) ?_ | refine qset_nf (by omega) ?_ | fail); done)) rfl (c_AC_place (L, xs) h C) ?_
  refine wp_f rfl rfl rfl ?_
  refine wp_Vip rfl rfl (by ((repeat' first | assumption | refine qset_ne rfl ?_ | refine qset_self (c0 := ?_) ?_ | refine qset_nf (by omega) ?_ | fail); done)) rfl (c_R_place (L, xs) h R) ?_
  refine wp_b rfl rfl (fun _ => ?_) (fun hc => absurd ((eq_yes _).symm.trans hc) (by decide))
  exact nx _ _ W.same
set_option maxHeartbeats 4000000 in
theorem lw_10 (W : LW h T k) (q1 : qin (nI (4 * k) + nI 1) L = true) (q2 : qin (nI (4 * k) + nI 2) L = true) (q3 : qin (nI (4 * k) + nI 3) L = true) (nx : ∀ h2 T2, LW h2 T2 (k + 1) → wp (L, xs) (m_L_law, 560, [(3, .int (nI (4 * k))), (2, .ref 21), (1, .ref 0), (0, .float 0)], [], h2) Q) : wp (L, xs) (m_L_law, 470, [(3, .int (nI (4 * k))), (2, .ref 21), (1, .ref 0), (0, .float 0)], [], h) Q := by
  obtain ⟨⟨sa, fa, C⟩, R, V, b1, b2⟩ := id W
  have e0 := C.2.2.2.2.1
  obtain ⟨fs, e21⟩ := R.ob
  refine wp_f rfl rfl rfl ?_
  refine wp_f rfl rfl rfl ?_
  refine wp_f rfl rfl rfl ?_
  refine wp_f rfl rfl rfl ?_
  refine wp_f rfl rfl rfl ?_
  refine wp_sald rfl q1 ?_
  refine wp_Vip rfl rfl (by ((repeat' first | assumption | refine qset_ne rfl ?_ | refine qset_self (c0 := ?_) ?_ | refine qset_nf (by omega) ?_ | fail); done)) rfl (c_AC_height (L, xs) h V C _) ?_
  refine wp_f rfl rfl rfl ?_
  refine wp_f rfl rfl rfl ?_
  refine wp_f rfl rfl rfl ?_
  refine wp_f rfl rfl rfl ?_
  refine wp_f rfl rfl rfl ?_
  refine wp_sald rfl q1 ?_
  refine wp_Vip rfl rfl (by ((repeat' first | assumption | refine qset_ne rfl ?_ | refine qset_self (c0 := ?_) ?_ | refine qset_nf (by omega) ?_ | fail); done)) rfl (c_R_height (L, xs) h V R _) ?_
  refine wp_b rfl rfl (fun _ => ?_) (fun hc => absurd ((eq_yes _).symm.trans hc) (by decide))
  exact nx _ _ W.same
set_option maxHeartbeats 4000000 in
theorem lw_11 (W : LW h T k) (q1 : qin (nI (4 * k) + nI 1) L = true) (q2 : qin (nI (4 * k) + nI 2) L = true) (q3 : qin (nI (4 * k) + nI 3) L = true) (nx : ∀ h2 T2, LW h2 T2 (k + 1) → wp (L, xs) (m_L_law, 560, [(3, .int (nI (4 * k))), (2, .ref 21), (1, .ref 0), (0, .float 0)], [], h2) Q) : wp (L, xs) (m_L_law, 493, [(3, .int (nI (4 * k))), (2, .ref 21), (1, .ref 0), (0, .float 0)], [], h) Q := by
  obtain ⟨⟨sa, fa, C⟩, R, V, b1, b2⟩ := id W
  have e0 := C.2.2.2.2.1
  obtain ⟨fs, e21⟩ := R.ob
  refine wp_f rfl rfl rfl ?_
  refine wp_f rfl rfl rfl ?_
  refine wp_f rfl rfl rfl ?_
  refine wp_f rfl rfl rfl ?_
  refine wp_f rfl rfl rfl ?_
  refine wp_sald rfl q1 ?_
  refine wp_f rfl rfl rfl ?_
  refine wp_f rfl rfl rfl ?_
  refine wp_f rfl rfl rfl ?_
  refine wp_f rfl rfl rfl ?_
  refine wp_sald rfl q2 ?_
  refine wp_Vip rfl rfl (by ((repeat' first | assumption | refine qset_ne rfl ?_ | refine qset_self (c0 := ?_) ?_ | refine qset_nf (by omega) ?_ | fail); done)) rfl (c_AC_there (L, xs) h V C _ _) ?_
  refine wp_f rfl rfl rfl ?_
  refine wp_f rfl rfl rfl ?_
  refine wp_f rfl rfl rfl ?_
  refine wp_f rfl rfl rfl ?_
  refine wp_f rfl rfl rfl ?_
  refine wp_sald rfl q1 ?_
  refine wp_f rfl rfl rfl ?_
  refine wp_f rfl rfl rfl ?_
  refine wp_f rfl rfl rfl ?_
  refine wp_f rfl rfl rfl ?_
  refine wp_sald rfl q2 ?_
  refine wp_Vip rfl rfl (by ((repeat' first | assumption | refine qset_ne rfl ?_ | refine qset_self (c0 := ?_) ?_ | refine qset_nf (by omega) ?_ | fail); done)) rfl (c_R_there (L, xs) h V R _ _) ?_
  refine wp_b rfl rfl (fun _ => ?_) (fun hc => absurd ((eq_yes _).symm.trans hc) (by decide))
  exact nx _ _ W.same
set_option maxHeartbeats 4000000 in
theorem lw_12 (W : LW h T k) (q1 : qin (nI (4 * k) + nI 1) L = true) (q2 : qin (nI (4 * k) + nI 2) L = true) (q3 : qin (nI (4 * k) + nI 3) L = true) (nx : ∀ h2 T2, LW h2 T2 (k + 1) → wp (L, xs) (m_L_law, 560, [(3, .int (nI (4 * k))), (2, .ref 21), (1, .ref 0), (0, .float 0)], [], h2) Q) : wp (L, xs) (m_L_law, 526, [(3, .int (nI (4 * k))), (2, .ref 21), (1, .ref 0), (0, .float 0)], [], h) Q := by
  obtain ⟨⟨sa, fa, C⟩, R, V, b1, b2⟩ := id W
  have e0 := C.2.2.2.2.1
  obtain ⟨fs, e21⟩ := R.ob
  refine wp_f rfl rfl rfl ?_
  refine wp_f rfl rfl rfl ?_
  refine wp_f rfl rfl rfl ?_
  refine wp_f rfl rfl rfl ?_
  refine wp_f rfl rfl rfl ?_
  refine wp_sald rfl q1 ?_
  refine wp_f rfl rfl rfl ?_
  refine wp_f rfl rfl rfl ?_
  refine wp_f rfl rfl rfl ?_
  refine wp_f rfl rfl rfl ?_
  refine wp_sald rfl q2 ?_
  refine wp_Vlp rfl rfl (by ((repeat' first | assumption | refine qset_ne rfl ?_ | refine qset_self (c0 := ?_) ?_ | refine qset_nf (by omega) ?_ | fail); done)) rfl (c_AC_origins (L, xs) h V C _ _) ?_
  refine wp_f rfl rfl rfl ?_
  refine wp_f rfl rfl rfl ?_
  refine wp_f rfl rfl rfl ?_
  refine wp_f rfl rfl rfl ?_
  refine wp_f rfl rfl rfl ?_
  refine wp_sald rfl q1 ?_
  refine wp_f rfl rfl rfl ?_
  refine wp_f rfl rfl rfl ?_
  refine wp_f rfl rfl rfl ?_
  refine wp_f rfl rfl rfl ?_
  refine wp_sald rfl q2 ?_
  refine wp_Vlp rfl rfl (by ((repeat' first | assumption | refine qset_ne rfl ?_ | refine qset_self (c0 := ?_) ?_ | refine qset_nf (by omega) ?_ | fail); done)) rfl (c_R_origins (L, xs) h V R _ _) ?_
  refine wp_f rfl rfl rfl ?_
  refine wp_b rfl rfl (fun _ => ?_) (fun hc => absurd ((l_eq_yes _).symm.trans hc) (by decide))
  exact nx _ _ W.same
end LWS
