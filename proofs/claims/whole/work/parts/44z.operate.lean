/-! Class Machine: operate, from its start. -/
section P7
variable (sc : Nat × (Nat → Int32)) (h : qH) {sa fa : Nat → Nat} {E : QE} {c : Nat} {F : QF} {a b : Int32} {M : QM}
set_option maxHeartbeats 4000000 in
theorem c_Machine_operate {i o : Nat} {x y : Int32} (hi : (fCode F)[i]? = some (o, x, y)) (hB : EB E) (hB2 : FB F) (hN : oNamed E F o x y = true) (H : MS0 h sa fa E c F M) : wp sc (m_Machine_operate, 0, qargs 0 [.ref 13, .ref c, .int (nI i)], [], h) (rI (OP h sa fa E c F x y (oDo E F M o x.toNatClampNeg y.toNatClampNeg))) := by
  obtain ⟨hL, hC, h49, ⟨⟨cv, xv, yv, e13⟩, A, hA⟩, ⟨tt, tm, S⟩, Lo⟩ := H
  have C0 := hC
  obtain ⟨f1, f2, f3, b1, b2, b3, b4, b5, b6, b7, b8, b9, b10⟩ := hC
  obtain ⟨p1, p2, p3, p4⟩ := b10 i _ hi
  simp only at p1 p2 p3 p4
  have hil : i < (fCode F).length := (List.getElem?_eq_some_iff.mp hi).1
  have ne1 : ¬ c = 13 := by omega
  have ne2 : ¬ c + 7 = 13 := by omega
  have z := nI_clamp (show i < 2 ^ 31 by omega)
  have g1 : f1 (nI i).toNatClampNeg = nI o := by rw [z]; exact p1
  have g2 : f2 (nI i).toNatClampNeg = x := by rw [z]; exact p2
  have g3 : f3 (nI i).toNatClampNeg = y := by rw [z]; exact p3
  have K : wp sc (m_Machine_operate, 32, [(3, .int (f1 (nI i).toNatClampNeg)), (0, .ref 13)], [], (((h.set 13 (.inr (4, [.ref 1, .ref 14, .ref 18, .ref 20, .ref c, xv, yv]))).set 13 (.inr (4, [.ref 1, .ref 14, .ref 18, .ref 20, .ref c, .int (f2 (nI i).toNatClampNeg), yv]))).set 13 (.inr (4, [.ref 1, .ref 14, .ref 18, .ref 20, .ref c, .int (f2 (nI i).toNatClampNeg), .int (f3 (nI i).toNatClampNeg)])))) (rI (OP h sa fa E c F x y (oDo E F M o x.toNatClampNeg y.toNatClampNeg))) := by
    rw [g1, g2, g3]
    have x1 : qfx 13 13 h (h.set 13 (.inr (4, [.ref 1, .ref 14, .ref 18, .ref 20, .ref c, xv, yv]))) := qfx.st e13 rfl (Nat.le_refl _) (Nat.le_refl _)
    have x2 : qfx 13 13 h ((h.set 13 (.inr (4, [.ref 1, .ref 14, .ref 18, .ref 20, .ref c, xv, yv]))).set 13 (.inr (4, [.ref 1, .ref 14, .ref 18, .ref 20, .ref c, .int x, yv]))) := x1.stl (qset_self e13) rfl (Nat.le_refl _) (Nat.le_refl _)
    have x3 : qfx 13 13 h (((h.set 13 (.inr (4, [.ref 1, .ref 14, .ref 18, .ref 20, .ref c, xv, yv]))).set 13 (.inr (4, [.ref 1, .ref 14, .ref 18, .ref 20, .ref c, .int x, yv]))).set 13 (.inr (4, [.ref 1, .ref 14, .ref 18, .ref 20, .ref c, .int x, .int y]))) := x2.stl (qset_self (qset_self e13)) rfl (Nat.le_refl _) (Nat.le_refl _)
    have H3 : MS _ sa fa E c F x y M := ⟨hL.fx x3 (by omega) (by omega), C0.fx x3 (by omega), h49, ⟨qset_self (qset_self (qset_self e13)), A, x3.at (by omega) hA⟩, ⟨tt, tm, S.fx x3 (by omega)⟩, Lo.fx x3 (by omega)⟩
    refine (l_operate sc _ p4 hB hB2 hN H3).mono fun v h' q => ?_
    unfold rI at q ⊢
    split at q
    · exact OP.tr (x3.mo (by omega) (by omega)) q
    · exact q.elim
  repeat' first | exact wp_sub K rfl ⟨rfl, rfl, trivial⟩ | refine wp_ist rfl rfl rfl rfl ?_ | refine wp_lst rfl rfl rfl rfl ?_ | refine wp_iinc rfl rfl rfl rfl ?_ | refine wp_f rfl rfl rfl ?_ | refine wp_getf rfl (by repeat' first | assumption | refine qset_ne rfl ?_ | refine qset_self (c0 := ?_) ?_ | refine qset_nf (by omega) ?_ | fail) rfl ?_ | refine wp_ast rfl rfl rfl rfl ?_ | refine wp_asN rfl rfl rfl rfl ?_ | refine wp_putf rfl (by repeat' first | assumption | refine qset_ne rfl ?_ | refine qset_self (c0 := ?_) ?_ | refine qset_nf (by omega) ?_ | fail) (by exact Nat.le_of_ble_eq_true rfl) rfl ?_ | refine wp_iald rfl (by repeat' first | assumption | refine qset_ne rfl ?_ | refine qset_self (c0 := ?_) ?_ | refine qset_nf (by omega) ?_ | fail) ?_ ?_ | refine wp_lald rfl (by repeat' first | assumption | refine qset_ne rfl ?_ | refine qset_self (c0 := ?_) ?_ | refine qset_nf (by omega) ?_ | fail) ?_ ?_ | refine wp_zald rfl (by repeat' first | assumption | refine qset_ne rfl ?_ | refine qset_self (c0 := ?_) ?_ | refine qset_nf (by omega) ?_ | fail) ?_ ?_ | refine wp_iast rfl (by repeat' first | assumption | refine qset_ne rfl ?_ | refine qset_self (c0 := ?_) ?_ | refine qset_nf (by omega) ?_ | fail) ?_ ?_ | refine wp_last rfl (by repeat' first | assumption | refine qset_ne rfl ?_ | refine qset_self (c0 := ?_) ?_ | refine qset_nf (by omega) ?_ | fail) ?_ ?_ | refine wp_alen rfl (by repeat' first | assumption | refine qset_ne rfl ?_ | refine qset_self (c0 := ?_) ?_ | refine qset_nf (by omega) ?_ | fail) rfl ?_ | refine wp_zast rfl (by repeat' first | assumption | refine qset_ne rfl ?_ | refine qset_self (c0 := ?_) ?_ | refine qset_nf (by omega) ?_ | fail) ?_ ?_ | refine wp_b rfl rfl (fun hc => absurd hc (by decide +kernel)) (fun _ => ?_) | refine wp_b rfl rfl (fun _ => ?_) (fun hc => absurd hc (by decide +kernel)) | refine wp_b rfl rfl (fun hc => ?_) (fun hc => ?_) | refine wp_v rfl rfl ?_ | refine ret_t ?_ | refine ret_f ?_ | fail
  · exact qin_nI (by omega) (by omega)
  · exact qin_nI (by omega) (by omega)
  · exact qin_nI (by omega) (by omega)
end P7
