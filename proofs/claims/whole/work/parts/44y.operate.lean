/-! Class Machine: operate, the rest. -/
section P6
variable (sc : Nat × (Nat → Int32)) (h : qH) {sa fa : Nat → Nat} {E : QE} {c : Nat} {F : QF} {a b : Int32} {M : QM}
set_option maxHeartbeats 4000000 in
theorem l_op7 {o : Nat} (g : 15 < o ∧ o < 21) (ho : o < 60) (hB : EB E) (hB2 : FB F) (hN : oNamed E F o a b = true) (H : MS h sa fa E c F a b M) : wp sc (m_Machine_operate, 32, [(3, .int (nI o)), (0, .ref 13)], [], h) (rI (OP h sa fa E c F a b (oDo E F M o a.toNatClampNeg b.toNatClampNeg))) := by
  have hE := E_len H.1
  have hE2 := E_len2 H.1
  have hE3 : E.2.1.length ≤ 32 := by obtain ⟨⟨_, _, _, z, _⟩, _⟩ := H.1.el; exact z
  have hFl : (fLocs F).length ≤ 40 := by obtain ⟨_, _, _, _, _, _, _, z, _⟩ := H.2.2.2.2.2; exact z
  obtain ⟨tt, tm, th, dr, rf, wt, q1, q2, e13, e14, e18, e1, ec, S⟩ := MS.f H
  have eR : oDo E F M o a.toNatClampNeg b.toNatClampNeg = oReference E F M o a.toNatClampNeg b.toNatClampNeg := by unfold oDo; rw [if_neg (by omega), if_neg (by omega), if_neg (by omega), if_pos (by omega)]
  rw [eR]
  have hab : o = 16 ∨ o = 17 → a = nI a.toNatClampNeg ∧ b = nI b.toNatClampNeg ∧ a.toNatClampNeg < E.1.length ∧ b.toNatClampNeg < 2 ^ 31 ∧ (eFields E a.toNatClampNeg).getD b.toNatClampNeg 0 < 2 ^ 56 := by
    intro g2
    rw [oNamed_eq, if_neg (by omega), if_neg (by omega), if_pos g2] at hN
    simp only [Bool.and_eq_true] at hN
    have hfl := eF_len H.1 a.toNatClampNeg
    obtain ⟨k, hk, e1⟩ := at_nat (by simp only [Bool.and_eq_true]; exact hN.1) (show E.1.length < 2 ^ 31 by omega)
    obtain ⟨j, hj, e2⟩ := at_nat (by simp only [Bool.and_eq_true]; exact hN.2) (show (eFields E a.toNatClampNeg).length < 2 ^ 31 by omega)
    have c1 : a.toNatClampNeg = k := by rw [e1, nI_clamp (by omega)]
    have c2 : b.toNatClampNeg = j := by rw [e2, nI_clamp (by omega)]
    rw [c1, c2]
    exact ⟨e1, e2, hk, by omega, hB.1 k j⟩
  repeat' first | refine wp_Vi rfl rfl (by repeat' first | assumption | refine qset_ne rfl ?_ | refine qset_self (c0 := ?_) ?_ | refine qset_nf (by omega) ?_ | fail) rfl (c_Machine_useReference sc h g.1 g.2 H hab) (fun x h8 P => ?_) | refine wp_ist rfl rfl rfl rfl ?_ | refine wp_lst rfl rfl rfl rfl ?_ | refine wp_iinc rfl rfl rfl rfl ?_ | refine wp_f rfl rfl rfl ?_ | refine wp_getf rfl (by repeat' first | assumption | refine qset_ne rfl ?_ | refine qset_self (c0 := ?_) ?_ | refine qset_nf (by omega) ?_ | fail) rfl ?_ | refine wp_ast rfl rfl rfl rfl ?_ | refine wp_asN rfl rfl rfl rfl ?_ | refine wp_putf rfl (by repeat' first | assumption | refine qset_ne rfl ?_ | refine qset_self (c0 := ?_) ?_ | refine qset_nf (by omega) ?_ | fail) (by exact Nat.le_of_ble_eq_true rfl) rfl ?_ | refine wp_iald rfl (by repeat' first | assumption | refine qset_ne rfl ?_ | refine qset_self (c0 := ?_) ?_ | refine qset_nf (by omega) ?_ | fail) ?_ ?_ | refine wp_lald rfl (by repeat' first | assumption | refine qset_ne rfl ?_ | refine qset_self (c0 := ?_) ?_ | refine qset_nf (by omega) ?_ | fail) ?_ ?_ | refine wp_zald rfl (by repeat' first | assumption | refine qset_ne rfl ?_ | refine qset_self (c0 := ?_) ?_ | refine qset_nf (by omega) ?_ | fail) ?_ ?_ | refine wp_iast rfl (by repeat' first | assumption | refine qset_ne rfl ?_ | refine qset_self (c0 := ?_) ?_ | refine qset_nf (by omega) ?_ | fail) ?_ ?_ | refine wp_last rfl (by repeat' first | assumption | refine qset_ne rfl ?_ | refine qset_self (c0 := ?_) ?_ | refine qset_nf (by omega) ?_ | fail) ?_ ?_ | refine wp_alen rfl (by repeat' first | assumption | refine qset_ne rfl ?_ | refine qset_self (c0 := ?_) ?_ | refine qset_nf (by omega) ?_ | fail) rfl ?_ | refine wp_zast rfl (by repeat' first | assumption | refine qset_ne rfl ?_ | refine qset_self (c0 := ?_) ?_ | refine qset_nf (by omega) ?_ | fail) ?_ ?_ | refine wp_b rfl rfl (fun hc => absurd hc (by decide +kernel)) (fun _ => ?_) | refine wp_b rfl rfl (fun _ => ?_) (fun hc => absurd hc (by decide +kernel)) | refine wp_c2y rfl (by omega) (by omega) (by dsimp only [qn2]; omega) ?_ | refine wp_c2n rfl (by omega) (by omega) (by dsimp only [qn2]; omega) ?_ | refine wp_c1y rfl (by omega) (by first | exact True.intro | (dsimp only [qn1]; omega)) ?_ | refine wp_c1n rfl (by omega) (by first | exact (fun z => z) | (dsimp only [qn1]; omega)) ?_ | refine wp_b rfl rfl (fun hc => ?_) (fun hc => ?_) | refine wp_v rfl rfl ?_ | refine ret_t ?_ | refine ret_f ?_ | fail
  exact P
set_option maxHeartbeats 4000000 in
theorem l_op8 {o : Nat} (g : o = 21 ∨ o = 22) (ho : o < 60) (hB : EB E) (hB2 : FB F) (hN : oNamed E F o a b = true) (H : MS h sa fa E c F a b M) : wp sc (m_Machine_operate, 32, [(3, .int (nI o)), (0, .ref 13)], [], h) (rI (OP h sa fa E c F a b (oDo E F M o a.toNatClampNeg b.toNatClampNeg))) := by
  have hE := E_len H.1
  have hE2 := E_len2 H.1
  have hE3 : E.2.1.length ≤ 32 := by obtain ⟨⟨_, _, _, z, _⟩, _⟩ := H.1.el; exact z
  have hFl : (fLocs F).length ≤ 40 := by obtain ⟨_, _, _, _, _, _, _, z, _⟩ := H.2.2.2.2.2; exact z
  obtain ⟨tt, tm, th, dr, rf, wt, q1, q2, e13, e14, e18, e1, ec, S⟩ := MS.f H
  have eR : oDo E F M o a.toNatClampNeg b.toNatClampNeg = oPack E M o a.toNatClampNeg := by rcases g with rfl | rfl <;> rfl
  rw [eR]
  have hN2 : (decide (0 ≤ a) && decide (a < nI E.1.length)) = true := by
    rw [oNamed_eq, if_neg (by omega), if_neg (by omega), if_neg (by omega), if_pos (by omega)] at hN
    exact hN
  obtain ⟨k, hk, rfl⟩ := at_nat hN2 (by omega)
  rw [nI_clamp (by omega)]
  repeat' first | refine wp_Vi rfl rfl (by repeat' first | assumption | refine qset_ne rfl ?_ | refine qset_self (c0 := ?_) ?_ | refine qset_nf (by omega) ?_ | fail) rfl (c_Machine_packOrCall21 sc h H hk (hB.1 k) g) (fun x h8 P => ?_) | refine wp_ist rfl rfl rfl rfl ?_ | refine wp_lst rfl rfl rfl rfl ?_ | refine wp_iinc rfl rfl rfl rfl ?_ | refine wp_f rfl rfl rfl ?_ | refine wp_getf rfl (by repeat' first | assumption | refine qset_ne rfl ?_ | refine qset_self (c0 := ?_) ?_ | refine qset_nf (by omega) ?_ | fail) rfl ?_ | refine wp_ast rfl rfl rfl rfl ?_ | refine wp_asN rfl rfl rfl rfl ?_ | refine wp_putf rfl (by repeat' first | assumption | refine qset_ne rfl ?_ | refine qset_self (c0 := ?_) ?_ | refine qset_nf (by omega) ?_ | fail) (by exact Nat.le_of_ble_eq_true rfl) rfl ?_ | refine wp_iald rfl (by repeat' first | assumption | refine qset_ne rfl ?_ | refine qset_self (c0 := ?_) ?_ | refine qset_nf (by omega) ?_ | fail) ?_ ?_ | refine wp_lald rfl (by repeat' first | assumption | refine qset_ne rfl ?_ | refine qset_self (c0 := ?_) ?_ | refine qset_nf (by omega) ?_ | fail) ?_ ?_ | refine wp_zald rfl (by repeat' first | assumption | refine qset_ne rfl ?_ | refine qset_self (c0 := ?_) ?_ | refine qset_nf (by omega) ?_ | fail) ?_ ?_ | refine wp_iast rfl (by repeat' first | assumption | refine qset_ne rfl ?_ | refine qset_self (c0 := ?_) ?_ | refine qset_nf (by omega) ?_ | fail) ?_ ?_ | refine wp_last rfl (by repeat' first | assumption | refine qset_ne rfl ?_ | refine qset_self (c0 := ?_) ?_ | refine qset_nf (by omega) ?_ | fail) ?_ ?_ | refine wp_alen rfl (by repeat' first | assumption | refine qset_ne rfl ?_ | refine qset_self (c0 := ?_) ?_ | refine qset_nf (by omega) ?_ | fail) rfl ?_ | refine wp_zast rfl (by repeat' first | assumption | refine qset_ne rfl ?_ | refine qset_self (c0 := ?_) ?_ | refine qset_nf (by omega) ?_ | fail) ?_ ?_ | refine wp_b rfl rfl (fun hc => absurd hc (by decide +kernel)) (fun _ => ?_) | refine wp_b rfl rfl (fun _ => ?_) (fun hc => absurd hc (by decide +kernel)) | refine wp_c2y rfl (by omega) (by omega) (by dsimp only [qn2]; omega) ?_ | refine wp_c2n rfl (by omega) (by omega) (by dsimp only [qn2]; omega) ?_ | refine wp_c1y rfl (by omega) (by first | exact True.intro | (dsimp only [qn1]; omega)) ?_ | refine wp_c1n rfl (by omega) (by first | exact (fun z => z) | (dsimp only [qn1]; omega)) ?_ | refine wp_b rfl rfl (fun hc => ?_) (fun hc => ?_) | refine wp_v rfl rfl ?_ | refine ret_t ?_ | refine ret_f ?_ | fail
  exact P
set_option maxHeartbeats 4000000 in
theorem l_op9 {o : Nat} (g : o = 23) (ho : o < 60) (hB : EB E) (hB2 : FB F) (hN : oNamed E F o a b = true) (H : MS h sa fa E c F a b M) : wp sc (m_Machine_operate, 32, [(3, .int (nI o)), (0, .ref 13)], [], h) (rI (OP h sa fa E c F a b (oDo E F M o a.toNatClampNeg b.toNatClampNeg))) := by
  have hE := E_len H.1
  have hE2 := E_len2 H.1
  have hE3 : E.2.1.length ≤ 32 := by obtain ⟨⟨_, _, _, z, _⟩, _⟩ := H.1.el; exact z
  have hFl : (fLocs F).length ≤ 40 := by obtain ⟨_, _, _, _, _, _, _, z, _⟩ := H.2.2.2.2.2; exact z
  obtain ⟨tt, tm, th, dr, rf, wt, q1, q2, e13, e14, e18, e1, ec, S⟩ := MS.f H
  subst g
  have eR : oDo E F M 23 a.toNatClampNeg b.toNatClampNeg = oCall E F M a.toNatClampNeg := rfl
  rw [eR]
  have hN2 : (decide (0 ≤ a) && decide (a < nI E.2.2.length)) = true := hN
  obtain ⟨k, hk, rfl⟩ := at_nat hN2 (by omega)
  rw [nI_clamp (by omega)]
  have hT : ∀ j, (fTakes (eFun E k)).getD j 0 < 2 ^ 63 := fun j => by have := (hB.2.2 k j).1; omega
  have hV : ∀ j, (fGives (eFun E k)).getD j 0 < 2 ^ 63 := fun j => by have := (hB.2.2 k j).2.1; omega
  repeat' first | refine wp_Vi rfl rfl (by repeat' first | assumption | refine qset_ne rfl ?_ | refine qset_self (c0 := ?_) ?_ | refine qset_nf (by omega) ?_ | fail) rfl (c_Machine_packOrCall23 sc h H hk hT hV) (fun x h8 P => ?_) | refine wp_ist rfl rfl rfl rfl ?_ | refine wp_lst rfl rfl rfl rfl ?_ | refine wp_iinc rfl rfl rfl rfl ?_ | refine wp_f rfl rfl rfl ?_ | refine wp_getf rfl (by repeat' first | assumption | refine qset_ne rfl ?_ | refine qset_self (c0 := ?_) ?_ | refine qset_nf (by omega) ?_ | fail) rfl ?_ | refine wp_ast rfl rfl rfl rfl ?_ | refine wp_asN rfl rfl rfl rfl ?_ | refine wp_putf rfl (by repeat' first | assumption | refine qset_ne rfl ?_ | refine qset_self (c0 := ?_) ?_ | refine qset_nf (by omega) ?_ | fail) (by exact Nat.le_of_ble_eq_true rfl) rfl ?_ | refine wp_iald rfl (by repeat' first | assumption | refine qset_ne rfl ?_ | refine qset_self (c0 := ?_) ?_ | refine qset_nf (by omega) ?_ | fail) ?_ ?_ | refine wp_lald rfl (by repeat' first | assumption | refine qset_ne rfl ?_ | refine qset_self (c0 := ?_) ?_ | refine qset_nf (by omega) ?_ | fail) ?_ ?_ | refine wp_zald rfl (by repeat' first | assumption | refine qset_ne rfl ?_ | refine qset_self (c0 := ?_) ?_ | refine qset_nf (by omega) ?_ | fail) ?_ ?_ | refine wp_iast rfl (by repeat' first | assumption | refine qset_ne rfl ?_ | refine qset_self (c0 := ?_) ?_ | refine qset_nf (by omega) ?_ | fail) ?_ ?_ | refine wp_last rfl (by repeat' first | assumption | refine qset_ne rfl ?_ | refine qset_self (c0 := ?_) ?_ | refine qset_nf (by omega) ?_ | fail) ?_ ?_ | refine wp_alen rfl (by repeat' first | assumption | refine qset_ne rfl ?_ | refine qset_self (c0 := ?_) ?_ | refine qset_nf (by omega) ?_ | fail) rfl ?_ | refine wp_zast rfl (by repeat' first | assumption | refine qset_ne rfl ?_ | refine qset_self (c0 := ?_) ?_ | refine qset_nf (by omega) ?_ | fail) ?_ ?_ | refine wp_b rfl rfl (fun hc => absurd hc (by decide +kernel)) (fun _ => ?_) | refine wp_b rfl rfl (fun _ => ?_) (fun hc => absurd hc (by decide +kernel)) | refine wp_c2y rfl (by omega) (by omega) (by dsimp only [qn2]; omega) ?_ | refine wp_c2n rfl (by omega) (by omega) (by dsimp only [qn2]; omega) ?_ | refine wp_c1y rfl (by omega) (by first | exact True.intro | (dsimp only [qn1]; omega)) ?_ | refine wp_c1n rfl (by omega) (by first | exact (fun z => z) | (dsimp only [qn1]; omega)) ?_ | refine wp_b rfl rfl (fun hc => ?_) (fun hc => ?_) | refine wp_v rfl rfl ?_ | refine ret_t ?_ | refine ret_f ?_ | fail
  exact P
set_option maxHeartbeats 4000000 in
theorem l_op10 {o : Nat} (g : 23 < o ∧ o < 45 ∧ o ≠ 35) (ho : o < 60) (hB : EB E) (hB2 : FB F) (hN : oNamed E F o a b = true) (H : MS h sa fa E c F a b M) : wp sc (m_Machine_operate, 32, [(3, .int (nI o)), (0, .ref 13)], [], h) (rI (OP h sa fa E c F a b (oDo E F M o a.toNatClampNeg b.toNatClampNeg))) := by
  have hE := E_len H.1
  have hE2 := E_len2 H.1
  have hE3 : E.2.1.length ≤ 32 := by obtain ⟨⟨_, _, _, z, _⟩, _⟩ := H.1.el; exact z
  have hFl : (fLocs F).length ≤ 40 := by obtain ⟨_, _, _, _, _, _, _, z, _⟩ := H.2.2.2.2.2; exact z
  obtain ⟨tt, tm, th, dr, rf, wt, q1, q2, e13, e14, e18, e1, ec, S⟩ := MS.f H
  have eR : oDo E F M o a.toNatClampNeg b.toNatClampNeg = oNumbers E M o := by unfold oDo; rw [if_neg (by omega), if_neg (by omega), if_neg (by omega), if_neg (by omega), if_neg (by omega), if_neg (by omega), if_pos (by omega)]
  rw [eR]
  obtain ⟨g1, g2, g3⟩ := g
  repeat' first | refine wp_Vi rfl rfl (by repeat' first | assumption | refine qset_ne rfl ?_ | refine qset_self (c0 := ?_) ?_ | refine qset_nf (by omega) ?_ | fail) rfl (c_Machine_reckon sc h g1 g2 g3 H) (fun x h8 P => ?_) | refine wp_ist rfl rfl rfl rfl ?_ | refine wp_lst rfl rfl rfl rfl ?_ | refine wp_iinc rfl rfl rfl rfl ?_ | refine wp_f rfl rfl rfl ?_ | refine wp_getf rfl (by repeat' first | assumption | refine qset_ne rfl ?_ | refine qset_self (c0 := ?_) ?_ | refine qset_nf (by omega) ?_ | fail) rfl ?_ | refine wp_ast rfl rfl rfl rfl ?_ | refine wp_asN rfl rfl rfl rfl ?_ | refine wp_putf rfl (by repeat' first | assumption | refine qset_ne rfl ?_ | refine qset_self (c0 := ?_) ?_ | refine qset_nf (by omega) ?_ | fail) (by exact Nat.le_of_ble_eq_true rfl) rfl ?_ | refine wp_iald rfl (by repeat' first | assumption | refine qset_ne rfl ?_ | refine qset_self (c0 := ?_) ?_ | refine qset_nf (by omega) ?_ | fail) ?_ ?_ | refine wp_lald rfl (by repeat' first | assumption | refine qset_ne rfl ?_ | refine qset_self (c0 := ?_) ?_ | refine qset_nf (by omega) ?_ | fail) ?_ ?_ | refine wp_zald rfl (by repeat' first | assumption | refine qset_ne rfl ?_ | refine qset_self (c0 := ?_) ?_ | refine qset_nf (by omega) ?_ | fail) ?_ ?_ | refine wp_iast rfl (by repeat' first | assumption | refine qset_ne rfl ?_ | refine qset_self (c0 := ?_) ?_ | refine qset_nf (by omega) ?_ | fail) ?_ ?_ | refine wp_last rfl (by repeat' first | assumption | refine qset_ne rfl ?_ | refine qset_self (c0 := ?_) ?_ | refine qset_nf (by omega) ?_ | fail) ?_ ?_ | refine wp_alen rfl (by repeat' first | assumption | refine qset_ne rfl ?_ | refine qset_self (c0 := ?_) ?_ | refine qset_nf (by omega) ?_ | fail) rfl ?_ | refine wp_zast rfl (by repeat' first | assumption | refine qset_ne rfl ?_ | refine qset_self (c0 := ?_) ?_ | refine qset_nf (by omega) ?_ | fail) ?_ ?_ | refine wp_b rfl rfl (fun hc => absurd hc (by decide +kernel)) (fun _ => ?_) | refine wp_b rfl rfl (fun _ => ?_) (fun hc => absurd hc (by decide +kernel)) | refine wp_c2y rfl (by omega) (by omega) (by dsimp only [qn2]; omega) ?_ | refine wp_c2n rfl (by omega) (by omega) (by dsimp only [qn2]; omega) ?_ | refine wp_c1y rfl (by omega) (by first | exact True.intro | (dsimp only [qn1]; omega)) ?_ | refine wp_c1n rfl (by omega) (by first | exact (fun z => z) | (dsimp only [qn1]; omega)) ?_ | refine wp_b rfl rfl (fun hc => ?_) (fun hc => ?_) | refine wp_v rfl rfl ?_ | refine ret_t ?_ | refine ret_f ?_ | fail
  exact P
set_option maxHeartbeats 4000000 in
theorem l_op11 {o : Nat} (g : 46 < o ∧ o < 52) (ho : o < 60) (hB : EB E) (hB2 : FB F) (hN : oNamed E F o a b = true) (H : MS h sa fa E c F a b M) : wp sc (m_Machine_operate, 32, [(3, .int (nI o)), (0, .ref 13)], [], h) (rI (OP h sa fa E c F a b (oDo E F M o a.toNatClampNeg b.toNatClampNeg))) := by
  have hE := E_len H.1
  have hE2 := E_len2 H.1
  have hE3 : E.2.1.length ≤ 32 := by obtain ⟨⟨_, _, _, z, _⟩, _⟩ := H.1.el; exact z
  have hFl : (fLocs F).length ≤ 40 := by obtain ⟨_, _, _, _, _, _, _, z, _⟩ := H.2.2.2.2.2; exact z
  obtain ⟨tt, tm, th, dr, rf, wt, q1, q2, e13, e14, e18, e1, ec, S⟩ := MS.f H
  have eR : oDo E F M o a.toNatClampNeg b.toNatClampNeg = oResource E F M o a.toNatClampNeg := by unfold oDo; rw [if_neg (by omega), if_neg (by omega), if_neg (by omega), if_neg (by omega), if_neg (by omega), if_neg (by omega), if_neg (by omega), if_pos (by omega)]
  rw [eR]
  have hN2 : (decide (0 ≤ a) && decide (a < nI E.1.length)) = true := by
    rw [oNamed_eq, if_neg (by omega), if_neg (by omega), if_neg (by omega), if_pos (by omega)] at hN
    exact hN
  obtain ⟨k, hk, rfl⟩ := at_nat hN2 (by omega)
  rw [nI_clamp (by omega)]
  repeat' first | refine wp_Vi rfl rfl (by repeat' first | assumption | refine qset_ne rfl ?_ | refine qset_self (c0 := ?_) ?_ | refine qset_nf (by omega) ?_ | fail) rfl (c_Machine_useResource sc h g.1 g.2 H hk) (fun x h8 P => ?_) | refine wp_ist rfl rfl rfl rfl ?_ | refine wp_lst rfl rfl rfl rfl ?_ | refine wp_iinc rfl rfl rfl rfl ?_ | refine wp_f rfl rfl rfl ?_ | refine wp_getf rfl (by repeat' first | assumption | refine qset_ne rfl ?_ | refine qset_self (c0 := ?_) ?_ | refine qset_nf (by omega) ?_ | fail) rfl ?_ | refine wp_ast rfl rfl rfl rfl ?_ | refine wp_asN rfl rfl rfl rfl ?_ | refine wp_putf rfl (by repeat' first | assumption | refine qset_ne rfl ?_ | refine qset_self (c0 := ?_) ?_ | refine qset_nf (by omega) ?_ | fail) (by exact Nat.le_of_ble_eq_true rfl) rfl ?_ | refine wp_iald rfl (by repeat' first | assumption | refine qset_ne rfl ?_ | refine qset_self (c0 := ?_) ?_ | refine qset_nf (by omega) ?_ | fail) ?_ ?_ | refine wp_lald rfl (by repeat' first | assumption | refine qset_ne rfl ?_ | refine qset_self (c0 := ?_) ?_ | refine qset_nf (by omega) ?_ | fail) ?_ ?_ | refine wp_zald rfl (by repeat' first | assumption | refine qset_ne rfl ?_ | refine qset_self (c0 := ?_) ?_ | refine qset_nf (by omega) ?_ | fail) ?_ ?_ | refine wp_iast rfl (by repeat' first | assumption | refine qset_ne rfl ?_ | refine qset_self (c0 := ?_) ?_ | refine qset_nf (by omega) ?_ | fail) ?_ ?_ | refine wp_last rfl (by repeat' first | assumption | refine qset_ne rfl ?_ | refine qset_self (c0 := ?_) ?_ | refine qset_nf (by omega) ?_ | fail) ?_ ?_ | refine wp_alen rfl (by repeat' first | assumption | refine qset_ne rfl ?_ | refine qset_self (c0 := ?_) ?_ | refine qset_nf (by omega) ?_ | fail) rfl ?_ | refine wp_zast rfl (by repeat' first | assumption | refine qset_ne rfl ?_ | refine qset_self (c0 := ?_) ?_ | refine qset_nf (by omega) ?_ | fail) ?_ ?_ | refine wp_b rfl rfl (fun hc => absurd hc (by decide +kernel)) (fun _ => ?_) | refine wp_b rfl rfl (fun _ => ?_) (fun hc => absurd hc (by decide +kernel)) | refine wp_c2y rfl (by omega) (by omega) (by dsimp only [qn2]; omega) ?_ | refine wp_c2n rfl (by omega) (by omega) (by dsimp only [qn2]; omega) ?_ | refine wp_c1y rfl (by omega) (by first | exact True.intro | (dsimp only [qn1]; omega)) ?_ | refine wp_c1n rfl (by omega) (by first | exact (fun z => z) | (dsimp only [qn1]; omega)) ?_ | refine wp_b rfl rfl (fun hc => ?_) (fun hc => ?_) | refine wp_v rfl rfl ?_ | refine ret_t ?_ | refine ret_f ?_ | fail
  exact P
set_option maxHeartbeats 4000000 in
theorem l_op12 {o : Nat} (g : 51 < o ∧ o < 60) (ho : o < 60) (hB : EB E) (hB2 : FB F) (hN : oNamed E F o a b = true) (H : MS h sa fa E c F a b M) : wp sc (m_Machine_operate, 32, [(3, .int (nI o)), (0, .ref 13)], [], h) (rI (OP h sa fa E c F a b (oDo E F M o a.toNatClampNeg b.toNatClampNeg))) := by
  have hE := E_len H.1
  have hE2 := E_len2 H.1
  have hE3 : E.2.1.length ≤ 32 := by obtain ⟨⟨_, _, _, z, _⟩, _⟩ := H.1.el; exact z
  have hFl : (fLocs F).length ≤ 40 := by obtain ⟨_, _, _, _, _, _, _, z, _⟩ := H.2.2.2.2.2; exact z
  obtain ⟨tt, tm, th, dr, rf, wt, q1, q2, e13, e14, e18, e1, ec, S⟩ := MS.f H
  have eR : oDo E F M o a.toNatClampNeg b.toNatClampNeg = oVector E F M o a.toNatClampNeg b.toNatClampNeg := by unfold oDo; rw [if_neg (by omega), if_neg (by omega), if_neg (by omega), if_neg (by omega), if_neg (by omega), if_neg (by omega), if_neg (by omega), if_neg (by omega)]
  rw [eR]
  have hN3 : o < 59 → (decide (0 ≤ a) && decide (a < nI E.2.1.length) && (o != 52 || (decide (0 ≤ b) && decide (b ≤ 64)))) = true := by
    intro g2
    rw [oNamed_eq, if_neg (by omega), if_neg (by omega), if_neg (by omega), if_neg (by omega), if_neg (by omega), if_pos (by omega)] at hN
    exact hN
  have ha : o < 59 → a = nI a.toNatClampNeg ∧ a.toNatClampNeg < E.2.1.length := by
    intro g2
    have hN4 := hN3 g2
    rw [Bool.and_eq_true] at hN4
    obtain ⟨k, hk, e1⟩ := at_nat hN4.1 (by omega)
    have c1 : a.toNatClampNeg = k := by rw [e1, nI_clamp (by omega)]
    rw [c1]
    exact ⟨e1, hk⟩
  have hb : o = 52 → b = nI b.toNatClampNeg ∧ b.toNatClampNeg ≤ 64 := by
    intro g2
    have hN4 := hN3 (by omega)
    subst g2
    simp only [Bool.and_eq_true, bne_self_eq_false, Bool.false_or, decide_eq_true_eq] at hN4
    rcases pk_ix b (show 65 < 2 ^ 31 by decide) with z | z | ⟨j, hj, e2⟩
    · exact absurd hN4.2.1 (Int32.not_le.mpr z)
    · have z2 : b ≤ nI 64 := hN4.2.2
      exfalso
      rw [Int32.le_iff_toInt_le] at z z2
      have t1 : (nI 65).toInt = 65 := by decide
      have t2 : (nI 64).toInt = 64 := by decide
      omega
    · have c2 : b.toNatClampNeg = j := by rw [e2, nI_clamp (by omega)]
      rw [c2]
      exact ⟨e2, by omega⟩
  repeat' first | refine wp_Vi rfl rfl (by repeat' first | assumption | refine qset_ne rfl ?_ | refine qset_self (c0 := ?_) ?_ | refine qset_nf (by omega) ?_ | fail) rfl (c_Machine_useVector sc h g.1 g.2 hB.2.1 H ha hb) (fun x h8 P => ?_) | refine wp_ist rfl rfl rfl rfl ?_ | refine wp_lst rfl rfl rfl rfl ?_ | refine wp_iinc rfl rfl rfl rfl ?_ | refine wp_f rfl rfl rfl ?_ | refine wp_getf rfl (by repeat' first | assumption | refine qset_ne rfl ?_ | refine qset_self (c0 := ?_) ?_ | refine qset_nf (by omega) ?_ | fail) rfl ?_ | refine wp_ast rfl rfl rfl rfl ?_ | refine wp_asN rfl rfl rfl rfl ?_ | refine wp_putf rfl (by repeat' first | assumption | refine qset_ne rfl ?_ | refine qset_self (c0 := ?_) ?_ | refine qset_nf (by omega) ?_ | fail) (by exact Nat.le_of_ble_eq_true rfl) rfl ?_ | refine wp_iald rfl (by repeat' first | assumption | refine qset_ne rfl ?_ | refine qset_self (c0 := ?_) ?_ | refine qset_nf (by omega) ?_ | fail) ?_ ?_ | refine wp_lald rfl (by repeat' first | assumption | refine qset_ne rfl ?_ | refine qset_self (c0 := ?_) ?_ | refine qset_nf (by omega) ?_ | fail) ?_ ?_ | refine wp_zald rfl (by repeat' first | assumption | refine qset_ne rfl ?_ | refine qset_self (c0 := ?_) ?_ | refine qset_nf (by omega) ?_ | fail) ?_ ?_ | refine wp_iast rfl (by repeat' first | assumption | refine qset_ne rfl ?_ | refine qset_self (c0 := ?_) ?_ | refine qset_nf (by omega) ?_ | fail) ?_ ?_ | refine wp_last rfl (by repeat' first | assumption | refine qset_ne rfl ?_ | refine qset_self (c0 := ?_) ?_ | refine qset_nf (by omega) ?_ | fail) ?_ ?_ | refine wp_alen rfl (by repeat' first | assumption | refine qset_ne rfl ?_ | refine qset_self (c0 := ?_) ?_ | refine qset_nf (by omega) ?_ | fail) rfl ?_ | refine wp_zast rfl (by repeat' first | assumption | refine qset_ne rfl ?_ | refine qset_self (c0 := ?_) ?_ | refine qset_nf (by omega) ?_ | fail) ?_ ?_ | refine wp_b rfl rfl (fun hc => absurd hc (by decide +kernel)) (fun _ => ?_) | refine wp_b rfl rfl (fun _ => ?_) (fun hc => absurd hc (by decide +kernel)) | refine wp_c2y rfl (by omega) (by omega) (by dsimp only [qn2]; omega) ?_ | refine wp_c2n rfl (by omega) (by omega) (by dsimp only [qn2]; omega) ?_ | refine wp_c1y rfl (by omega) (by first | exact True.intro | (dsimp only [qn1]; omega)) ?_ | refine wp_c1n rfl (by omega) (by first | exact (fun z => z) | (dsimp only [qn1]; omega)) ?_ | refine wp_b rfl rfl (fun hc => ?_) (fun hc => ?_) | refine wp_v rfl rfl ?_ | refine ret_t ?_ | refine ret_f ?_ | fail
  exact P
set_option maxHeartbeats 4000000 in
theorem l_operate {o : Nat} (ho : o < 60) (hB : EB E) (hB2 : FB F) (hN : oNamed E F o a b = true) (H : MS h sa fa E c F a b M) : wp sc (m_Machine_operate, 32, [(3, .int (nI o)), (0, .ref 13)], [], h) (rI (OP h sa fa E c F a b (oDo E F M o a.toNatClampNeg b.toNatClampNeg))) := by
  rcases (show o < 5 ∨ o = 45 ∨ (4 < o ∧ o < 11) ∨ o = 35 ∨ o = 46 ∨ (10 < o ∧ o < 16) ∨ (15 < o ∧ o < 21) ∨ (o = 21 ∨ o = 22) ∨ o = 23 ∨ (23 < o ∧ o < 45 ∧ o ≠ 35) ∨ (46 < o ∧ o < 52) ∨ (51 < o ∧ o < 60) by omega) with g | g | g | g | g | g | g | g | g | g | g | g
  · exact l_op1 sc h g ho hB hB2 hN H
  · exact l_op2 sc h g ho hB hB2 hN H
  · exact l_op3 sc h g ho hB hB2 hN H
  · exact l_op4 sc h g ho hB hB2 hN H
  · exact l_op5 sc h g ho hB hB2 hN H
  · exact l_op6 sc h g ho hB hB2 hN H
  · exact l_op7 sc h g ho hB hB2 hN H
  · exact l_op8 sc h g ho hB hB2 hN H
  · exact l_op9 sc h g ho hB hB2 hN H
  · exact l_op10 sc h g ho hB hB2 hN H
  · exact l_op11 sc h g ho hB hB2 hN H
  · exact l_op12 sc h g ho hB hB2 hN H
end P6
