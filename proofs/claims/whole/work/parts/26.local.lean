/-! Class Machine: drop, leave, steer, constants, locals. -/
def OP (h : qH) (sa fa : Nat → Nat) (E : QE) (c : Nat) (F : QF) (a b : Int32) (R : QR) : Int32 → qH → Prop := fun x h' => x = nI R.1 ∧ ∃ M', MS h' sa fa E c F a b M' ∧ qfx 13 20 h h' ∧ (R.1 = 0 → M' = R.2)
/-- what a value may be: a number that a TYPE's bytes tell, small enough to be borrowed -/
theorem OP.put {h h0 : qH} {sa fa : Nat → Nat} {E : QE} {c : Nat} {F : QF} {a b : Int32} {M : QM} {v : QV} (H : MS h sa fa E c F a b M) (x0 : qfx 13 20 h0 h) {tt tm : Int64} {x : Int32} {h' : qH}
    (P : x = nI (if 64 ≤ M.1.length then 2 else 0) ∧ StkAt h' (if 64 ≤ M.1.length then M.1 else v :: M.1) tt tm ∧ qfx 14 17 h h') : OP h0 sa fa E c F a b (mPut M v) x h' := by
  obtain ⟨e, s, x2⟩ := P
  have H2 := H.stk x2 s
  unfold mPut
  by_cases hq : 64 ≤ M.1.length
  · rw [if_pos hq] at e H2 ⊢
    exact ⟨e, _, H2, x0.tr (x2.mo (by omega) (by omega)), fun z => by cases z⟩
  · rw [if_neg hq] at e H2 ⊢
    exact ⟨e, _, H2, x0.tr (x2.mo (by omega) (by omega)), fun _ => rfl⟩
theorem OP.ok {h h0 : qH} {sa fa : Nat → Nat} {E : QE} {c : Nat} {F : QF} {a b : Int32} {M : QM} (H : MS h sa fa E c F a b M) (x0 : qfx 13 20 h0 h) : OP h0 sa fa E c F a b (0, M) (nI 0) h := ⟨rfl, M, H, x0, fun _ => rfl⟩
theorem OP.no {h h0 : qH} {sa fa : Nat → Nat} {E : QE} {c : Nat} {F : QF} {a b : Int32} {M M' : QM} {w : Nat} (H : MS h sa fa E c F a b M) (x0 : qfx 13 20 h0 h) (hw : w ≠ 0) : OP h0 sa fa E c F a b (w, M') (nI w) h := ⟨rfl, M, H, x0, fun z => absurd z hw⟩
theorem MS.g {h : qH} {sa fa : Nat → Nat} {E : QE} {c : Nat} {F : QF} {a b : Int32} {M : QM} (H : MS h sa fa E c F a b M) {tt tm : Int64} (S : StkAt h M.1 tt tm) : ∃ (th dr rf wt : Int64) (q1 q2 : List Value),
    h[13]? = some (.inr (4, [.ref 1, .ref 14, .ref 18, .ref 20, .ref c, .int a, .int b])) ∧ h[14]? = some (.inr (5, [.ref 15, .ref 16, .ref 17, .int (nI M.1.length), .long tt, .long tm])) ∧
    h[18]? = some (.inr (2, [.ref 19, .int (nI (fLocs F).length), .long th, .long dr, .long rf, .long wt])) ∧ h[1]? = some (.inr (1, q1)) ∧ h[c]? = some (.inr (0, q2)) := by
  obtain ⟨⟨g1, g2, a1, _⟩, ⟨f1, f2, f3, b1, _⟩, _, ⟨d1, _⟩, _, ⟨mk, th, dr, rf, wt, k1, _⟩⟩ := H
  obtain ⟨_, _, _, s1, _⟩ := S
  exact ⟨th, dr, rf, wt, _, _, d1, s1, k1, a1, b1⟩
theorem MS.f {h : qH} {sa fa : Nat → Nat} {E : QE} {c : Nat} {F : QF} {a b : Int32} {M : QM} (H : MS h sa fa E c F a b M) : ∃ (tt tm th dr rf wt : Int64) (q1 q2 : List Value),
    h[13]? = some (.inr (4, [.ref 1, .ref 14, .ref 18, .ref 20, .ref c, .int a, .int b])) ∧ h[14]? = some (.inr (5, [.ref 15, .ref 16, .ref 17, .int (nI M.1.length), .long tt, .long tm])) ∧
    h[18]? = some (.inr (2, [.ref 19, .int (nI (fLocs F).length), .long th, .long dr, .long rf, .long wt])) ∧ h[1]? = some (.inr (1, q1)) ∧ h[c]? = some (.inr (0, q2)) ∧ StkAt h M.1 tt tm := by
  obtain ⟨tt, tm, s⟩ := H.2.2.2.2.1
  obtain ⟨th, dr, rf, wt, q1, q2, r1, r2, r3, r4, r5⟩ := MS.g H s
  exact ⟨tt, tm, th, dr, rf, wt, q1, q2, r1, r2, r3, r4, r5, s⟩
/-- taking a value: none, or v -/
theorem W_take {sc : Nat × (Nat → Int32)} {Q : Option Value → qH → Prop} {k pc nx t2 idx n : Nat} {ls : qL} {rest : List Value} {h : qH} {sa fa : Nat → Nat} {E : QE} {c : Nat} {F : QF} {a b : Int32} {M : QM}
    (H : MS h sa fa E c F a b M) (hi : qins k pc = some (.invokevirtual idx, nx, m_Stack_take, t2)) (hr : Nat.ble (qcats rest) 8 = true) (hn : n < 2 ^ 63)
    (h0 : M.1 = [] → wp sc (k, nx, ls, .int (nI 1) :: rest, h) Q)
    (h1 : ∀ v r h', M.1 = v :: r → MS h' sa fa E c F a b (r, M.2) → StkAt h' r (lN v.1) v.2 → qfx 13 20 h h' → v.1 < 2 ^ 63 → wp sc (k, nx, ls, .int (nI (if v.1 = n then 0 else 3)) :: rest, h') Q) : wp sc (k, pc, ls, .long (lN n) :: .ref 14 :: rest, h) Q := by
  obtain ⟨tt, tm, th, dr, rf, wt, q1, q2, e13, e14, e18, e1, ec, S⟩ := MS.f H
  cases hM : M.1 with
  | nil =>
    rw [hM] at S
    exact wp_Vip hi rfl e14 (by show (true && Nat.ble (qcats rest) 8) = true; rw [hr]; rfl) (c_Stack_take0 sc h S n) (h0 hM)
  | cons v r =>
    rw [hM] at S
    have hv : v.1 < 2 ^ 63 := by obtain ⟨_, _, _, _, _, _, _, _, z⟩ := S; exact z.1.2.2.2
    refine wp_Vi hi rfl e14 (by show (true && Nat.ble (qcats rest) 8) = true; rw [hr]; rfl) (c_Stack_take sc h S n hn) fun x h' ⟨p1, p2, p3⟩ => ?_
    subst p1
    exact h1 v r h' hM (H.stk p3 p2) p2 (p3.mo (by omega) (by omega)) hv
section M2
variable (sc : Nat × (Nat → Int32)) (h : qH) {sa fa : Nat → Nat} {E : QE} {c : Nat} {F : QF} {a b : Int32} {M : QM}
theorem c_Machine_drop (H : MS h sa fa E c F a b M) : wp sc (m_Machine_drop, 0, qargs 0 [.ref 13], [], h) (rI (OP h sa fa E c F a b (oSteer E F M 0))) := by
  obtain ⟨stk, loc⟩ := M
  have H0 := H
  obtain ⟨h1, h2, h3, ⟨h4, g, h40⟩, ⟨tt, tm, h5⟩, h6⟩ := H
  have h50 := h5
  obtain ⟨ty, wr, mk, i1, i2, i3, i4, i5, i6⟩ := h5
  cases stk with
  | nil =>
    repeat' first | refine wp_Vip rfl rfl (by repeat' first | assumption | refine qset_ne rfl ?_ | refine qset_self (c0 := ?_) ?_ | refine qset_nf (by omega) ?_ | fail) rfl (c_Stack_takeAny0 sc h h50) ?_ | refine wp_ist rfl rfl rfl rfl ?_ | refine wp_lst rfl rfl rfl rfl ?_ | refine wp_iinc rfl rfl rfl rfl ?_ | refine wp_f rfl rfl rfl ?_ | refine wp_getf rfl (by repeat' first | assumption | refine qset_ne rfl ?_ | refine qset_self (c0 := ?_) ?_ | refine qset_nf (by omega) ?_ | fail) rfl ?_ | refine wp_ast rfl rfl rfl rfl ?_ | refine wp_asN rfl rfl rfl rfl ?_ | refine wp_putf rfl (by repeat' first | assumption | refine qset_ne rfl ?_ | refine qset_self (c0 := ?_) ?_ | refine qset_nf (by omega) ?_ | fail) (by exact Nat.le_of_ble_eq_true rfl) rfl ?_ | refine wp_iald rfl (by repeat' first | assumption | refine qset_ne rfl ?_ | refine qset_self (c0 := ?_) ?_ | refine qset_nf (by omega) ?_ | fail) ?_ ?_ | refine wp_lald rfl (by repeat' first | assumption | refine qset_ne rfl ?_ | refine qset_self (c0 := ?_) ?_ | refine qset_nf (by omega) ?_ | fail) ?_ ?_ | refine wp_zald rfl (by repeat' first | assumption | refine qset_ne rfl ?_ | refine qset_self (c0 := ?_) ?_ | refine qset_nf (by omega) ?_ | fail) ?_ ?_ | refine wp_iast rfl (by repeat' first | assumption | refine qset_ne rfl ?_ | refine qset_self (c0 := ?_) ?_ | refine qset_nf (by omega) ?_ | fail) ?_ ?_ | refine wp_last rfl (by repeat' first | assumption | refine qset_ne rfl ?_ | refine qset_self (c0 := ?_) ?_ | refine qset_nf (by omega) ?_ | fail) ?_ ?_ | refine wp_alen rfl (by repeat' first | assumption | refine qset_ne rfl ?_ | refine qset_self (c0 := ?_) ?_ | refine qset_nf (by omega) ?_ | fail) rfl ?_ | refine wp_zast rfl (by repeat' first | assumption | refine qset_ne rfl ?_ | refine qset_self (c0 := ?_) ?_ | refine qset_nf (by omega) ?_ | fail) ?_ ?_ | refine wp_b rfl rfl (fun hc => absurd hc (by decide +kernel)) (fun _ => ?_) | refine wp_b rfl rfl (fun _ => ?_) (fun hc => absurd hc (by decide +kernel)) | refine wp_b rfl rfl (fun hc => ?_) (fun hc => ?_) | refine wp_v rfl rfl ?_ | refine ret_t ?_ | refine ret_f ?_ | fail
    exact OP.no H0 qfx.rf (by decide)
  | cons v r =>
    have hv : v.1 < 2 ^ 63 := i6.1.2.2.2
    refine wp_n rfl rfl ?_
    refine wp_getf rfl (by repeat' first | assumption | refine qset_ne rfl ?_ | refine qset_self (c0 := ?_) ?_ | refine qset_nf (by omega) ?_ | fail) rfl ?_
    refine wp_Vi rfl rfl (by repeat' first | assumption | refine qset_ne rfl ?_ | refine qset_self (c0 := ?_) ?_ | refine qset_nf (by omega) ?_ | fail) rfl (c_Stack_takeAny sc h h50) ?_
    intro x h7 ⟨e1, H2, x2⟩
    subst e1
    have H3 := H0.stk x2 H2
    have x3 : qfx 13 20 h h7 := x2.mo (by omega) (by omega)
    have h4' := H3.2.2.2.1.1
    have h1' := H3.1
    have hl1 : ∃ q, h7[1]? = some (.inr (1, q)) := by obtain ⟨g1, g2, a1, _⟩ := h1'; exact ⟨_, a1⟩
    obtain ⟨q1, hl1⟩ := hl1
    obtain ⟨ty2, wr2, mk2, j1, j2, j3, j4, j5, j6⟩ := H2
    repeat' first | refine wp_Vip rfl rfl (by repeat' first | assumption | refine qset_ne rfl ?_ | refine qset_self (c0 := ?_) ?_ | refine qset_nf (by omega) ?_ | fail) rfl (c_Ledger_can sc h7 h1' v.1 2 hv (by decide)) ?_ | refine wp_ist rfl rfl rfl rfl ?_ | refine wp_lst rfl rfl rfl rfl ?_ | refine wp_iinc rfl rfl rfl rfl ?_ | refine wp_f rfl rfl rfl ?_ | refine wp_getf rfl (by repeat' first | assumption | refine qset_ne rfl ?_ | refine qset_self (c0 := ?_) ?_ | refine qset_nf (by omega) ?_ | fail) rfl ?_ | refine wp_ast rfl rfl rfl rfl ?_ | refine wp_asN rfl rfl rfl rfl ?_ | refine wp_putf rfl (by repeat' first | assumption | refine qset_ne rfl ?_ | refine qset_self (c0 := ?_) ?_ | refine qset_nf (by omega) ?_ | fail) (by exact Nat.le_of_ble_eq_true rfl) rfl ?_ | refine wp_iald rfl (by repeat' first | assumption | refine qset_ne rfl ?_ | refine qset_self (c0 := ?_) ?_ | refine qset_nf (by omega) ?_ | fail) ?_ ?_ | refine wp_lald rfl (by repeat' first | assumption | refine qset_ne rfl ?_ | refine qset_self (c0 := ?_) ?_ | refine qset_nf (by omega) ?_ | fail) ?_ ?_ | refine wp_zald rfl (by repeat' first | assumption | refine qset_ne rfl ?_ | refine qset_self (c0 := ?_) ?_ | refine qset_nf (by omega) ?_ | fail) ?_ ?_ | refine wp_iast rfl (by repeat' first | assumption | refine qset_ne rfl ?_ | refine qset_self (c0 := ?_) ?_ | refine qset_nf (by omega) ?_ | fail) ?_ ?_ | refine wp_last rfl (by repeat' first | assumption | refine qset_ne rfl ?_ | refine qset_self (c0 := ?_) ?_ | refine qset_nf (by omega) ?_ | fail) ?_ ?_ | refine wp_alen rfl (by repeat' first | assumption | refine qset_ne rfl ?_ | refine qset_self (c0 := ?_) ?_ | refine qset_nf (by omega) ?_ | fail) rfl ?_ | refine wp_zast rfl (by repeat' first | assumption | refine qset_ne rfl ?_ | refine qset_self (c0 := ?_) ?_ | refine qset_nf (by omega) ?_ | fail) ?_ ?_ | refine wp_b rfl rfl (fun hc => absurd hc (by decide +kernel)) (fun _ => ?_) | refine wp_b rfl rfl (fun _ => ?_) (fun hc => absurd hc (by decide +kernel)) | refine wp_b rfl rfl (fun hc => ?_) (fun hc => ?_) | refine wp_v rfl rfl ?_ | refine ret_t ?_ | refine ret_f ?_ | fail
    all_goals (try simp (disch := omega) only [c2_eq, c2_ne, c2_lt, c2_ge, c2_gt, c2_le, c1_eq, c1_ne, c1_lt, c1_le, c1_gt, c1_ge, lg_le, lg_lt, lg_ge, lg_gt, lg_eq, lg_ne, bI_eq, bI_ne, qlc_0, qlc_2, qlc_3, qlc_4, qlc_5, qlc_7, qlc_8, qlc_9, qlc_10, qlc_11, qlc_12, qlc_14, lN_eq0, lN_leN, lN_ltN, lN_eqN, decide_eq_true_eq, decide_eq_false_iff_not, Bool.not_eq_true', Bool.not_eq_false'] at *)
    · show OP h sa fa E c F a b (mIf (eCan E v.1 2) 4 (r, loc) (0, (r, loc))) _ _
      rw [hc]; exact OP.no H3 x3 (by decide)
    · show OP h sa fa E c F a b (mIf (eCan E v.1 2) 4 (r, loc) (0, (r, loc))) _ _
      rw [hc]; exact OP.ok H3 x3
theorem c_Machine_copyLocal (hT : ∀ k, fTy F k < 2 ^ 56) {k : Nat} (H : MS h sa fa E c F (nI k) b M) (hk : k < (fLocs F).length) {z : Int64} (hz : M.2 k = some z) : wp sc (m_Machine_copyLocal, 0, qargs 0 [.ref 13], [], h) (rI (OP h sa fa E c F (nI k) b (oLocal E F M 11 k))) := by
  have hN : (fLocs F).length ≤ 40 := by obtain ⟨_, _, _, _, _, _, _, z, _⟩ := H.2.2.2.2.2; exact z
  have ht := hT k
  have eR : oLocal E F M 11 k = mIf (eCan E (fTy F k) 1) 4 M (mIf (tref (fTy F k) || !mAny F M true (lbit k)) 6 M (mPut M (fTy F k, z))) := by unfold oLocal; simp [hz]
  rw [eR]
  obtain ⟨tt, tm, th, dr, rf, wt, q1, q2, e13, e14, e18, e1, ec, S⟩ := MS.f H
  have hp := c_Stack_put sc h S (fTy F k, z) (by show fTy F k < 2 ^ 63; omega)
  have hma := c_Locals_marksOf sc h H.2.2.2.2.2 k hk
  rw [hz] at hma
  repeat' first | refine wp_Vlp rfl rfl (by repeat' first | assumption | refine qset_ne rfl ?_ | refine qset_self (c0 := ?_) ?_ | refine qset_nf (by omega) ?_ | fail) rfl (c_Code_localType sc h H.2.1 k (by omega)) ?_ | refine wp_Vip rfl rfl (by repeat' first | assumption | refine qset_ne rfl ?_ | refine qset_self (c0 := ?_) ?_ | refine qset_nf (by omega) ?_ | fail) rfl (c_Ledger_can sc h H.1 (fTy F k) 1 (by omega) (by decide)) ?_ | refine wp_Vip rfl rfl (by repeat' first | assumption | refine qset_ne rfl ?_ | refine qset_self (c0 := ?_) ?_ | refine qset_nf (by omega) ?_ | fail) rfl (c_Locals_isReference sc h H.2.2.2.2.2 k hk) ?_ | refine wp_Slp rfl rfl rfl (c_Locals_bit sc h k (by omega)) ?_ | refine wp_Vip rfl rfl (by repeat' first | assumption | refine qset_ne rfl ?_ | refine qset_self (c0 := ?_) ?_ | refine qset_nf (by omega) ?_ | fail) rfl (c_Machine_isLive sc h H 1 (by decide) (lbit k)) ?_ | refine wp_Vlp rfl rfl (by repeat' first | assumption | refine qset_ne rfl ?_ | refine qset_self (c0 := ?_) ?_ | refine qset_nf (by omega) ?_ | fail) rfl (hma) ?_ | refine wp_Vi rfl rfl (by repeat' first | assumption | refine qset_ne rfl ?_ | refine qset_self (c0 := ?_) ?_ | refine qset_nf (by omega) ?_ | fail) rfl (hp) (fun x h' P => ?_) | refine wp_ist rfl rfl rfl rfl ?_ | refine wp_lst rfl rfl rfl rfl ?_ | refine wp_iinc rfl rfl rfl rfl ?_ | refine wp_f rfl rfl rfl ?_ | refine wp_getf rfl (by repeat' first | assumption | refine qset_ne rfl ?_ | refine qset_self (c0 := ?_) ?_ | refine qset_nf (by omega) ?_ | fail) rfl ?_ | refine wp_ast rfl rfl rfl rfl ?_ | refine wp_asN rfl rfl rfl rfl ?_ | refine wp_putf rfl (by repeat' first | assumption | refine qset_ne rfl ?_ | refine qset_self (c0 := ?_) ?_ | refine qset_nf (by omega) ?_ | fail) (by exact Nat.le_of_ble_eq_true rfl) rfl ?_ | refine wp_iald rfl (by repeat' first | assumption | refine qset_ne rfl ?_ | refine qset_self (c0 := ?_) ?_ | refine qset_nf (by omega) ?_ | fail) ?_ ?_ | refine wp_lald rfl (by repeat' first | assumption | refine qset_ne rfl ?_ | refine qset_self (c0 := ?_) ?_ | refine qset_nf (by omega) ?_ | fail) ?_ ?_ | refine wp_zald rfl (by repeat' first | assumption | refine qset_ne rfl ?_ | refine qset_self (c0 := ?_) ?_ | refine qset_nf (by omega) ?_ | fail) ?_ ?_ | refine wp_iast rfl (by repeat' first | assumption | refine qset_ne rfl ?_ | refine qset_self (c0 := ?_) ?_ | refine qset_nf (by omega) ?_ | fail) ?_ ?_ | refine wp_last rfl (by repeat' first | assumption | refine qset_ne rfl ?_ | refine qset_self (c0 := ?_) ?_ | refine qset_nf (by omega) ?_ | fail) ?_ ?_ | refine wp_alen rfl (by repeat' first | assumption | refine qset_ne rfl ?_ | refine qset_self (c0 := ?_) ?_ | refine qset_nf (by omega) ?_ | fail) rfl ?_ | refine wp_zast rfl (by repeat' first | assumption | refine qset_ne rfl ?_ | refine qset_self (c0 := ?_) ?_ | refine qset_nf (by omega) ?_ | fail) ?_ ?_ | refine wp_b rfl rfl (fun hc => absurd hc (by decide +kernel)) (fun _ => ?_) | refine wp_b rfl rfl (fun _ => ?_) (fun hc => absurd hc (by decide +kernel)) | refine wp_b rfl rfl (fun hc => ?_) (fun hc => ?_) | refine wp_v rfl rfl ?_ | refine ret_t ?_ | refine ret_f ?_ | fail
  all_goals (try rw [live_any1] at *)
  all_goals (try simp (disch := omega) only [c2_eq, c2_ne, c2_lt, c2_ge, c2_gt, c2_le, c1_eq, c1_ne, c1_lt, c1_le, c1_gt, c1_ge, lg_le, lg_lt, lg_ge, lg_gt, lg_eq, lg_ne, bI_eq, bI_ne, qlc_0, qlc_2, qlc_3, qlc_4, qlc_5, qlc_7, qlc_8, qlc_9, qlc_10, qlc_11, qlc_12, qlc_14, lN_eq0, lN_leN, lN_ltN, lN_eqN, decide_eq_true_eq, decide_eq_false_iff_not, Bool.not_eq_true', Bool.not_eq_false'] at *)
  · show OP h sa fa E c F (nI k) b (mIf (eCan E (fTy F k) 1) 4 M (mIf (tref (fTy F k) || !mAny F M true (lbit k)) 6 M (mPut M (fTy F k, z)))) x h'
    rename_i w1; rw [w1, hc]; exact OP.put H qfx.rf P
  · show OP h sa fa E c F (nI k) b (mIf (eCan E (fTy F k) 1) 4 M (mIf (tref (fTy F k) || !mAny F M true (lbit k)) 6 M (mPut M (fTy F k, z)))) x h'
    rename_i w1 w2; rw [w1, w2, hc]; exact OP.put H qfx.rf P
  · show OP h sa fa E c F (nI k) b (mIf (eCan E (fTy F k) 1) 4 M (mIf (tref (fTy F k) || !mAny F M true (lbit k)) 6 M (mPut M (fTy F k, z)))) _ h
    rename_i w1 w2; rw [w1, w2, hc]; exact OP.no H qfx.rf (by decide)
  · show OP h sa fa E c F (nI k) b (mIf (eCan E (fTy F k) 1) 4 M (mIf (tref (fTy F k) || !mAny F M true (lbit k)) 6 M (mPut M (fTy F k, z)))) _ h
    rw [hc]; exact OP.no H qfx.rf (by decide)
end M2
