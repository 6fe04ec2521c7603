/-! Class Locals: begin. -/
theorem lb_step {x : Int64} {i : Nat} {P : Nat → Bool} {b : Bool} (hi : i < 64) (hx : ∀ k, k < 64 → lb x k = (decide (k < i) && P k)) (hP : P i = b) : ∀ k, k < 64 → lb (x ||| cond b (lbit i) 0) k = (decide (k < i + 1) && P k) := by
  intro k hk
  have e : lb (cond b (lbit i) 0) k = (b && decide (k = i)) := by
    cases b with
    | false => exact lb_zero k
    | true => exact lb_bit hi hk
  rw [lb_or, hx k hk, e]
  by_cases hki : k = i
  · subst hki
    simp [hP]
  · have e2 : decide (k < i + 1) = decide (k < i) := decide_eq_decide.mpr (by omega)
    rw [e2]
    simp [hki]
theorem wp_min {sc : Nat × (Nat → Int32)} {Q : Option Value → qH → Prop} {k pc nx t2 idx : Nat} {ls : qL} {rest : List Value} {h : qH} {x y z : Int32} (hi : qins k pc = some (.invokestatic idx, nx, 1000, t2)) (hz : (if y < x then y else x) = z) (hr : Nat.ble (qcats rest) 8 = true) (hw : wp sc (k, nx, ls, .int z :: rest, h) Q) : wp sc (k, pc, ls, .int y :: .int x :: rest, h) Q := by
  subst hz
  refine wp_N ?_ hw
  unfold qstep
  simp only [hi, qstepI, s_static, s_min, hr]
def LcRaw (h : qH) : Prop := (∃ v1 v2 v3 v4 v5 : Value, h[18]? = some (.inr (2, [.ref 19, v1, v2, v3, v4, v5]))) ∧ ∃ mk : Nat → Int64, h[19]? = some (.inl (1, 40, .inr (.inl mk)))
theorem LocAt.raw {h : qH} {E : QE} {F : QF} {loc : Nat → Option Int64} (H : LocAt h E F loc) : LcRaw h := by
  obtain ⟨mk, th, dr, rf, wt, h1, h2, h3⟩ := H
  exact ⟨⟨_, _, _, _, _, h1⟩, mk, h2⟩
def lBeg (F : QF) (i : Nat) : Nat → Option Int64 := fun k => if k < i then some (if tref (fTy F k) then lbit (40 + k) else 0) else none
theorem lbit40 : ∀ k, k < 8 → (1 : Int64) <<< ((nI 40 + nI k).toInt64 &&& 63) = lbit (40 + k) := by decide +kernel
section LB
variable (sc : Nat × (Nat → Int32)) (h : qH) {sa fa : Nat → Nat} {E : QE} {c : Nat} {F : QF}
theorem l_begin1 (hF : ∀ k, fTy F k < 2 ^ 63) (hN : (fLocs F).length ≤ 40) (HL : LdAt h sa fa E) (HC : CdAt h c F) (h49 : 49 ≤ c) {Q : Option Value → qH → Prop} (hQ : ∀ h1, LocAt h1 E F (fun _ => none) → qfx 18 19 h h1 → wp sc (m_Locals_begin, 140, [(2, .ref 1), (1, .ref c), (0, .ref 18)], [], h1) Q) :
    ∀ m i, m + i = (fLocs F).length → ∀ (h1 : qH) (mk : Nat → Int64) (dr rf wt : Int64), h1[18]? = some (.inr (2, [.ref 19, .int (nI (fLocs F).length), .long 0, .long dr, .long rf, .long wt])) → h1[19]? = some (.inl (1, 40, .inr (.inl mk))) → qfx 18 19 h h1 →
    (∀ k, k < 64 → lb dr k = (decide (k < i) && eCan E (fTy F k) 2)) → (∀ k, k < 64 → lb rf k = (decide (k < i) && tref (fTy F k))) → (∀ k, k < 64 → lb wt k = (decide (k < i) && twr (fTy F k))) → (∀ k, k < i → mk k = 0) →
    wp sc (m_Locals_begin, 35, [(3, .int (nI i)), (2, .ref 1), (1, .ref c), (0, .ref 18)], [], h1) Q := by
  intro m
  induction m with
  | zero =>
    intro i hi h1 mk dr rf wt e18 e19 x1 g1 g2 g3 g4
    have ei : i = (fLocs F).length := by omega
    subst ei
    refine wp_n rfl rfl ?_
    refine wp_n rfl rfl ?_
    refine wp_getf rfl (by repeat' first | assumption | refine qset_ne rfl ?_ | refine qset_self (c0 := ?_) ?_ | refine qset_nf (by omega) ?_ | fail) rfl ?_
    refine wp_b rfl rfl (fun hc => ?_) (fun hc => ?_)
    · refine wp_sub (hQ h1 ⟨mk, 0, dr, rf, wt, e18, e19, hN, fun k hk => by rw [lb_zero]; simp, g1, g2, g3, g4⟩ x1) rfl ⟨rfl, rfl, rfl, trivial⟩
    · (try simp (disch := omega) only [c2_eq, c2_ne, c2_lt, c2_ge, c2_gt, c2_le, c1_eq, c1_ne, c1_lt, c1_le, c1_gt, c1_ge, lg_le, lg_lt, lg_ge, lg_gt, lg_eq, lg_ne, bI_eq, bI_ne, qlc_0, qlc_2, qlc_3, qlc_4, qlc_5, qlc_7, qlc_8, qlc_9, qlc_10, qlc_11, qlc_12, qlc_14, lN_eq0, lN_leN, lN_ltN, lN_eqN, decide_eq_true_eq, decide_eq_false_iff_not, Bool.not_eq_true', Bool.not_eq_false'] at *)
      omega
  | succ m ih =>
    intro i hi h1 mk dr rf wt e18 e19 x1 g1 g2 g3 g4
    have HL1 := HL.fx x1 (by omega) (by omega)
    have HC1 := HC.fx x1 (by omega)
    obtain ⟨_, v2, v4, e1⟩ := HL1.el
    have ec : ∃ fs, h1[c]? = some (.inr (0, fs)) := by obtain ⟨f1, f2, f3, b1, _⟩ := HC1; exact ⟨_, b1⟩
    obtain ⟨fs, ec⟩ := ec
    have ht := hF i
    have ca := fun (h2 : qH) (H2 : LdAt h2 sa fa E) => c_Ledger_can sc h2 H2 (fTy F i) 2 ht (by decide)
    have ir := fun h2 => c_Type_isReference sc h2 (fTy F i) ht
    have iw := fun h2 => c_Type_isWriting sc h2 (fTy F i) ht
    have bt := fun h2 => c_Locals_bit sc h2 i (show i < 64 by omega)
    refine wp_n rfl rfl ?_
    refine wp_n rfl rfl ?_
    refine wp_getf rfl (by repeat' first | assumption | refine qset_ne rfl ?_ | refine qset_self (c0 := ?_) ?_ | refine qset_nf (by omega) ?_ | fail) rfl ?_
    refine wp_b rfl rfl (fun hc => ?_) (fun hc => ?_)
    · (try simp (disch := omega) only [c2_eq, c2_ne, c2_lt, c2_ge, c2_gt, c2_le, c1_eq, c1_ne, c1_lt, c1_le, c1_gt, c1_ge, lg_le, lg_lt, lg_ge, lg_gt, lg_eq, lg_ne, bI_eq, bI_ne, qlc_0, qlc_2, qlc_3, qlc_4, qlc_5, qlc_7, qlc_8, qlc_9, qlc_10, qlc_11, qlc_12, qlc_14, lN_eq0, lN_leN, lN_ltN, lN_eqN, decide_eq_true_eq, decide_eq_false_iff_not, Bool.not_eq_true', Bool.not_eq_false'] at *)
      omega
    · have s1 := fun b (hb : eCan E (fTy F i) 2 = b) => lb_step (show i < 64 by omega) g1 hb
      have s2 := fun b (hb : tref (fTy F i) = b) => lb_step (show i < 64 by omega) g2 hb
      have s3 := fun b (hb : twr (fTy F i) = b) => lb_step (show i < 64 by omega) g3 hb
      have s4 : ∀ k, k < i + 1 → vp_updL mk i 0 k = 0 := by
        intro k hk
        unfold vp_updL
        by_cases hki : k = i
        · rw [if_pos hki]
        · rw [if_neg hki]
          exact g4 k (by omega)
      have hRW : (tref (fTy F i) = true ∧ twr (fTy F i) = true) ∨ (tref (fTy F i) = true ∧ twr (fTy F i) = false) ∨ (tref (fTy F i) = false ∧ twr (fTy F i) = false) := by
        cases hW : twr (fTy F i) with
        | true => exact Or.inl ⟨twr_tref hW, rfl⟩
        | false =>
          cases hR : tref (fTy F i) with
          | true => exact Or.inr (Or.inl ⟨rfl, rfl⟩)
          | false => exact Or.inr (Or.inr ⟨rfl, rfl⟩)
      cases hC : eCan E (fTy F i) 2 <;> rcases hRW with ⟨hR, hW⟩ | ⟨hR, hW⟩ | ⟨hR, hW⟩
      all_goals
        rw [hC] at ca
        simp only [hR] at ir
        simp only [hW] at iw
        repeat' first | refine wp_Vlp rfl rfl (by repeat' first | assumption | refine qset_ne rfl ?_ | refine qset_self (c0 := ?_) ?_ | refine qset_nf (by omega) ?_ | fail) rfl (c_Code_localType sc _ HC1 i (by omega)) ?_ | refine wp_Vip rfl rfl (by repeat' first | assumption | refine qset_ne rfl ?_ | refine qset_self (c0 := ?_) ?_ | refine qset_nf (by omega) ?_ | fail) rfl (ca _ HL1) ?_ | refine wp_Slp rfl rfl rfl (bt _) ?_ | refine wp_Sip rfl rfl rfl (ir _) ?_ | refine wp_Sip rfl rfl rfl (iw _) ?_ | refine wp_ist rfl rfl rfl rfl ?_ | refine wp_lst rfl rfl rfl rfl ?_ | refine wp_iinc rfl rfl rfl rfl ?_ | refine wp_f rfl rfl rfl ?_ | refine wp_getf rfl (by repeat' first | assumption | refine qset_ne rfl ?_ | refine qset_self (c0 := ?_) ?_ | refine qset_nf (by omega) ?_ | fail) rfl ?_ | refine wp_ast rfl rfl rfl rfl ?_ | refine wp_asN rfl rfl rfl rfl ?_ | refine wp_putf rfl (by repeat' first | assumption | refine qset_ne rfl ?_ | refine qset_self (c0 := ?_) ?_ | refine qset_nf (by omega) ?_ | fail) (by exact Nat.le_of_ble_eq_true rfl) rfl ?_ | refine wp_iald rfl (by repeat' first | assumption | refine qset_ne rfl ?_ | refine qset_self (c0 := ?_) ?_ | refine qset_nf (by omega) ?_ | fail) ?_ ?_ | refine wp_lald rfl (by repeat' first | assumption | refine qset_ne rfl ?_ | refine qset_self (c0 := ?_) ?_ | refine qset_nf (by omega) ?_ | fail) ?_ ?_ | refine wp_zald rfl (by repeat' first | assumption | refine qset_ne rfl ?_ | refine qset_self (c0 := ?_) ?_ | refine qset_nf (by omega) ?_ | fail) ?_ ?_ | refine wp_iast rfl (by repeat' first | assumption | refine qset_ne rfl ?_ | refine qset_self (c0 := ?_) ?_ | refine qset_nf (by omega) ?_ | fail) ?_ ?_ | refine wp_last rfl (by repeat' first | assumption | refine qset_ne rfl ?_ | refine qset_self (c0 := ?_) ?_ | refine qset_nf (by omega) ?_ | fail) ?_ ?_ | refine wp_alen rfl (by repeat' first | assumption | refine qset_ne rfl ?_ | refine qset_self (c0 := ?_) ?_ | refine qset_nf (by omega) ?_ | fail) rfl ?_ | refine wp_zast rfl (by repeat' first | assumption | refine qset_ne rfl ?_ | refine qset_self (c0 := ?_) ?_ | refine qset_nf (by omega) ?_ | fail) ?_ ?_ | refine wp_b rfl rfl (fun hc => absurd hc (by decide +kernel)) (fun _ => ?_) | refine wp_b rfl rfl (fun _ => ?_) (fun hc => absurd hc (by decide +kernel)) | refine wp_b rfl rfl (fun hc => ?_) (fun hc => ?_) | refine wp_v rfl rfl ?_ | refine ret_t ?_ | refine ret_f ?_ | fail
        · exact qin_nI (by omega) (by omega)
        · rw [nI_clamp (show i < 2 ^ 31 by omega)]
          refine wp_n rfl rfl ?_
          rw [nI_inc]
          refine wp_sub (ih (i + 1) (by omega) _ _ _ _ _ (by repeat' first | assumption | refine qset_ne rfl ?_ | refine qset_self (c0 := ?_) ?_ | refine qset_nf (by omega) ?_ | fail) (by repeat' first | assumption | refine qset_ne rfl ?_ | refine qset_self (c0 := ?_) ?_ | refine qset_nf (by omega) ?_ | fail) ?_ (s1 _ hC) (s2 _ hR) (s3 _ hW) s4) rfl ⟨rfl, rfl, rfl, rfl, trivial⟩
          exact x1.tr (by repeat' first | exact qfx.rf | refine qfx.sta ?_ (by repeat' first | assumption | refine qset_ne rfl ?_ | refine qset_self (c0 := ?_) ?_ | refine qset_nf (by omega) ?_ | fail) (by omega) (by omega) | refine qfx.sto ?_ (by repeat' first | assumption | refine qset_ne rfl ?_ | refine qset_self (c0 := ?_) ?_ | refine qset_nf (by omega) ?_ | fail) (by omega) (by omega) | fail)
theorem l_begin2 (hN : (fLocs F).length ≤ 40) (HC : CdAt h c F) (h49 : 49 ≤ c) : ∀ m i, m + i = (fTakes F).length → ∀ h1 : qH, LocAt h1 E F (lBeg F i) → qfx 18 19 h h1 →
    wp sc (m_Locals_begin, 142, [(3, .int (nI i)), (1, .ref c), (0, .ref 18)], [], h1) (rU fun h' => LocAt h' E F (lBeg F (fTakes F).length) ∧ qfx 18 19 h h') := by
  have hle : (fTakes F).length ≤ (fLocs F).length := by unfold fLocs; rw [List.length_append]; omega
  have h8 := HC.lens
  intro m
  induction m with
  | zero =>
    intro i hi h1 L x1
    have ei : i = (fTakes F).length := by omega
    subst ei
    obtain ⟨f1, f2, f3, b1, ⟨u, u1, u2, u3⟩, b3⟩ := HC.fx x1 (show c + 9 < 18 ∨ 19 < c by omega)
    refine wp_n rfl rfl ?_
    refine wp_n rfl rfl ?_
    refine wp_getf rfl (by repeat' first | assumption | refine qset_ne rfl ?_ | refine qset_self (c0 := ?_) ?_ | refine qset_nf (by omega) ?_ | fail) rfl ?_
    refine wp_getf rfl (by repeat' first | assumption | refine qset_ne rfl ?_ | refine qset_self (c0 := ?_) ?_ | refine qset_nf (by omega) ?_ | fail) rfl ?_
    refine wp_b rfl rfl (fun hc => ?_) (fun hc => ?_)
    · repeat' first | refine wp_ist rfl rfl rfl rfl ?_ | refine wp_lst rfl rfl rfl rfl ?_ | refine wp_iinc rfl rfl rfl rfl ?_ | refine wp_f rfl rfl rfl ?_ | refine wp_getf rfl (by repeat' first | assumption | refine qset_ne rfl ?_ | refine qset_self (c0 := ?_) ?_ | refine qset_nf (by omega) ?_ | fail) rfl ?_ | refine wp_ast rfl rfl rfl rfl ?_ | refine wp_asN rfl rfl rfl rfl ?_ | refine wp_putf rfl (by repeat' first | assumption | refine qset_ne rfl ?_ | refine qset_self (c0 := ?_) ?_ | refine qset_nf (by omega) ?_ | fail) (by exact Nat.le_of_ble_eq_true rfl) rfl ?_ | refine wp_iald rfl (by repeat' first | assumption | refine qset_ne rfl ?_ | refine qset_self (c0 := ?_) ?_ | refine qset_nf (by omega) ?_ | fail) ?_ ?_ | refine wp_lald rfl (by repeat' first | assumption | refine qset_ne rfl ?_ | refine qset_self (c0 := ?_) ?_ | refine qset_nf (by omega) ?_ | fail) ?_ ?_ | refine wp_zald rfl (by repeat' first | assumption | refine qset_ne rfl ?_ | refine qset_self (c0 := ?_) ?_ | refine qset_nf (by omega) ?_ | fail) ?_ ?_ | refine wp_iast rfl (by repeat' first | assumption | refine qset_ne rfl ?_ | refine qset_self (c0 := ?_) ?_ | refine qset_nf (by omega) ?_ | fail) ?_ ?_ | refine wp_last rfl (by repeat' first | assumption | refine qset_ne rfl ?_ | refine qset_self (c0 := ?_) ?_ | refine qset_nf (by omega) ?_ | fail) ?_ ?_ | refine wp_alen rfl (by repeat' first | assumption | refine qset_ne rfl ?_ | refine qset_self (c0 := ?_) ?_ | refine qset_nf (by omega) ?_ | fail) rfl ?_ | refine wp_zast rfl (by repeat' first | assumption | refine qset_ne rfl ?_ | refine qset_self (c0 := ?_) ?_ | refine qset_nf (by omega) ?_ | fail) ?_ ?_ | refine wp_b rfl rfl (fun hc => absurd hc (by decide +kernel)) (fun _ => ?_) | refine wp_b rfl rfl (fun _ => ?_) (fun hc => absurd hc (by decide +kernel)) | refine wp_b rfl rfl (fun hc => ?_) (fun hc => ?_) | refine wp_v rfl rfl ?_ | refine ret_t ?_ | refine ret_f ?_ | fail
      exact ⟨L, x1⟩
    · (try simp (disch := omega) only [c2_eq, c2_ne, c2_lt, c2_ge, c2_gt, c2_le, c1_eq, c1_ne, c1_lt, c1_le, c1_gt, c1_ge, lg_le, lg_lt, lg_ge, lg_gt, lg_eq, lg_ne, bI_eq, bI_ne, qlc_0, qlc_2, qlc_3, qlc_4, qlc_5, qlc_7, qlc_8, qlc_9, qlc_10, qlc_11, qlc_12, qlc_14, lN_eq0, lN_leN, lN_ltN, lN_eqN, decide_eq_true_eq, decide_eq_false_iff_not, Bool.not_eq_true', Bool.not_eq_false'] at *)
      omega
  | succ m ih =>
    intro i hi h1 L x1
    obtain ⟨f1, f2, f3, b1, ⟨u, u1, u2, u3⟩, b3⟩ := HC.fx x1 (show c + 9 < 18 ∨ 19 < c by omega)
    obtain ⟨mk, th, dr, rf, wt, l1, l2⟩ := id L
    have ir := c_Locals_isReference sc h1 L i (by omega)
    refine wp_n rfl rfl ?_
    refine wp_n rfl rfl ?_
    refine wp_getf rfl (by repeat' first | assumption | refine qset_ne rfl ?_ | refine qset_self (c0 := ?_) ?_ | refine qset_nf (by omega) ?_ | fail) rfl ?_
    refine wp_getf rfl (by repeat' first | assumption | refine qset_ne rfl ?_ | refine qset_self (c0 := ?_) ?_ | refine qset_nf (by omega) ?_ | fail) rfl ?_
    refine wp_b rfl rfl (fun hc => ?_) (fun hc => ?_)
    · (try simp (disch := omega) only [c2_eq, c2_ne, c2_lt, c2_ge, c2_gt, c2_le, c1_eq, c1_ne, c1_lt, c1_le, c1_gt, c1_ge, lg_le, lg_lt, lg_ge, lg_gt, lg_eq, lg_ne, bI_eq, bI_ne, qlc_0, qlc_2, qlc_3, qlc_4, qlc_5, qlc_7, qlc_8, qlc_9, qlc_10, qlc_11, qlc_12, qlc_14, lN_eq0, lN_leN, lN_ltN, lN_eqN, decide_eq_true_eq, decide_eq_false_iff_not, Bool.not_eq_true', Bool.not_eq_false'] at *)
      omega
    · have e : ∀ v, (if tref (fTy F i) then lbit (40 + i) else 0) = v → (fun j => if j = i then some v else lBeg F i j) = lBeg F (i + 1) := by
        intro v hv
        funext j
        unfold lBeg
        by_cases hj : j = i
        · subst hj
          rw [if_pos rfl, if_pos (show j < j + 1 by omega), hv]
        · rw [if_neg hj]
          by_cases hj2 : j < i
          · rw [if_pos hj2, if_pos (show j < i + 1 by omega)]
          · rw [if_neg hj2, if_neg (show ¬ j < i + 1 by omega)]
      cases hR : tref (fTy F i) with
      | false =>
        rw [hR] at ir
        have st := c_Locals_set sc h1 L i (by omega) 0
        repeat' first | refine wp_Vip rfl rfl (by repeat' first | assumption | refine qset_ne rfl ?_ | refine qset_self (c0 := ?_) ?_ | refine qset_nf (by omega) ?_ | fail) rfl (ir) ?_ | refine wp_ist rfl rfl rfl rfl ?_ | refine wp_lst rfl rfl rfl rfl ?_ | refine wp_iinc rfl rfl rfl rfl ?_ | refine wp_f rfl rfl rfl ?_ | refine wp_getf rfl (by repeat' first | assumption | refine qset_ne rfl ?_ | refine qset_self (c0 := ?_) ?_ | refine qset_nf (by omega) ?_ | fail) rfl ?_ | refine wp_ast rfl rfl rfl rfl ?_ | refine wp_asN rfl rfl rfl rfl ?_ | refine wp_putf rfl (by repeat' first | assumption | refine qset_ne rfl ?_ | refine qset_self (c0 := ?_) ?_ | refine qset_nf (by omega) ?_ | fail) (by exact Nat.le_of_ble_eq_true rfl) rfl ?_ | refine wp_iald rfl (by repeat' first | assumption | refine qset_ne rfl ?_ | refine qset_self (c0 := ?_) ?_ | refine qset_nf (by omega) ?_ | fail) ?_ ?_ | refine wp_lald rfl (by repeat' first | assumption | refine qset_ne rfl ?_ | refine qset_self (c0 := ?_) ?_ | refine qset_nf (by omega) ?_ | fail) ?_ ?_ | refine wp_zald rfl (by repeat' first | assumption | refine qset_ne rfl ?_ | refine qset_self (c0 := ?_) ?_ | refine qset_nf (by omega) ?_ | fail) ?_ ?_ | refine wp_iast rfl (by repeat' first | assumption | refine qset_ne rfl ?_ | refine qset_self (c0 := ?_) ?_ | refine qset_nf (by omega) ?_ | fail) ?_ ?_ | refine wp_last rfl (by repeat' first | assumption | refine qset_ne rfl ?_ | refine qset_self (c0 := ?_) ?_ | refine qset_nf (by omega) ?_ | fail) ?_ ?_ | refine wp_alen rfl (by repeat' first | assumption | refine qset_ne rfl ?_ | refine qset_self (c0 := ?_) ?_ | refine qset_nf (by omega) ?_ | fail) rfl ?_ | refine wp_zast rfl (by repeat' first | assumption | refine qset_ne rfl ?_ | refine qset_self (c0 := ?_) ?_ | refine qset_nf (by omega) ?_ | fail) ?_ ?_ | refine wp_b rfl rfl (fun hc => absurd hc (by decide +kernel)) (fun _ => ?_) | refine wp_b rfl rfl (fun _ => ?_) (fun hc => absurd hc (by decide +kernel)) | refine wp_b rfl rfl (fun hc => ?_) (fun hc => ?_) | refine wp_v rfl rfl ?_ | refine ret_t ?_ | refine ret_f ?_ | fail
        refine wp_Vu rfl rfl (by repeat' first | assumption | refine qset_ne rfl ?_ | refine qset_self (c0 := ?_) ?_ | refine qset_nf (by omega) ?_ | fail) rfl (st) ?_
        intro h2 ⟨L2, x2⟩
        rw [e 0 (by rw [hR]; rfl)] at L2
        repeat' first | refine wp_ist rfl rfl rfl rfl ?_ | refine wp_lst rfl rfl rfl rfl ?_ | refine wp_iinc rfl rfl rfl rfl ?_ | refine wp_f rfl rfl rfl ?_ | refine wp_getf rfl (by repeat' first | assumption | refine qset_ne rfl ?_ | refine qset_self (c0 := ?_) ?_ | refine qset_nf (by omega) ?_ | fail) rfl ?_ | refine wp_ast rfl rfl rfl rfl ?_ | refine wp_asN rfl rfl rfl rfl ?_ | refine wp_putf rfl (by repeat' first | assumption | refine qset_ne rfl ?_ | refine qset_self (c0 := ?_) ?_ | refine qset_nf (by omega) ?_ | fail) (by exact Nat.le_of_ble_eq_true rfl) rfl ?_ | refine wp_iald rfl (by repeat' first | assumption | refine qset_ne rfl ?_ | refine qset_self (c0 := ?_) ?_ | refine qset_nf (by omega) ?_ | fail) ?_ ?_ | refine wp_lald rfl (by repeat' first | assumption | refine qset_ne rfl ?_ | refine qset_self (c0 := ?_) ?_ | refine qset_nf (by omega) ?_ | fail) ?_ ?_ | refine wp_zald rfl (by repeat' first | assumption | refine qset_ne rfl ?_ | refine qset_self (c0 := ?_) ?_ | refine qset_nf (by omega) ?_ | fail) ?_ ?_ | refine wp_iast rfl (by repeat' first | assumption | refine qset_ne rfl ?_ | refine qset_self (c0 := ?_) ?_ | refine qset_nf (by omega) ?_ | fail) ?_ ?_ | refine wp_last rfl (by repeat' first | assumption | refine qset_ne rfl ?_ | refine qset_self (c0 := ?_) ?_ | refine qset_nf (by omega) ?_ | fail) ?_ ?_ | refine wp_alen rfl (by repeat' first | assumption | refine qset_ne rfl ?_ | refine qset_self (c0 := ?_) ?_ | refine qset_nf (by omega) ?_ | fail) rfl ?_ | refine wp_zast rfl (by repeat' first | assumption | refine qset_ne rfl ?_ | refine qset_self (c0 := ?_) ?_ | refine qset_nf (by omega) ?_ | fail) ?_ ?_ | refine wp_b rfl rfl (fun hc => absurd hc (by decide +kernel)) (fun _ => ?_) | refine wp_b rfl rfl (fun _ => ?_) (fun hc => absurd hc (by decide +kernel)) | refine wp_b rfl rfl (fun hc => ?_) (fun hc => ?_) | refine wp_v rfl rfl ?_ | refine ret_t ?_ | refine ret_f ?_ | fail
        refine wp_n rfl rfl ?_
        rw [nI_inc]
        exact wp_sub (ih (i + 1) (by omega) h2 L2 (x1.tr x2)) rfl ⟨rfl, rfl, rfl, trivial⟩
      | true =>
        rw [hR] at ir
        have st := c_Locals_set sc h1 L i (by omega) (lbit (40 + i))
        rw [← lbit40 i (by omega)] at st
        repeat' first | refine wp_Vip rfl rfl (by repeat' first | assumption | refine qset_ne rfl ?_ | refine qset_self (c0 := ?_) ?_ | refine qset_nf (by omega) ?_ | fail) rfl (ir) ?_ | refine wp_ist rfl rfl rfl rfl ?_ | refine wp_lst rfl rfl rfl rfl ?_ | refine wp_iinc rfl rfl rfl rfl ?_ | refine wp_f rfl rfl rfl ?_ | refine wp_getf rfl (by repeat' first | assumption | refine qset_ne rfl ?_ | refine qset_self (c0 := ?_) ?_ | refine qset_nf (by omega) ?_ | fail) rfl ?_ | refine wp_ast rfl rfl rfl rfl ?_ | refine wp_asN rfl rfl rfl rfl ?_ | refine wp_putf rfl (by repeat' first | assumption | refine qset_ne rfl ?_ | refine qset_self (c0 := ?_) ?_ | refine qset_nf (by omega) ?_ | fail) (by exact Nat.le_of_ble_eq_true rfl) rfl ?_ | refine wp_iald rfl (by repeat' first | assumption | refine qset_ne rfl ?_ | refine qset_self (c0 := ?_) ?_ | refine qset_nf (by omega) ?_ | fail) ?_ ?_ | refine wp_lald rfl (by repeat' first | assumption | refine qset_ne rfl ?_ | refine qset_self (c0 := ?_) ?_ | refine qset_nf (by omega) ?_ | fail) ?_ ?_ | refine wp_zald rfl (by repeat' first | assumption | refine qset_ne rfl ?_ | refine qset_self (c0 := ?_) ?_ | refine qset_nf (by omega) ?_ | fail) ?_ ?_ | refine wp_iast rfl (by repeat' first | assumption | refine qset_ne rfl ?_ | refine qset_self (c0 := ?_) ?_ | refine qset_nf (by omega) ?_ | fail) ?_ ?_ | refine wp_last rfl (by repeat' first | assumption | refine qset_ne rfl ?_ | refine qset_self (c0 := ?_) ?_ | refine qset_nf (by omega) ?_ | fail) ?_ ?_ | refine wp_alen rfl (by repeat' first | assumption | refine qset_ne rfl ?_ | refine qset_self (c0 := ?_) ?_ | refine qset_nf (by omega) ?_ | fail) rfl ?_ | refine wp_zast rfl (by repeat' first | assumption | refine qset_ne rfl ?_ | refine qset_self (c0 := ?_) ?_ | refine qset_nf (by omega) ?_ | fail) ?_ ?_ | refine wp_b rfl rfl (fun hc => absurd hc (by decide +kernel)) (fun _ => ?_) | refine wp_b rfl rfl (fun _ => ?_) (fun hc => absurd hc (by decide +kernel)) | refine wp_b rfl rfl (fun hc => ?_) (fun hc => ?_) | refine wp_v rfl rfl ?_ | refine ret_t ?_ | refine ret_f ?_ | fail
        refine wp_Vu rfl rfl (by repeat' first | assumption | refine qset_ne rfl ?_ | refine qset_self (c0 := ?_) ?_ | refine qset_nf (by omega) ?_ | fail) rfl (st) ?_
        intro h2 ⟨L2, x2⟩
        rw [lbit40 i (by omega), e (lbit (40 + i)) (by rw [hR]; rfl)] at L2
        repeat' first | refine wp_ist rfl rfl rfl rfl ?_ | refine wp_lst rfl rfl rfl rfl ?_ | refine wp_iinc rfl rfl rfl rfl ?_ | refine wp_f rfl rfl rfl ?_ | refine wp_getf rfl (by repeat' first | assumption | refine qset_ne rfl ?_ | refine qset_self (c0 := ?_) ?_ | refine qset_nf (by omega) ?_ | fail) rfl ?_ | refine wp_ast rfl rfl rfl rfl ?_ | refine wp_asN rfl rfl rfl rfl ?_ | refine wp_putf rfl (by repeat' first | assumption | refine qset_ne rfl ?_ | refine qset_self (c0 := ?_) ?_ | refine qset_nf (by omega) ?_ | fail) (by exact Nat.le_of_ble_eq_true rfl) rfl ?_ | refine wp_iald rfl (by repeat' first | assumption | refine qset_ne rfl ?_ | refine qset_self (c0 := ?_) ?_ | refine qset_nf (by omega) ?_ | fail) ?_ ?_ | refine wp_lald rfl (by repeat' first | assumption | refine qset_ne rfl ?_ | refine qset_self (c0 := ?_) ?_ | refine qset_nf (by omega) ?_ | fail) ?_ ?_ | refine wp_zald rfl (by repeat' first | assumption | refine qset_ne rfl ?_ | refine qset_self (c0 := ?_) ?_ | refine qset_nf (by omega) ?_ | fail) ?_ ?_ | refine wp_iast rfl (by repeat' first | assumption | refine qset_ne rfl ?_ | refine qset_self (c0 := ?_) ?_ | refine qset_nf (by omega) ?_ | fail) ?_ ?_ | refine wp_last rfl (by repeat' first | assumption | refine qset_ne rfl ?_ | refine qset_self (c0 := ?_) ?_ | refine qset_nf (by omega) ?_ | fail) ?_ ?_ | refine wp_alen rfl (by repeat' first | assumption | refine qset_ne rfl ?_ | refine qset_self (c0 := ?_) ?_ | refine qset_nf (by omega) ?_ | fail) rfl ?_ | refine wp_zast rfl (by repeat' first | assumption | refine qset_ne rfl ?_ | refine qset_self (c0 := ?_) ?_ | refine qset_nf (by omega) ?_ | fail) ?_ ?_ | refine wp_b rfl rfl (fun hc => absurd hc (by decide +kernel)) (fun _ => ?_) | refine wp_b rfl rfl (fun _ => ?_) (fun hc => absurd hc (by decide +kernel)) | refine wp_b rfl rfl (fun hc => ?_) (fun hc => ?_) | refine wp_v rfl rfl ?_ | refine ret_t ?_ | refine ret_f ?_ | fail
        refine wp_n rfl rfl ?_
        rw [nI_inc]
        exact wp_sub (ih (i + 1) (by omega) h2 L2 (x1.tr x2)) rfl ⟨rfl, rfl, rfl, trivial⟩
theorem c_Locals_begin (hF : ∀ k, fTy F k < 2 ^ 63) (HL : LdAt h sa fa E) (HC : CdAt h c F) (h49 : 49 ≤ c) (HR : LcRaw h) : wp sc (m_Locals_begin, 0, qargs 0 [.ref 18, .ref c, .ref 1], [], h) (rU fun h' => LocAt h' E F (lBeg F (fTakes F).length) ∧ qfx 18 19 h h') := by
  have hl := HC.lens
  have hN : (fLocs F).length ≤ 40 := by unfold fLocs; rw [List.length_append]; omega
  obtain ⟨⟨v1, v2, v3, v4, v5, e18⟩, mk, e19⟩ := HR
  have ec : ∃ fs, h[c]? = some (.inr (0, fs)) := by obtain ⟨f1, f2, f3, b1, _⟩ := HC; exact ⟨_, b1⟩
  obtain ⟨fs, ec⟩ := ec
  have hmin : (if nI 40 < nI (fLocs F).length then nI 40 else nI (fLocs F).length) = nI (fLocs F).length := by
    rw [if_neg]
    rw [nI_ltI (by decide) (by omega)]
    omega
  have e0 : lBeg F 0 = fun _ => none := by
    funext k
    unfold lBeg
    rw [if_neg (by omega)]
  have z0 : ∀ (P : Nat → Bool) k, k < 64 → lb 0 k = (decide (k < 0) && P k) := fun P k hk => by rw [lb_zero]; simp
  have hQ : ∀ h1, LocAt h1 E F (fun _ => none) → qfx 18 19 h h1 → wp sc (m_Locals_begin, 140, [(2, .ref 1), (1, .ref c), (0, .ref 18)], [], h1) (rU fun h' => LocAt h' E F (lBeg F (fTakes F).length) ∧ qfx 18 19 h h') := by
    intro h1 L x1
    rw [← e0] at L
    have K := l_begin2 (E := E) sc h hN HC h49 (fTakes F).length 0 (by omega) h1 L x1
    repeat' first | (refine wp_sub K rfl ⟨rfl, rfl, rfl, trivial⟩) | refine wp_ist rfl rfl rfl rfl ?_ | refine wp_lst rfl rfl rfl rfl ?_ | refine wp_iinc rfl rfl rfl rfl ?_ | refine wp_f rfl rfl rfl ?_ | refine wp_getf rfl (by repeat' first | assumption | refine qset_ne rfl ?_ | refine qset_self (c0 := ?_) ?_ | refine qset_nf (by omega) ?_ | fail) rfl ?_ | refine wp_ast rfl rfl rfl rfl ?_ | refine wp_asN rfl rfl rfl rfl ?_ | refine wp_putf rfl (by repeat' first | assumption | refine qset_ne rfl ?_ | refine qset_self (c0 := ?_) ?_ | refine qset_nf (by omega) ?_ | fail) (by exact Nat.le_of_ble_eq_true rfl) rfl ?_ | refine wp_iald rfl (by repeat' first | assumption | refine qset_ne rfl ?_ | refine qset_self (c0 := ?_) ?_ | refine qset_nf (by omega) ?_ | fail) ?_ ?_ | refine wp_lald rfl (by repeat' first | assumption | refine qset_ne rfl ?_ | refine qset_self (c0 := ?_) ?_ | refine qset_nf (by omega) ?_ | fail) ?_ ?_ | refine wp_zald rfl (by repeat' first | assumption | refine qset_ne rfl ?_ | refine qset_self (c0 := ?_) ?_ | refine qset_nf (by omega) ?_ | fail) ?_ ?_ | refine wp_iast rfl (by repeat' first | assumption | refine qset_ne rfl ?_ | refine qset_self (c0 := ?_) ?_ | refine qset_nf (by omega) ?_ | fail) ?_ ?_ | refine wp_last rfl (by repeat' first | assumption | refine qset_ne rfl ?_ | refine qset_self (c0 := ?_) ?_ | refine qset_nf (by omega) ?_ | fail) ?_ ?_ | refine wp_alen rfl (by repeat' first | assumption | refine qset_ne rfl ?_ | refine qset_self (c0 := ?_) ?_ | refine qset_nf (by omega) ?_ | fail) rfl ?_ | refine wp_zast rfl (by repeat' first | assumption | refine qset_ne rfl ?_ | refine qset_self (c0 := ?_) ?_ | refine qset_nf (by omega) ?_ | fail) ?_ ?_ | refine wp_b rfl rfl (fun hc => absurd hc (by decide +kernel)) (fun _ => ?_) | refine wp_b rfl rfl (fun _ => ?_) (fun hc => absurd hc (by decide +kernel)) | refine wp_b rfl rfl (fun hc => ?_) (fun hc => ?_) | refine wp_v rfl rfl ?_ | refine ret_t ?_ | refine ret_f ?_ | fail
  repeat' first | refine wp_Vip rfl rfl (by repeat' first | assumption | refine qset_ne rfl ?_ | refine qset_self (c0 := ?_) ?_ | refine qset_nf (by omega) ?_ | fail) rfl (c_Code_localCount sc h HC) ?_ | (refine wp_min rfl hmin rfl ?_) | (refine wp_sub (l_begin1 sc h hF hN HL HC h49 hQ (fLocs F).length 0 (by omega) _ mk 0 0 0 (by repeat' first | assumption | refine qset_ne rfl ?_ | refine qset_self (c0 := ?_) ?_ | refine qset_nf (by omega) ?_ | fail) (by repeat' first | assumption | refine qset_ne rfl ?_ | refine qset_self (c0 := ?_) ?_ | refine qset_nf (by omega) ?_ | fail) (by repeat' first | exact qfx.rf | refine qfx.sta ?_ (by repeat' first | assumption | refine qset_ne rfl ?_ | refine qset_self (c0 := ?_) ?_ | refine qset_nf (by omega) ?_ | fail) (by omega) (by omega) | refine qfx.sto ?_ (by repeat' first | assumption | refine qset_ne rfl ?_ | refine qset_self (c0 := ?_) ?_ | refine qset_nf (by omega) ?_ | fail) (by omega) (by omega) | fail) (z0 _) (z0 _) (z0 _) (fun k hk => absurd hk (Nat.not_lt_zero k))) rfl ⟨rfl, rfl, rfl, rfl, trivial⟩) | refine wp_ist rfl rfl rfl rfl ?_ | refine wp_lst rfl rfl rfl rfl ?_ | refine wp_iinc rfl rfl rfl rfl ?_ | refine wp_f rfl rfl rfl ?_ | refine wp_getf rfl (by repeat' first | assumption | refine qset_ne rfl ?_ | refine qset_self (c0 := ?_) ?_ | refine qset_nf (by omega) ?_ | fail) rfl ?_ | refine wp_ast rfl rfl rfl rfl ?_ | refine wp_asN rfl rfl rfl rfl ?_ | refine wp_putf rfl (by repeat' first | assumption | refine qset_ne rfl ?_ | refine qset_self (c0 := ?_) ?_ | refine qset_nf (by omega) ?_ | fail) (by exact Nat.le_of_ble_eq_true rfl) rfl ?_ | refine wp_iald rfl (by repeat' first | assumption | refine qset_ne rfl ?_ | refine qset_self (c0 := ?_) ?_ | refine qset_nf (by omega) ?_ | fail) ?_ ?_ | refine wp_lald rfl (by repeat' first | assumption | refine qset_ne rfl ?_ | refine qset_self (c0 := ?_) ?_ | refine qset_nf (by omega) ?_ | fail) ?_ ?_ | refine wp_zald rfl (by repeat' first | assumption | refine qset_ne rfl ?_ | refine qset_self (c0 := ?_) ?_ | refine qset_nf (by omega) ?_ | fail) ?_ ?_ | refine wp_iast rfl (by repeat' first | assumption | refine qset_ne rfl ?_ | refine qset_self (c0 := ?_) ?_ | refine qset_nf (by omega) ?_ | fail) ?_ ?_ | refine wp_last rfl (by repeat' first | assumption | refine qset_ne rfl ?_ | refine qset_self (c0 := ?_) ?_ | refine qset_nf (by omega) ?_ | fail) ?_ ?_ | refine wp_alen rfl (by repeat' first | assumption | refine qset_ne rfl ?_ | refine qset_self (c0 := ?_) ?_ | refine qset_nf (by omega) ?_ | fail) rfl ?_ | refine wp_zast rfl (by repeat' first | assumption | refine qset_ne rfl ?_ | refine qset_self (c0 := ?_) ?_ | refine qset_nf (by omega) ?_ | fail) ?_ ?_ | refine wp_b rfl rfl (fun hc => absurd hc (by decide +kernel)) (fun _ => ?_) | refine wp_b rfl rfl (fun _ => ?_) (fun hc => absurd hc (by decide +kernel)) | refine wp_b rfl rfl (fun hc => ?_) (fun hc => ?_) | refine wp_v rfl rfl ?_ | refine ret_t ?_ | refine ret_f ?_ | fail
end LB
