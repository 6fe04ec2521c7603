/-! Class States: coming. -/
def cFits (E : QE) (F : QF) (L now : Nat → Option Int64) : Bool := (List.range (fLocs F).length).all fun k => match L k with
  | some z => (match now k with
    | some w => w &&& (z ^^^ -1) == 0
    | none => false)
  | none => (now k).isNone || eCan E (fTy F k) 2
def cDrops (E : QE) (F : QF) (L now : Nat → Option Int64) : Bool := (List.range (fLocs F).length).all fun k => (L k).isSome == (now k).isSome || eCan E (fTy F k) 2
def cMeet (L now : Nat → Option Int64) : Nat → Option Int64 := fun k => match L k, now k with
  | some z, some w => some (z ||| w)
  | _, _ => none
def upS (S : QS) (j : Nat) (L : Nat → Option Int64) : QS := (fun i => if i = j then some L else S.1 i, S.2)
/-- COMING to j from i, the locals now -/
def cCome (E : QE) (F : QF) (S : QS) (i j : Nat) (now : Nat → Option Int64) : Nat × QS :=
  if j ≤ i then (if cFits E F ((S.1 j).getD fun _ => none) now then 0 else 9, S)
  else match S.1 j with
    | none => (0, upS S j now)
    | some L => if cDrops E F L now then (0, upS S j (cMeet L now)) else (9, S)
theorem cMeet_D (L now : Nat → Option Int64) (k : Nat) : (cMeet L now k).isSome = ((L k).isSome && (now k).isSome) ∧ (cMeet L now k).getD 0 = if ((L k).isSome && (now k).isSome) = true then (L k).getD 0 ||| (now k).getD 0 else 0 := by
  unfold cMeet
  cases L k <;> cases now k <;> exact ⟨rfl, rfl⟩
theorem cDrops_iff {E : QE} {F : QF} {L now : Nat → Option Int64} {T W D : Int64} (hN : (fLocs F).length ≤ 64) (hT : ∀ k, k < 64 → lb T k = (decide (k < (fLocs F).length) && (L k).isSome)) (hW : ∀ k, k < 64 → lb W k = (decide (k < (fLocs F).length) && (now k).isSome)) (hD : ∀ k, k < 64 → lb D k = (decide (k < (fLocs F).length) && eCan E (fTy F k) 2)) :
    cDrops E F L now = true ↔ (T ^^^ W) &&& (D ^^^ -1) = 0 := by
  unfold cDrops
  rw [List.all_eq_true, lb_z]
  constructor
  · intro g k hk
    rw [lb_and, lb_xor, lb_not hk, hT k hk, hW k hk, hD k hk]
    by_cases hkn : k < (fLocs F).length
    · have := g k (List.mem_range.mpr hkn)
      cases h1 : (L k).isSome <;> cases h2 : (now k).isSome <;> simp_all
    · simp [hkn]
  · intro g k hk
    have hkn := List.mem_range.mp hk
    have := g k (by omega)
    rw [lb_and, lb_xor, lb_not (by omega), hT k (by omega), hW k (by omega), hD k (by omega)] at this
    cases h1 : (L k).isSome <;> cases h2 : (now k).isSome <;> simp_all
theorem cFits_iff {E : QE} {F : QF} {L now : Nat → Option Int64} {T W D : Int64} (hN : (fLocs F).length ≤ 64) (hT : ∀ k, k < 64 → lb T k = (decide (k < (fLocs F).length) && (L k).isSome)) (hW : ∀ k, k < 64 → lb W k = (decide (k < (fLocs F).length) && (now k).isSome)) (hD : ∀ k, k < 64 → lb D k = (decide (k < (fLocs F).length) && eCan E (fTy F k) 2)) :
    cFits E F L now = true ↔ T &&& (W ^^^ -1) = 0 ∧ W &&& (T ^^^ -1) &&& (D ^^^ -1) = 0 ∧ ∀ k, k < (fLocs F).length → (L k).isSome = true → (now k).getD 0 &&& ((L k).getD 0 ^^^ -1) = 0 := by
  unfold cFits
  rw [List.all_eq_true, lb_z, lb_z]
  constructor
  · intro g
    refine ⟨fun k hk => ?_, fun k hk => ?_, fun k hk hs => ?_⟩
    · rw [lb_and, lb_not hk, hT k hk, hW k hk]
      by_cases hkn : k < (fLocs F).length
      · have := g k (List.mem_range.mpr hkn)
        cases h1 : L k <;> cases h2 : now k <;> simp_all
      · simp [hkn]
    · rw [lb_and, lb_and, lb_not hk, lb_not hk, hT k hk, hW k hk, hD k hk]
      by_cases hkn : k < (fLocs F).length
      · have := g k (List.mem_range.mpr hkn)
        cases h1 : L k <;> cases h2 : now k <;> simp_all
      · simp [hkn]
    · have := g k (List.mem_range.mpr hk)
      cases h1 : L k <;> cases h2 : now k <;> simp_all
  · rintro ⟨g1, g2, g3⟩ k hk
    have hkn := List.mem_range.mp hk
    have t1 := g1 k (by omega)
    have t2 := g2 k (by omega)
    have t3 := g3 k hkn
    rw [lb_and, lb_not (by omega), hT k (by omega), hW k (by omega)] at t1
    rw [lb_and, lb_and, lb_not (by omega), lb_not (by omega), hT k (by omega), hW k (by omega), hD k (by omega)] at t2
    cases h1 : L k <;> cases h2 : now k <;> simp_all
section SC
variable (sc : Nat × (Nat → Int32)) (h : qH) {S : QS} {E : QE} {F : QF} {now : Nat → Option Int64}
theorem c_States_keep (H : StsAt h (fLocs F).length S) (HL : LocAt h E F now) {j : Nat} (hj : j < 256) : wp sc (m_States_keep, 0, qargs 0 [.ref 7, .int (nI j), .ref 18], [], h) (rU fun h' => StsAt h' (fLocs F).length (upS S j now) ∧ qfx 7 11 h h') := by
  obtain ⟨cm, ht, th, mk, h1, h2, h3, h4, h5, h6, h7, h8⟩ := H
  obtain ⟨mk2, th2, dr, rf, wt, l1, l2, l3, l4, l5, l6, l7, l8⟩ := HL
  have hr := row41 hj
  repeat' first | refine wp_Sip rfl rfl rfl (c_States_row sc _ (nI j)) ?_ | (refine wp_copy rfl (by repeat' first | assumption | refine qset_ne rfl ?_ | refine qset_self (c0 := ?_) ?_ | refine qset_nf (by omega) ?_ | fail) (by repeat' first | assumption | refine qset_ne rfl ?_ | refine qset_self (c0 := ?_) ?_ | refine qset_nf (by omega) ?_ | fail) rfl ?_ ?_) | refine wp_ist rfl rfl rfl rfl ?_ | refine wp_lst rfl rfl rfl rfl ?_ | refine wp_iinc rfl rfl rfl rfl ?_ | refine wp_f rfl rfl rfl ?_ | refine wp_getf rfl (by repeat' first | assumption | refine qset_ne rfl ?_ | refine qset_self (c0 := ?_) ?_ | refine qset_nf (by omega) ?_ | fail) rfl ?_ | refine wp_ast rfl rfl rfl rfl ?_ | refine wp_asN rfl rfl rfl rfl ?_ | refine wp_putf rfl (by repeat' first | assumption | refine qset_ne rfl ?_ | refine qset_self (c0 := ?_) ?_ | refine qset_nf (by omega) ?_ | fail) (by exact Nat.le_of_ble_eq_true rfl) rfl ?_ | refine wp_iald rfl (by repeat' first | assumption | refine qset_ne rfl ?_ | refine qset_self (c0 := ?_) ?_ | refine qset_nf (by omega) ?_ | fail) ?_ ?_ | refine wp_lald rfl (by repeat' first | assumption | refine qset_ne rfl ?_ | refine qset_self (c0 := ?_) ?_ | refine qset_nf (by omega) ?_ | fail) ?_ ?_ | refine wp_zald rfl (by repeat' first | assumption | refine qset_ne rfl ?_ | refine qset_self (c0 := ?_) ?_ | refine qset_nf (by omega) ?_ | fail) ?_ ?_ | refine wp_iast rfl (by repeat' first | assumption | refine qset_ne rfl ?_ | refine qset_self (c0 := ?_) ?_ | refine qset_nf (by omega) ?_ | fail) ?_ ?_ | refine wp_last rfl (by repeat' first | assumption | refine qset_ne rfl ?_ | refine qset_self (c0 := ?_) ?_ | refine qset_nf (by omega) ?_ | fail) ?_ ?_ | refine wp_alen rfl (by repeat' first | assumption | refine qset_ne rfl ?_ | refine qset_self (c0 := ?_) ?_ | refine qset_nf (by omega) ?_ | fail) rfl ?_ | refine wp_zast rfl (by repeat' first | assumption | refine qset_ne rfl ?_ | refine qset_self (c0 := ?_) ?_ | refine qset_nf (by omega) ?_ | fail) ?_ ?_ | refine wp_b rfl rfl (fun hc => absurd hc (by decide +kernel)) (fun _ => ?_) | refine wp_b rfl rfl (fun _ => ?_) (fun hc => absurd hc (by decide +kernel)) | refine wp_b rfl rfl (fun hc => ?_) (fun hc => ?_) | refine wp_v rfl rfl ?_ | refine ret_t ?_ | refine ret_f ?_ | fail
  · exact qin_nI (by omega) (by omega)
  · exact qin_nI (by omega) (by omega)
  · rw [hr, show (0 : Int32) = nI 0 from rfl, pk_mul]
    simp only [nI_ltI (show j * 40 < 2 ^ 31 by omega) (show 0 < 2 ^ 31 by decide), nI_ltI (show 0 < 2 ^ 31 by decide) (show 0 < 2 ^ 31 by decide), nI_ltI (show (fLocs F).length < 2 ^ 31 by omega) (show 0 < 2 ^ 31 by decide), nI_clamp (show (fLocs F).length < 2 ^ 31 by omega), nI_clamp (show 0 < 2 ^ 31 by decide)]
    simp
    omega
  · rw [hr, nI_clamp (show (fLocs F).length < 2 ^ 31 by omega), nI_clamp (show 0 < 2 ^ 31 by decide), nI_clamp (show j < 2 ^ 31 by omega)]
    repeat' first | refine wp_ist rfl rfl rfl rfl ?_ | refine wp_lst rfl rfl rfl rfl ?_ | refine wp_iinc rfl rfl rfl rfl ?_ | refine wp_f rfl rfl rfl ?_ | refine wp_getf rfl (by repeat' first | assumption | refine qset_ne rfl ?_ | refine qset_self (c0 := ?_) ?_ | refine qset_nf (by omega) ?_ | fail) rfl ?_ | refine wp_ast rfl rfl rfl rfl ?_ | refine wp_asN rfl rfl rfl rfl ?_ | refine wp_putf rfl (by repeat' first | assumption | refine qset_ne rfl ?_ | refine qset_self (c0 := ?_) ?_ | refine qset_nf (by omega) ?_ | fail) (by exact Nat.le_of_ble_eq_true rfl) rfl ?_ | refine wp_iald rfl (by repeat' first | assumption | refine qset_ne rfl ?_ | refine qset_self (c0 := ?_) ?_ | refine qset_nf (by omega) ?_ | fail) ?_ ?_ | refine wp_lald rfl (by repeat' first | assumption | refine qset_ne rfl ?_ | refine qset_self (c0 := ?_) ?_ | refine qset_nf (by omega) ?_ | fail) ?_ ?_ | refine wp_zald rfl (by repeat' first | assumption | refine qset_ne rfl ?_ | refine qset_self (c0 := ?_) ?_ | refine qset_nf (by omega) ?_ | fail) ?_ ?_ | refine wp_iast rfl (by repeat' first | assumption | refine qset_ne rfl ?_ | refine qset_self (c0 := ?_) ?_ | refine qset_nf (by omega) ?_ | fail) ?_ ?_ | refine wp_last rfl (by repeat' first | assumption | refine qset_ne rfl ?_ | refine qset_self (c0 := ?_) ?_ | refine qset_nf (by omega) ?_ | fail) ?_ ?_ | refine wp_alen rfl (by repeat' first | assumption | refine qset_ne rfl ?_ | refine qset_self (c0 := ?_) ?_ | refine qset_nf (by omega) ?_ | fail) rfl ?_ | refine wp_zast rfl (by repeat' first | assumption | refine qset_ne rfl ?_ | refine qset_self (c0 := ?_) ?_ | refine qset_nf (by omega) ?_ | fail) ?_ ?_ | refine wp_b rfl rfl (fun hc => absurd hc (by decide +kernel)) (fun _ => ?_) | refine wp_b rfl rfl (fun _ => ?_) (fun hc => absurd hc (by decide +kernel)) | refine wp_b rfl rfl (fun hc => ?_) (fun hc => ?_) | refine wp_v rfl rfl ?_ | refine ret_t ?_ | refine ret_f ?_ | fail
    refine ⟨⟨_, ht, _, _, (by repeat' first | assumption | refine qset_ne rfl ?_ | refine qset_self (c0 := ?_) ?_ | refine qset_nf (by omega) ?_ | fail), (by repeat' first | assumption | refine qset_ne rfl ?_ | refine qset_self (c0 := ?_) ?_ | refine qset_nf (by omega) ?_ | fail), (by repeat' first | assumption | refine qset_ne rfl ?_ | refine qset_self (c0 := ?_) ?_ | refine qset_nf (by omega) ?_ | fail), (by repeat' first | assumption | refine qset_ne rfl ?_ | refine qset_self (c0 := ?_) ?_ | refine qset_nf (by omega) ?_ | fail), (by repeat' first | assumption | refine qset_ne rfl ?_ | refine qset_self (c0 := ?_) ?_ | refine qset_nf (by omega) ?_ | fail), fun i hi => ?_, fun i hi L hL => ?_, h8⟩, (by repeat' first | exact qfx.rf | refine qfx.sta ?_ (by repeat' first | assumption | refine qset_ne rfl ?_ | refine qset_self (c0 := ?_) ?_ | refine qset_nf (by omega) ?_ | fail) (by omega) (by omega) | refine qfx.sto ?_ (by repeat' first | assumption | refine qset_ne rfl ?_ | refine qset_self (c0 := ?_) ?_ | refine qset_nf (by omega) ?_ | fail) (by omega) (by omega) | fail)⟩
    · unfold upS upd
      by_cases hij : i = j
      · simp only [if_pos hij]
        exact nar1
      · simp only [if_neg hij]
        exact h6 i hi
    · unfold upS at hL
      unfold vp_updL
      by_cases hij : i = j
      · simp only [if_pos hij] at hL ⊢
        cases hL
        subst hij
        refine ⟨l4, fun k hk => ?_⟩
        rw [cpy_at, if_pos ⟨by omega, by omega⟩, Nat.zero_add, show i * 40 + k - i * 40 = k by omega]
        exact l8 k hk
      · simp only [if_neg hij] at hL ⊢
        obtain ⟨q1, q2⟩ := h7 i hi L hL
        refine ⟨q1, fun k hk => ?_⟩
        rw [cpy_at, if_neg (by omega)]
        exact q2 k hk
theorem l_fits {j : Nat} {L : Nat → Option Int64} (H : StsAt h (fLocs F).length S) (HL : LocAt h E F now) (hj : j < 256) (hL : S.1 j = some L) {r : Bool} (hr : r = true ↔ ∀ k, k < (fLocs F).length → (L k).isSome = true → (now k).getD 0 &&& ((L k).getD 0 ^^^ -1) = 0) : ∀ m k, m + k = (fLocs F).length →
    (∀ q, q < k → (L q).isSome = true → (now q).getD 0 &&& ((L q).getD 0 ^^^ -1) = 0) → wp sc (m_States_fits, 53, [(3, .int (nI k)), (2, .ref 18), (1, .int (nI j)), (0, .ref 7)], [], h) (rI (pI (bI r) h)) := by
  obtain ⟨cm, ht, th, mk, h1, h2, h3, h4, h5, h6, h7, h8⟩ := H
  obtain ⟨mk2, th2, dr, rf, wt, l1, l2, l3, l4, l5, l6, l7, l8⟩ := HL
  obtain ⟨q1, q2⟩ := h7 j hj L hL
  intro m
  induction m with
  | zero =>
    intro k hk hP
    have ek : k = (fLocs F).length := by omega
    subst ek
    refine wp_n rfl rfl ?_
    refine wp_n rfl rfl ?_
    refine wp_getf rfl (by repeat' first | assumption | refine qset_ne rfl ?_ | refine qset_self (c0 := ?_) ?_ | refine qset_nf (by omega) ?_ | fail) rfl ?_
    refine wp_b rfl rfl (fun hc => ?_) (fun hc => ?_)
    · repeat' first | refine wp_ist rfl rfl rfl rfl ?_ | refine wp_lst rfl rfl rfl rfl ?_ | refine wp_iinc rfl rfl rfl rfl ?_ | refine wp_f rfl rfl rfl ?_ | refine wp_getf rfl (by repeat' first | assumption | refine qset_ne rfl ?_ | refine qset_self (c0 := ?_) ?_ | refine qset_nf (by omega) ?_ | fail) rfl ?_ | refine wp_ast rfl rfl rfl rfl ?_ | refine wp_asN rfl rfl rfl rfl ?_ | refine wp_putf rfl (by repeat' first | assumption | refine qset_ne rfl ?_ | refine qset_self (c0 := ?_) ?_ | refine qset_nf (by omega) ?_ | fail) (by exact Nat.le_of_ble_eq_true rfl) rfl ?_ | refine wp_iald rfl (by repeat' first | assumption | refine qset_ne rfl ?_ | refine qset_self (c0 := ?_) ?_ | refine qset_nf (by omega) ?_ | fail) ?_ ?_ | refine wp_lald rfl (by repeat' first | assumption | refine qset_ne rfl ?_ | refine qset_self (c0 := ?_) ?_ | refine qset_nf (by omega) ?_ | fail) ?_ ?_ | refine wp_zald rfl (by repeat' first | assumption | refine qset_ne rfl ?_ | refine qset_self (c0 := ?_) ?_ | refine qset_nf (by omega) ?_ | fail) ?_ ?_ | refine wp_iast rfl (by repeat' first | assumption | refine qset_ne rfl ?_ | refine qset_self (c0 := ?_) ?_ | refine qset_nf (by omega) ?_ | fail) ?_ ?_ | refine wp_last rfl (by repeat' first | assumption | refine qset_ne rfl ?_ | refine qset_self (c0 := ?_) ?_ | refine qset_nf (by omega) ?_ | fail) ?_ ?_ | refine wp_alen rfl (by repeat' first | assumption | refine qset_ne rfl ?_ | refine qset_self (c0 := ?_) ?_ | refine qset_nf (by omega) ?_ | fail) rfl ?_ | refine wp_zast rfl (by repeat' first | assumption | refine qset_ne rfl ?_ | refine qset_self (c0 := ?_) ?_ | refine qset_nf (by omega) ?_ | fail) ?_ ?_ | refine wp_b rfl rfl (fun hc => absurd hc (by decide +kernel)) (fun _ => ?_) | refine wp_b rfl rfl (fun _ => ?_) (fun hc => absurd hc (by decide +kernel)) | refine wp_b rfl rfl (fun hc => ?_) (fun hc => ?_) | refine wp_v rfl rfl ?_ | refine ret_t ?_ | refine ret_f ?_ | fail
      exact hr.mpr hP
    · (try simp (disch := omega) only [c2_eq, c2_ne, c2_lt, c2_ge, c2_gt, c2_le, c1_eq, c1_ne, c1_lt, c1_le, c1_gt, c1_ge, lg_le, lg_lt, lg_ge, lg_gt, lg_eq, lg_ne, bI_eq, bI_ne, qlc_0, qlc_2, qlc_3, qlc_4, qlc_5, qlc_7, qlc_8, qlc_9, qlc_10, qlc_11, qlc_12, qlc_14, lN_eq0, lN_leN, lN_ltN, lN_eqN, decide_eq_true_eq, decide_eq_false_iff_not, Bool.not_eq_true', Bool.not_eq_false'] at *)
      omega
  | succ m ih =>
    intro k hk hP
    have hrow := row40 hj (show k < 40 by omega)
    refine wp_n rfl rfl ?_
    refine wp_n rfl rfl ?_
    refine wp_getf rfl (by repeat' first | assumption | refine qset_ne rfl ?_ | refine qset_self (c0 := ?_) ?_ | refine qset_nf (by omega) ?_ | fail) rfl ?_
    refine wp_b rfl rfl (fun hc => ?_) (fun hc => ?_)
    · (try simp (disch := omega) only [c2_eq, c2_ne, c2_lt, c2_ge, c2_gt, c2_le, c1_eq, c1_ne, c1_lt, c1_le, c1_gt, c1_ge, lg_le, lg_lt, lg_ge, lg_gt, lg_eq, lg_ne, bI_eq, bI_ne, qlc_0, qlc_2, qlc_3, qlc_4, qlc_5, qlc_7, qlc_8, qlc_9, qlc_10, qlc_11, qlc_12, qlc_14, lN_eq0, lN_leN, lN_ltN, lN_eqN, decide_eq_true_eq, decide_eq_false_iff_not, Bool.not_eq_true', Bool.not_eq_false'] at *)
      omega
    · have hb : lb (th j) k = (L k).isSome := by rw [q1 k (by omega)]; simp [show k < (fLocs F).length by omega]
      have hz : qcc1 .eq (lg_cmp (th j &&& lbit k) 0) = !(L k).isSome := by rw [lz_b (by omega), hb]
      have ez : (nI j).toNatClampNeg = j := nI_clamp (by omega)
      refine wp_n rfl rfl ?_
      refine wp_getf rfl (by repeat' first | assumption | refine qset_ne rfl ?_ | refine qset_self (c0 := ?_) ?_ | refine qset_nf (by omega) ?_ | fail) rfl ?_
      refine wp_n rfl rfl ?_
      refine wp_lald rfl (by repeat' first | assumption | refine qset_ne rfl ?_ | refine qset_self (c0 := ?_) ?_ | refine qset_nf (by omega) ?_ | fail) (qin_nI (by omega) (by omega)) ?_
      rw [ez]
      refine wp_n rfl rfl ?_
      refine wp_Slp rfl rfl rfl (c_Locals_bit sc h k (by omega)) ?_
      refine wp_n rfl rfl ?_
      refine wp_n rfl rfl ?_
      refine wp_n rfl rfl ?_
      refine wp_b rfl rfl (fun hc2 => ?_) (fun hc2 => ?_)
      · rw [hz] at hc2
        repeat' first | refine wp_ist rfl rfl rfl rfl ?_ | refine wp_lst rfl rfl rfl rfl ?_ | refine wp_iinc rfl rfl rfl rfl ?_ | refine wp_f rfl rfl rfl ?_ | refine wp_getf rfl (by repeat' first | assumption | refine qset_ne rfl ?_ | refine qset_self (c0 := ?_) ?_ | refine qset_nf (by omega) ?_ | fail) rfl ?_ | refine wp_ast rfl rfl rfl rfl ?_ | refine wp_asN rfl rfl rfl rfl ?_ | refine wp_putf rfl (by repeat' first | assumption | refine qset_ne rfl ?_ | refine qset_self (c0 := ?_) ?_ | refine qset_nf (by omega) ?_ | fail) (by exact Nat.le_of_ble_eq_true rfl) rfl ?_ | refine wp_iald rfl (by repeat' first | assumption | refine qset_ne rfl ?_ | refine qset_self (c0 := ?_) ?_ | refine qset_nf (by omega) ?_ | fail) ?_ ?_ | refine wp_lald rfl (by repeat' first | assumption | refine qset_ne rfl ?_ | refine qset_self (c0 := ?_) ?_ | refine qset_nf (by omega) ?_ | fail) ?_ ?_ | refine wp_zald rfl (by repeat' first | assumption | refine qset_ne rfl ?_ | refine qset_self (c0 := ?_) ?_ | refine qset_nf (by omega) ?_ | fail) ?_ ?_ | refine wp_iast rfl (by repeat' first | assumption | refine qset_ne rfl ?_ | refine qset_self (c0 := ?_) ?_ | refine qset_nf (by omega) ?_ | fail) ?_ ?_ | refine wp_last rfl (by repeat' first | assumption | refine qset_ne rfl ?_ | refine qset_self (c0 := ?_) ?_ | refine qset_nf (by omega) ?_ | fail) ?_ ?_ | refine wp_alen rfl (by repeat' first | assumption | refine qset_ne rfl ?_ | refine qset_self (c0 := ?_) ?_ | refine qset_nf (by omega) ?_ | fail) rfl ?_ | refine wp_zast rfl (by repeat' first | assumption | refine qset_ne rfl ?_ | refine qset_self (c0 := ?_) ?_ | refine qset_nf (by omega) ?_ | fail) ?_ ?_ | refine wp_b rfl rfl (fun hc => absurd hc (by decide +kernel)) (fun _ => ?_) | refine wp_b rfl rfl (fun _ => ?_) (fun hc => absurd hc (by decide +kernel)) | refine wp_b rfl rfl (fun hc => ?_) (fun hc => ?_) | refine wp_v rfl rfl ?_ | refine ret_t ?_ | refine ret_f ?_ | fail
        refine wp_n rfl rfl ?_
        rw [nI_inc]
        refine wp_sub (ih (k + 1) (by omega) fun q hq hs => ?_) rfl ⟨rfl, rfl, rfl, rfl, trivial⟩
        by_cases hqk : q = k
        · subst hqk
          rw [hs] at hc2
          cases hc2
        · exact hP q (by omega) hs
      · rw [hz] at hc2
        have hs : (L k).isSome = true := by simpa using hc2
        repeat' first | refine wp_Sip rfl rfl rfl (c_States_row sc h (nI j)) ?_ | refine wp_ist rfl rfl rfl rfl ?_ | refine wp_lst rfl rfl rfl rfl ?_ | refine wp_iinc rfl rfl rfl rfl ?_ | refine wp_f rfl rfl rfl ?_ | refine wp_getf rfl (by repeat' first | assumption | refine qset_ne rfl ?_ | refine qset_self (c0 := ?_) ?_ | refine qset_nf (by omega) ?_ | fail) rfl ?_ | refine wp_ast rfl rfl rfl rfl ?_ | refine wp_asN rfl rfl rfl rfl ?_ | refine wp_putf rfl (by repeat' first | assumption | refine qset_ne rfl ?_ | refine qset_self (c0 := ?_) ?_ | refine qset_nf (by omega) ?_ | fail) (by exact Nat.le_of_ble_eq_true rfl) rfl ?_ | refine wp_iald rfl (by repeat' first | assumption | refine qset_ne rfl ?_ | refine qset_self (c0 := ?_) ?_ | refine qset_nf (by omega) ?_ | fail) ?_ ?_ | refine wp_lald rfl (by repeat' first | assumption | refine qset_ne rfl ?_ | refine qset_self (c0 := ?_) ?_ | refine qset_nf (by omega) ?_ | fail) ?_ ?_ | refine wp_zald rfl (by repeat' first | assumption | refine qset_ne rfl ?_ | refine qset_self (c0 := ?_) ?_ | refine qset_nf (by omega) ?_ | fail) ?_ ?_ | refine wp_iast rfl (by repeat' first | assumption | refine qset_ne rfl ?_ | refine qset_self (c0 := ?_) ?_ | refine qset_nf (by omega) ?_ | fail) ?_ ?_ | refine wp_last rfl (by repeat' first | assumption | refine qset_ne rfl ?_ | refine qset_self (c0 := ?_) ?_ | refine qset_nf (by omega) ?_ | fail) ?_ ?_ | refine wp_alen rfl (by repeat' first | assumption | refine qset_ne rfl ?_ | refine qset_self (c0 := ?_) ?_ | refine qset_nf (by omega) ?_ | fail) rfl ?_ | refine wp_zast rfl (by repeat' first | assumption | refine qset_ne rfl ?_ | refine qset_self (c0 := ?_) ?_ | refine qset_nf (by omega) ?_ | fail) ?_ ?_ | refine wp_b rfl rfl (fun hc => absurd hc (by decide +kernel)) (fun _ => ?_) | refine wp_b rfl rfl (fun _ => ?_) (fun hc => absurd hc (by decide +kernel)) | refine wp_b rfl rfl (fun hc => ?_) (fun hc => ?_) | refine wp_v rfl rfl ?_ | refine ret_t ?_ | refine ret_f ?_ | fail
        all_goals first | exact qin_nI (by omega) (by omega) | exact hrow.2 | skip
        · rw [hrow.1, nI_clamp (show k < 2 ^ 31 by omega), l8 k (by omega), q2 k (by omega), show qlc 1 = -1 from rfl, lg_eq, decide_eq_true_eq] at hc
          refine wp_n rfl rfl ?_
          rw [nI_inc]
          refine wp_sub (ih (k + 1) (by omega) fun q hq hs => ?_) rfl ⟨rfl, rfl, rfl, rfl, trivial⟩
          by_cases hqk : q = k
          · subst hqk
            exact hc
          · exact hP q (by omega) hs
        · rw [hrow.1, nI_clamp (show k < 2 ^ 31 by omega), l8 k (by omega), q2 k (by omega), show qlc 1 = -1 from rfl, lg_eq, decide_eq_false_iff_not] at hc
          rw [← Bool.not_eq_true]
          intro z
          exact hc (hr.mp z k (by omega) hs)
theorem c_States_fits {j : Nat} {L : Nat → Option Int64} (H : StsAt h (fLocs F).length S) (HL : LocAt h E F now) (hj : j < 256) (hL : S.1 j = some L) : wp sc (m_States_fits, 0, qargs 0 [.ref 7, .int (nI j), .ref 18], [], h) (rI (pI (bI (cFits E F L now)) h)) := by
  have H0 := H
  have HL0 := HL
  obtain ⟨cm, ht, th, mk, h1, h2, h3, h4, h5, h6, h7, h8⟩ := H
  obtain ⟨mk2, th2, dr, rf, wt, l1, l2, l3, l4, l5, l6, l7, l8⟩ := HL
  obtain ⟨q1, q2⟩ := h7 j hj L hL
  have key := cFits_iff (show (fLocs F).length ≤ 64 by omega) q1 l4 l5
  have ez : (nI j).toNatClampNeg = j := nI_clamp (by omega)
  refine wp_n rfl rfl ?_
  refine wp_getf rfl (by repeat' first | assumption | refine qset_ne rfl ?_ | refine qset_self (c0 := ?_) ?_ | refine qset_nf (by omega) ?_ | fail) rfl ?_
  refine wp_n rfl rfl ?_
  refine wp_lald rfl (by repeat' first | assumption | refine qset_ne rfl ?_ | refine qset_self (c0 := ?_) ?_ | refine qset_nf (by omega) ?_ | fail) (qin_nI (by omega) (by omega)) ?_
  rw [ez]
  refine wp_n rfl rfl ?_
  refine wp_getf rfl (by repeat' first | assumption | refine qset_ne rfl ?_ | refine qset_self (c0 := ?_) ?_ | refine qset_nf (by omega) ?_ | fail) rfl ?_
  refine wp_n rfl rfl ?_
  refine wp_n rfl rfl ?_
  refine wp_n rfl rfl ?_
  refine wp_n rfl rfl ?_
  refine wp_n rfl rfl ?_
  refine wp_b rfl rfl (fun hc => ?_) (fun hc => ?_)
  · rw [lg_ne, Bool.not_eq_true', decide_eq_false_iff_not] at hc
    repeat' first | refine wp_ist rfl rfl rfl rfl ?_ | refine wp_lst rfl rfl rfl rfl ?_ | refine wp_iinc rfl rfl rfl rfl ?_ | refine wp_f rfl rfl rfl ?_ | refine wp_getf rfl (by repeat' first | assumption | refine qset_ne rfl ?_ | refine qset_self (c0 := ?_) ?_ | refine qset_nf (by omega) ?_ | fail) rfl ?_ | refine wp_ast rfl rfl rfl rfl ?_ | refine wp_asN rfl rfl rfl rfl ?_ | refine wp_putf rfl (by repeat' first | assumption | refine qset_ne rfl ?_ | refine qset_self (c0 := ?_) ?_ | refine qset_nf (by omega) ?_ | fail) (by exact Nat.le_of_ble_eq_true rfl) rfl ?_ | refine wp_iald rfl (by repeat' first | assumption | refine qset_ne rfl ?_ | refine qset_self (c0 := ?_) ?_ | refine qset_nf (by omega) ?_ | fail) ?_ ?_ | refine wp_lald rfl (by repeat' first | assumption | refine qset_ne rfl ?_ | refine qset_self (c0 := ?_) ?_ | refine qset_nf (by omega) ?_ | fail) ?_ ?_ | refine wp_zald rfl (by repeat' first | assumption | refine qset_ne rfl ?_ | refine qset_self (c0 := ?_) ?_ | refine qset_nf (by omega) ?_ | fail) ?_ ?_ | refine wp_iast rfl (by repeat' first | assumption | refine qset_ne rfl ?_ | refine qset_self (c0 := ?_) ?_ | refine qset_nf (by omega) ?_ | fail) ?_ ?_ | refine wp_last rfl (by repeat' first | assumption | refine qset_ne rfl ?_ | refine qset_self (c0 := ?_) ?_ | refine qset_nf (by omega) ?_ | fail) ?_ ?_ | refine wp_alen rfl (by repeat' first | assumption | refine qset_ne rfl ?_ | refine qset_self (c0 := ?_) ?_ | refine qset_nf (by omega) ?_ | fail) rfl ?_ | refine wp_zast rfl (by repeat' first | assumption | refine qset_ne rfl ?_ | refine qset_self (c0 := ?_) ?_ | refine qset_nf (by omega) ?_ | fail) ?_ ?_ | refine wp_b rfl rfl (fun hc => absurd hc (by decide +kernel)) (fun _ => ?_) | refine wp_b rfl rfl (fun _ => ?_) (fun hc => absurd hc (by decide +kernel)) | refine wp_b rfl rfl (fun hc => ?_) (fun hc => ?_) | refine wp_v rfl rfl ?_ | refine ret_t ?_ | refine ret_f ?_ | fail
    rw [← Bool.not_eq_true, key]
    intro z
    exact hc z.1
  · rw [lg_ne, Bool.not_eq_false', decide_eq_true_eq] at hc
    refine wp_n rfl rfl ?_
    refine wp_getf rfl (by repeat' first | assumption | refine qset_ne rfl ?_ | refine qset_self (c0 := ?_) ?_ | refine qset_nf (by omega) ?_ | fail) rfl ?_
    refine wp_n rfl rfl ?_
    refine wp_getf rfl (by repeat' first | assumption | refine qset_ne rfl ?_ | refine qset_self (c0 := ?_) ?_ | refine qset_nf (by omega) ?_ | fail) rfl ?_
    refine wp_n rfl rfl ?_
    refine wp_lald rfl (by repeat' first | assumption | refine qset_ne rfl ?_ | refine qset_self (c0 := ?_) ?_ | refine qset_nf (by omega) ?_ | fail) (qin_nI (by omega) (by omega)) ?_
    rw [ez]
    refine wp_n rfl rfl ?_
    refine wp_n rfl rfl ?_
    refine wp_n rfl rfl ?_
    refine wp_n rfl rfl ?_
    refine wp_getf rfl (by repeat' first | assumption | refine qset_ne rfl ?_ | refine qset_self (c0 := ?_) ?_ | refine qset_nf (by omega) ?_ | fail) rfl ?_
    refine wp_n rfl rfl ?_
    refine wp_n rfl rfl ?_
    refine wp_n rfl rfl ?_
    refine wp_n rfl rfl ?_
    refine wp_n rfl rfl ?_
    refine wp_b rfl rfl (fun hc2 => ?_) (fun hc2 => ?_)
    · rw [lg_eq, decide_eq_true_eq] at hc2
      have K := l_fits (r := cFits E F L now) sc h H0 HL0 hj hL ⟨fun z => (key.mp z).2.2, fun z => key.mpr ⟨hc, hc2, z⟩⟩ (fLocs F).length 0 (by omega) (fun q hq => absurd hq (Nat.not_lt_zero q))
      repeat' first | (refine wp_sub K rfl ⟨rfl, rfl, rfl, rfl, trivial⟩) | refine wp_ist rfl rfl rfl rfl ?_ | refine wp_lst rfl rfl rfl rfl ?_ | refine wp_iinc rfl rfl rfl rfl ?_ | refine wp_f rfl rfl rfl ?_ | refine wp_getf rfl (by repeat' first | assumption | refine qset_ne rfl ?_ | refine qset_self (c0 := ?_) ?_ | refine qset_nf (by omega) ?_ | fail) rfl ?_ | refine wp_ast rfl rfl rfl rfl ?_ | refine wp_asN rfl rfl rfl rfl ?_ | refine wp_putf rfl (by repeat' first | assumption | refine qset_ne rfl ?_ | refine qset_self (c0 := ?_) ?_ | refine qset_nf (by omega) ?_ | fail) (by exact Nat.le_of_ble_eq_true rfl) rfl ?_ | refine wp_iald rfl (by repeat' first | assumption | refine qset_ne rfl ?_ | refine qset_self (c0 := ?_) ?_ | refine qset_nf (by omega) ?_ | fail) ?_ ?_ | refine wp_lald rfl (by repeat' first | assumption | refine qset_ne rfl ?_ | refine qset_self (c0 := ?_) ?_ | refine qset_nf (by omega) ?_ | fail) ?_ ?_ | refine wp_zald rfl (by repeat' first | assumption | refine qset_ne rfl ?_ | refine qset_self (c0 := ?_) ?_ | refine qset_nf (by omega) ?_ | fail) ?_ ?_ | refine wp_iast rfl (by repeat' first | assumption | refine qset_ne rfl ?_ | refine qset_self (c0 := ?_) ?_ | refine qset_nf (by omega) ?_ | fail) ?_ ?_ | refine wp_last rfl (by repeat' first | assumption | refine qset_ne rfl ?_ | refine qset_self (c0 := ?_) ?_ | refine qset_nf (by omega) ?_ | fail) ?_ ?_ | refine wp_alen rfl (by repeat' first | assumption | refine qset_ne rfl ?_ | refine qset_self (c0 := ?_) ?_ | refine qset_nf (by omega) ?_ | fail) rfl ?_ | refine wp_zast rfl (by repeat' first | assumption | refine qset_ne rfl ?_ | refine qset_self (c0 := ?_) ?_ | refine qset_nf (by omega) ?_ | fail) ?_ ?_ | refine wp_b rfl rfl (fun hc => absurd hc (by decide +kernel)) (fun _ => ?_) | refine wp_b rfl rfl (fun _ => ?_) (fun hc => absurd hc (by decide +kernel)) | refine wp_b rfl rfl (fun hc => ?_) (fun hc => ?_) | refine wp_v rfl rfl ?_ | refine ret_t ?_ | refine ret_f ?_ | fail
    · rw [lg_eq, decide_eq_false_iff_not] at hc2
      repeat' first | refine wp_ist rfl rfl rfl rfl ?_ | refine wp_lst rfl rfl rfl rfl ?_ | refine wp_iinc rfl rfl rfl rfl ?_ | refine wp_f rfl rfl rfl ?_ | refine wp_getf rfl (by repeat' first | assumption | refine qset_ne rfl ?_ | refine qset_self (c0 := ?_) ?_ | refine qset_nf (by omega) ?_ | fail) rfl ?_ | refine wp_ast rfl rfl rfl rfl ?_ | refine wp_asN rfl rfl rfl rfl ?_ | refine wp_putf rfl (by repeat' first | assumption | refine qset_ne rfl ?_ | refine qset_self (c0 := ?_) ?_ | refine qset_nf (by omega) ?_ | fail) (by exact Nat.le_of_ble_eq_true rfl) rfl ?_ | refine wp_iald rfl (by repeat' first | assumption | refine qset_ne rfl ?_ | refine qset_self (c0 := ?_) ?_ | refine qset_nf (by omega) ?_ | fail) ?_ ?_ | refine wp_lald rfl (by repeat' first | assumption | refine qset_ne rfl ?_ | refine qset_self (c0 := ?_) ?_ | refine qset_nf (by omega) ?_ | fail) ?_ ?_ | refine wp_zald rfl (by repeat' first | assumption | refine qset_ne rfl ?_ | refine qset_self (c0 := ?_) ?_ | refine qset_nf (by omega) ?_ | fail) ?_ ?_ | refine wp_iast rfl (by repeat' first | assumption | refine qset_ne rfl ?_ | refine qset_self (c0 := ?_) ?_ | refine qset_nf (by omega) ?_ | fail) ?_ ?_ | refine wp_last rfl (by repeat' first | assumption | refine qset_ne rfl ?_ | refine qset_self (c0 := ?_) ?_ | refine qset_nf (by omega) ?_ | fail) ?_ ?_ | refine wp_alen rfl (by repeat' first | assumption | refine qset_ne rfl ?_ | refine qset_self (c0 := ?_) ?_ | refine qset_nf (by omega) ?_ | fail) rfl ?_ | refine wp_zast rfl (by repeat' first | assumption | refine qset_ne rfl ?_ | refine qset_self (c0 := ?_) ?_ | refine qset_nf (by omega) ?_ | fail) ?_ ?_ | refine wp_b rfl rfl (fun hc => absurd hc (by decide +kernel)) (fun _ => ?_) | refine wp_b rfl rfl (fun _ => ?_) (fun hc => absurd hc (by decide +kernel)) | refine wp_b rfl rfl (fun hc => ?_) (fun hc => ?_) | refine wp_v rfl rfl ?_ | refine ret_t ?_ | refine ret_f ?_ | fail
      rw [← Bool.not_eq_true, key]
      intro z
      exact hc2 z.2.1
theorem l_join {j : Nat} {L : Nat → Option Int64} {mk0 : Nat → Int64} {cm ht : Nat → Int32} {th : Nat → Int64} (HL : LocAt h E F now) (hj : j < 256) (q1 : ∀ k, k < 64 → lb (th j) k = (decide (k < (fLocs F).length) && (cMeet L now k).isSome)) (q2 : ∀ k, k < (fLocs F).length → mk0 (j * 40 + k) = (L k).getD 0) : ∀ m k, m + k = (fLocs F).length →
    ∀ (h1 : qH) (mk : Nat → Int64), h1[7]? = some (.inr (6, [.ref 8, .ref 9, .ref 10, .ref 11])) → h1[8]? = some (.inl (3, 256, .inl cm)) → h1[9]? = some (.inl (0, 256, .inl ht)) → h1[10]? = some (.inl (1, 256, .inr (.inl th))) → h1[11]? = some (.inl (1, 10240, .inr (.inl mk))) → qfx 7 11 h h1 →
    (∀ q, q < k → mk (j * 40 + q) = (cMeet L now q).getD 0) → (∀ p, p < j * 40 ∨ j * 40 + k ≤ p → mk p = mk0 p) →
    wp sc (m_States_join, 15, [(3, .int (nI k)), (2, .ref 18), (1, .int (nI j)), (0, .ref 7)], [], h1) (rU fun h' => ∃ mk', h'[7]? = some (.inr (6, [.ref 8, .ref 9, .ref 10, .ref 11])) ∧ h'[8]? = some (.inl (3, 256, .inl cm)) ∧ h'[9]? = some (.inl (0, 256, .inl ht)) ∧ h'[10]? = some (.inl (1, 256, .inr (.inl th))) ∧ h'[11]? = some (.inl (1, 10240, .inr (.inl mk'))) ∧ qfx 7 11 h h' ∧
      (∀ q, q < (fLocs F).length → mk' (j * 40 + q) = (cMeet L now q).getD 0) ∧ ∀ p, p < j * 40 ∨ j * 40 + (fLocs F).length ≤ p → mk' p = mk0 p) := by
  intro m
  induction m with
  | zero =>
    intro k hk h1 mk e7 e8 e9 e10 e11 x1 g1 g2
    obtain ⟨mk2, th2, dr, rf, wt, l1, l2, l3, l4, l5, l6, l7, l8⟩ := HL.fx x1 (by omega)
    have ek : k = (fLocs F).length := by omega
    subst ek
    refine wp_n rfl rfl ?_
    refine wp_n rfl rfl ?_
    refine wp_getf rfl (by repeat' first | assumption | refine qset_ne rfl ?_ | refine qset_self (c0 := ?_) ?_ | refine qset_nf (by omega) ?_ | fail) rfl ?_
    refine wp_b rfl rfl (fun hc => ?_) (fun hc => ?_)
    · repeat' first | refine wp_ist rfl rfl rfl rfl ?_ | refine wp_lst rfl rfl rfl rfl ?_ | refine wp_iinc rfl rfl rfl rfl ?_ | refine wp_f rfl rfl rfl ?_ | refine wp_getf rfl (by repeat' first | assumption | refine qset_ne rfl ?_ | refine qset_self (c0 := ?_) ?_ | refine qset_nf (by omega) ?_ | fail) rfl ?_ | refine wp_ast rfl rfl rfl rfl ?_ | refine wp_asN rfl rfl rfl rfl ?_ | refine wp_putf rfl (by repeat' first | assumption | refine qset_ne rfl ?_ | refine qset_self (c0 := ?_) ?_ | refine qset_nf (by omega) ?_ | fail) (by exact Nat.le_of_ble_eq_true rfl) rfl ?_ | refine wp_iald rfl (by repeat' first | assumption | refine qset_ne rfl ?_ | refine qset_self (c0 := ?_) ?_ | refine qset_nf (by omega) ?_ | fail) ?_ ?_ | refine wp_lald rfl (by repeat' first | assumption | refine qset_ne rfl ?_ | refine qset_self (c0 := ?_) ?_ | refine qset_nf (by omega) ?_ | fail) ?_ ?_ | refine wp_zald rfl (by repeat' first | assumption | refine qset_ne rfl ?_ | refine qset_self (c0 := ?_) ?_ | refine qset_nf (by omega) ?_ | fail) ?_ ?_ | refine wp_iast rfl (by repeat' first | assumption | refine qset_ne rfl ?_ | refine qset_self (c0 := ?_) ?_ | refine qset_nf (by omega) ?_ | fail) ?_ ?_ | refine wp_last rfl (by repeat' first | assumption | refine qset_ne rfl ?_ | refine qset_self (c0 := ?_) ?_ | refine qset_nf (by omega) ?_ | fail) ?_ ?_ | refine wp_alen rfl (by repeat' first | assumption | refine qset_ne rfl ?_ | refine qset_self (c0 := ?_) ?_ | refine qset_nf (by omega) ?_ | fail) rfl ?_ | refine wp_zast rfl (by repeat' first | assumption | refine qset_ne rfl ?_ | refine qset_self (c0 := ?_) ?_ | refine qset_nf (by omega) ?_ | fail) ?_ ?_ | refine wp_b rfl rfl (fun hc => absurd hc (by decide +kernel)) (fun _ => ?_) | refine wp_b rfl rfl (fun _ => ?_) (fun hc => absurd hc (by decide +kernel)) | refine wp_b rfl rfl (fun hc => ?_) (fun hc => ?_) | refine wp_v rfl rfl ?_ | refine ret_t ?_ | refine ret_f ?_ | fail
      exact ⟨mk, e7, e8, e9, e10, e11, x1, g1, g2⟩
    · (try simp (disch := omega) only [c2_eq, c2_ne, c2_lt, c2_ge, c2_gt, c2_le, c1_eq, c1_ne, c1_lt, c1_le, c1_gt, c1_ge, lg_le, lg_lt, lg_ge, lg_gt, lg_eq, lg_ne, bI_eq, bI_ne, qlc_0, qlc_2, qlc_3, qlc_4, qlc_5, qlc_7, qlc_8, qlc_9, qlc_10, qlc_11, qlc_12, qlc_14, lN_eq0, lN_leN, lN_ltN, lN_eqN, decide_eq_true_eq, decide_eq_false_iff_not, Bool.not_eq_true', Bool.not_eq_false'] at *)
      omega
  | succ m ih =>
    intro k hk h1 mk e7 e8 e9 e10 e11 x1 g1 g2
    obtain ⟨mk2, th2, dr, rf, wt, l1, l2, l3, l4, l5, l6, l7, l8⟩ := HL.fx x1 (by omega)
    have hrow := row40 hj (show k < 40 by omega)
    have hb : lb (th j) k = (cMeet L now k).isSome := by rw [q1 k (by omega)]; simp [show k < (fLocs F).length by omega]
    have hz : qcc1 .ne (lg_cmp (th j &&& lbit k) 0) = (cMeet L now k).isSome := by
      have := lz_b (x := th j) (show k < 64 by omega)
      rw [lg_eq] at this
      rw [lg_ne, this, hb, Bool.not_not]
    have ez : (nI j).toNatClampNeg = j := nI_clamp (by omega)
    have hmk : mk (j * 40 + k) = (L k).getD 0 := by rw [g2 _ (by omega), q2 k (by omega)]
    refine wp_n rfl rfl ?_
    refine wp_n rfl rfl ?_
    refine wp_getf rfl (by repeat' first | assumption | refine qset_ne rfl ?_ | refine qset_self (c0 := ?_) ?_ | refine qset_nf (by omega) ?_ | fail) rfl ?_
    refine wp_b rfl rfl (fun hc => ?_) (fun hc => ?_)
    · (try simp (disch := omega) only [c2_eq, c2_ne, c2_lt, c2_ge, c2_gt, c2_le, c1_eq, c1_ne, c1_lt, c1_le, c1_gt, c1_ge, lg_le, lg_lt, lg_ge, lg_gt, lg_eq, lg_ne, bI_eq, bI_ne, qlc_0, qlc_2, qlc_3, qlc_4, qlc_5, qlc_7, qlc_8, qlc_9, qlc_10, qlc_11, qlc_12, qlc_14, lN_eq0, lN_leN, lN_ltN, lN_eqN, decide_eq_true_eq, decide_eq_false_iff_not, Bool.not_eq_true', Bool.not_eq_false'] at *)
      omega
    · have fin : ∀ v, v = (cMeet L now k).getD 0 → wp sc (m_States_join, 75, [(3, .int (nI k + Int32.ofInt 1)), (2, .ref 18), (1, .int (nI j)), (0, .ref 7)], [], h1.set 11 (.inl (1, 10240, .inr (.inl (vp_updL mk (j * 40 + k) v))))) (rU fun h' => ∃ mk', h'[7]? = some (.inr (6, [.ref 8, .ref 9, .ref 10, .ref 11])) ∧ h'[8]? = some (.inl (3, 256, .inl cm)) ∧ h'[9]? = some (.inl (0, 256, .inl ht)) ∧ h'[10]? = some (.inl (1, 256, .inr (.inl th))) ∧ h'[11]? = some (.inl (1, 10240, .inr (.inl mk'))) ∧ qfx 7 11 h h' ∧
          (∀ q, q < (fLocs F).length → mk' (j * 40 + q) = (cMeet L now q).getD 0) ∧ ∀ p, p < j * 40 ∨ j * 40 + (fLocs F).length ≤ p → mk' p = mk0 p) := by
        intro v hv
        refine wp_n rfl rfl ?_
        rw [nI_inc]
        refine wp_sub (ih (k + 1) (by omega) _ _ (by repeat' first | assumption | refine qset_ne rfl ?_ | refine qset_self (c0 := ?_) ?_ | refine qset_nf (by omega) ?_ | fail) (by repeat' first | assumption | refine qset_ne rfl ?_ | refine qset_self (c0 := ?_) ?_ | refine qset_nf (by omega) ?_ | fail) (by repeat' first | assumption | refine qset_ne rfl ?_ | refine qset_self (c0 := ?_) ?_ | refine qset_nf (by omega) ?_ | fail) (by repeat' first | assumption | refine qset_ne rfl ?_ | refine qset_self (c0 := ?_) ?_ | refine qset_nf (by omega) ?_ | fail) (by repeat' first | assumption | refine qset_ne rfl ?_ | refine qset_self (c0 := ?_) ?_ | refine qset_nf (by omega) ?_ | fail) (x1.tr (by repeat' first | exact qfx.rf | refine qfx.sta ?_ (by repeat' first | assumption | refine qset_ne rfl ?_ | refine qset_self (c0 := ?_) ?_ | refine qset_nf (by omega) ?_ | fail) (by omega) (by omega) | refine qfx.sto ?_ (by repeat' first | assumption | refine qset_ne rfl ?_ | refine qset_self (c0 := ?_) ?_ | refine qset_nf (by omega) ?_ | fail) (by omega) (by omega) | fail)) (fun q hq => ?_) (fun p hp => ?_)) rfl ⟨rfl, rfl, rfl, rfl, trivial⟩
        · unfold vp_updL
          by_cases hqk : q = k
          · subst hqk
            rw [if_pos rfl, hv]
          · rw [if_neg (by omega)]
            exact g1 q (by omega)
        · unfold vp_updL
          rw [if_neg (by omega)]
          exact g2 p (by omega)
      have hd := cMeet_D L now k
      repeat' first | refine wp_Sip rfl rfl rfl (c_States_row sc h1 (nI j)) ?_ | refine wp_Slp rfl rfl rfl (c_Locals_bit sc h1 k (by omega)) ?_ | refine wp_ist rfl rfl rfl rfl ?_ | refine wp_lst rfl rfl rfl rfl ?_ | refine wp_iinc rfl rfl rfl rfl ?_ | refine wp_f rfl rfl rfl ?_ | refine wp_getf rfl (by repeat' first | assumption | refine qset_ne rfl ?_ | refine qset_self (c0 := ?_) ?_ | refine qset_nf (by omega) ?_ | fail) rfl ?_ | refine wp_ast rfl rfl rfl rfl ?_ | refine wp_asN rfl rfl rfl rfl ?_ | refine wp_putf rfl (by repeat' first | assumption | refine qset_ne rfl ?_ | refine qset_self (c0 := ?_) ?_ | refine qset_nf (by omega) ?_ | fail) (by exact Nat.le_of_ble_eq_true rfl) rfl ?_ | refine wp_iald rfl (by repeat' first | assumption | refine qset_ne rfl ?_ | refine qset_self (c0 := ?_) ?_ | refine qset_nf (by omega) ?_ | fail) ?_ ?_ | refine wp_lald rfl (by repeat' first | assumption | refine qset_ne rfl ?_ | refine qset_self (c0 := ?_) ?_ | refine qset_nf (by omega) ?_ | fail) ?_ ?_ | refine wp_zald rfl (by repeat' first | assumption | refine qset_ne rfl ?_ | refine qset_self (c0 := ?_) ?_ | refine qset_nf (by omega) ?_ | fail) ?_ ?_ | refine wp_iast rfl (by repeat' first | assumption | refine qset_ne rfl ?_ | refine qset_self (c0 := ?_) ?_ | refine qset_nf (by omega) ?_ | fail) ?_ ?_ | refine wp_last rfl (by repeat' first | assumption | refine qset_ne rfl ?_ | refine qset_self (c0 := ?_) ?_ | refine qset_nf (by omega) ?_ | fail) ?_ ?_ | refine wp_alen rfl (by repeat' first | assumption | refine qset_ne rfl ?_ | refine qset_self (c0 := ?_) ?_ | refine qset_nf (by omega) ?_ | fail) rfl ?_ | refine wp_zast rfl (by repeat' first | assumption | refine qset_ne rfl ?_ | refine qset_self (c0 := ?_) ?_ | refine qset_nf (by omega) ?_ | fail) ?_ ?_ | refine wp_v rfl rfl ?_ | refine ret_t ?_ | refine ret_f ?_ | fail
      · exact qin_nI (by omega) (by omega)
      · rw [ez]
        refine wp_b rfl rfl (fun hc2 => ?_) (fun hc2 => ?_)
        · rw [hz, hd.1] at hc2
          repeat' first | refine wp_ist rfl rfl rfl rfl ?_ | refine wp_lst rfl rfl rfl rfl ?_ | refine wp_iinc rfl rfl rfl rfl ?_ | refine wp_f rfl rfl rfl ?_ | refine wp_getf rfl (by repeat' first | assumption | refine qset_ne rfl ?_ | refine qset_self (c0 := ?_) ?_ | refine qset_nf (by omega) ?_ | fail) rfl ?_ | refine wp_ast rfl rfl rfl rfl ?_ | refine wp_asN rfl rfl rfl rfl ?_ | refine wp_putf rfl (by repeat' first | assumption | refine qset_ne rfl ?_ | refine qset_self (c0 := ?_) ?_ | refine qset_nf (by omega) ?_ | fail) (by exact Nat.le_of_ble_eq_true rfl) rfl ?_ | refine wp_iald rfl (by repeat' first | assumption | refine qset_ne rfl ?_ | refine qset_self (c0 := ?_) ?_ | refine qset_nf (by omega) ?_ | fail) ?_ ?_ | refine wp_lald rfl (by repeat' first | assumption | refine qset_ne rfl ?_ | refine qset_self (c0 := ?_) ?_ | refine qset_nf (by omega) ?_ | fail) ?_ ?_ | refine wp_zald rfl (by repeat' first | assumption | refine qset_ne rfl ?_ | refine qset_self (c0 := ?_) ?_ | refine qset_nf (by omega) ?_ | fail) ?_ ?_ | refine wp_iast rfl (by repeat' first | assumption | refine qset_ne rfl ?_ | refine qset_self (c0 := ?_) ?_ | refine qset_nf (by omega) ?_ | fail) ?_ ?_ | refine wp_last rfl (by repeat' first | assumption | refine qset_ne rfl ?_ | refine qset_self (c0 := ?_) ?_ | refine qset_nf (by omega) ?_ | fail) ?_ ?_ | refine wp_alen rfl (by repeat' first | assumption | refine qset_ne rfl ?_ | refine qset_self (c0 := ?_) ?_ | refine qset_nf (by omega) ?_ | fail) rfl ?_ | refine wp_zast rfl (by repeat' first | assumption | refine qset_ne rfl ?_ | refine qset_self (c0 := ?_) ?_ | refine qset_nf (by omega) ?_ | fail) ?_ ?_ | refine wp_v rfl rfl ?_ | refine ret_t ?_ | refine ret_f ?_ | fail
          all_goals first | exact qin_nI (by omega) (by omega) | exact hrow.2 | skip
          rw [hrow.1, hmk, nI_clamp (show k < 2 ^ 31 by omega), l8 k (by omega)]
          exact wp_sub (fin _ (by rw [hd.2, if_pos hc2])) rfl ⟨rfl, rfl, rfl, rfl, trivial⟩
        · rw [hz, hd.1] at hc2
          repeat' first | refine wp_ist rfl rfl rfl rfl ?_ | refine wp_lst rfl rfl rfl rfl ?_ | refine wp_iinc rfl rfl rfl rfl ?_ | refine wp_f rfl rfl rfl ?_ | refine wp_getf rfl (by repeat' first | assumption | refine qset_ne rfl ?_ | refine qset_self (c0 := ?_) ?_ | refine qset_nf (by omega) ?_ | fail) rfl ?_ | refine wp_ast rfl rfl rfl rfl ?_ | refine wp_asN rfl rfl rfl rfl ?_ | refine wp_putf rfl (by repeat' first | assumption | refine qset_ne rfl ?_ | refine qset_self (c0 := ?_) ?_ | refine qset_nf (by omega) ?_ | fail) (by exact Nat.le_of_ble_eq_true rfl) rfl ?_ | refine wp_iald rfl (by repeat' first | assumption | refine qset_ne rfl ?_ | refine qset_self (c0 := ?_) ?_ | refine qset_nf (by omega) ?_ | fail) ?_ ?_ | refine wp_lald rfl (by repeat' first | assumption | refine qset_ne rfl ?_ | refine qset_self (c0 := ?_) ?_ | refine qset_nf (by omega) ?_ | fail) ?_ ?_ | refine wp_zald rfl (by repeat' first | assumption | refine qset_ne rfl ?_ | refine qset_self (c0 := ?_) ?_ | refine qset_nf (by omega) ?_ | fail) ?_ ?_ | refine wp_iast rfl (by repeat' first | assumption | refine qset_ne rfl ?_ | refine qset_self (c0 := ?_) ?_ | refine qset_nf (by omega) ?_ | fail) ?_ ?_ | refine wp_last rfl (by repeat' first | assumption | refine qset_ne rfl ?_ | refine qset_self (c0 := ?_) ?_ | refine qset_nf (by omega) ?_ | fail) ?_ ?_ | refine wp_alen rfl (by repeat' first | assumption | refine qset_ne rfl ?_ | refine qset_self (c0 := ?_) ?_ | refine qset_nf (by omega) ?_ | fail) rfl ?_ | refine wp_zast rfl (by repeat' first | assumption | refine qset_ne rfl ?_ | refine qset_self (c0 := ?_) ?_ | refine qset_nf (by omega) ?_ | fail) ?_ ?_ | refine wp_v rfl rfl ?_ | refine ret_t ?_ | refine ret_f ?_ | fail
          all_goals first | exact qin_nI (by omega) (by omega) | exact hrow.2 | skip
          rw [hrow.1]
          exact wp_sub (fin _ (by rw [hd.2, if_neg (by rw [hc2]; decide)])) rfl ⟨rfl, rfl, rfl, rfl, trivial⟩
theorem c_States_join {j : Nat} {L : Nat → Option Int64} (H : StsAt h (fLocs F).length S) (HL : LocAt h E F now) (hj : j < 256) (hL : S.1 j = some L) : wp sc (m_States_join, 0, qargs 0 [.ref 7, .int (nI j), .ref 18], [], h) (rU fun h' => StsAt h' (fLocs F).length (upS S j (cMeet L now)) ∧ qfx 7 11 h h') := by
  obtain ⟨cm, ht, th, mk, h1, h2, h3, h4, h5, h6, h7, h8⟩ := H
  have HL0 := HL
  obtain ⟨mk2, th2, dr, rf, wt, l1, l2, l3, l4, l5, l6, l7, l8⟩ := HL
  obtain ⟨q1, q2⟩ := h7 j hj L hL
  have ez : (nI j).toNatClampNeg = j := nI_clamp (by omega)
  have q3 : ∀ k, k < 64 → lb (vp_updL th j (th j &&& th2) j) k = (decide (k < (fLocs F).length) && (cMeet L now k).isSome) := by
    intro k hk
    unfold vp_updL
    rw [if_pos rfl, lb_and, q1 k hk, l4 k hk, (cMeet_D L now k).1]
    cases decide (k < (fLocs F).length) <;> simp
  have x1 : qfx 7 11 h (h.set 10 (.inl (1, 256, .inr (.inl (vp_updL th j (th j &&& th2)))))) := (by repeat' first | exact qfx.rf | refine qfx.sta ?_ (by repeat' first | assumption | refine qset_ne rfl ?_ | refine qset_self (c0 := ?_) ?_ | refine qset_nf (by omega) ?_ | fail) (by omega) (by omega) | refine qfx.sto ?_ (by repeat' first | assumption | refine qset_ne rfl ?_ | refine qset_self (c0 := ?_) ?_ | refine qset_nf (by omega) ?_ | fail) (by omega) (by omega) | fail)
  have K := l_join (mk0 := mk) (cm := cm) (ht := ht) (th := vp_updL th j (th j &&& th2)) sc h HL0 hj q3 q2 (fLocs F).length 0 (by omega) _ mk (by repeat' first | assumption | refine qset_ne rfl ?_ | refine qset_self (c0 := ?_) ?_ | refine qset_nf (by omega) ?_ | fail) (by repeat' first | assumption | refine qset_ne rfl ?_ | refine qset_self (c0 := ?_) ?_ | refine qset_nf (by omega) ?_ | fail) (by repeat' first | assumption | refine qset_ne rfl ?_ | refine qset_self (c0 := ?_) ?_ | refine qset_nf (by omega) ?_ | fail) (qset_self h4) (by repeat' first | assumption | refine qset_ne rfl ?_ | refine qset_self (c0 := ?_) ?_ | refine qset_nf (by omega) ?_ | fail) x1 (fun q hq => absurd hq (Nat.not_lt_zero q)) (fun p hp => rfl)
  refine wp_n rfl rfl ?_
  refine wp_getf rfl (by repeat' first | assumption | refine qset_ne rfl ?_ | refine qset_self (c0 := ?_) ?_ | refine qset_nf (by omega) ?_ | fail) rfl ?_
  refine wp_n rfl rfl ?_
  refine wp_n rfl rfl ?_
  refine wp_lald rfl (by repeat' first | assumption | refine qset_ne rfl ?_ | refine qset_self (c0 := ?_) ?_ | refine qset_nf (by omega) ?_ | fail) (qin_nI (by omega) (by omega)) ?_
  rw [ez]
  refine wp_n rfl rfl ?_
  refine wp_getf rfl (by repeat' first | assumption | refine qset_ne rfl ?_ | refine qset_self (c0 := ?_) ?_ | refine qset_nf (by omega) ?_ | fail) rfl ?_
  refine wp_n rfl rfl ?_
  refine wp_last rfl (by repeat' first | assumption | refine qset_ne rfl ?_ | refine qset_self (c0 := ?_) ?_ | refine qset_nf (by omega) ?_ | fail) (qin_nI (by omega) (by omega)) ?_
  rw [ez]
  refine wp_n rfl rfl ?_
  refine wp_ist rfl rfl rfl rfl ?_
  refine (wp_sub K rfl ⟨rfl, rfl, rfl, rfl, trivial⟩).mono fun v h' q => ?_
  unfold rU at q ⊢
  split at q
  · obtain ⟨mk', e7, e8, e9, e10, e11, x2, g1, g2⟩ := q
    refine ⟨⟨cm, ht, _, mk', e7, e8, e9, e10, e11, fun i hi => ?_, fun i hi L' hL' => ?_, h8⟩, x2⟩
    · rw [h6 i hi]
      unfold upS
      by_cases hij : i = j
      · simp only [if_pos hij]
        rw [hij, hL]
        rfl
      · simp only [if_neg hij]
    · unfold upS at hL'
      by_cases hij : i = j
      · simp only [if_pos hij] at hL'
        cases hL'
        subst hij
        exact ⟨q3, g1⟩
      · simp only [if_neg hij] at hL'
        obtain ⟨r1, r2⟩ := h7 i hi L' hL'
        refine ⟨fun k hk => ?_, fun k hk => ?_⟩
        · unfold vp_updL
          rw [if_neg hij]
          exact r1 k hk
        · rw [g2 _ (by omega)]
          exact r2 k hk
  · exact q.elim
theorem c_States_comeTo {i j : Nat} (H : StsAt h (fLocs F).length S) (HL : LocAt h E F now) (hi : i < 256) (hj : j < 256) (hS : j ≤ i → (S.1 j).isSome = true) : wp sc (m_States_comeTo, 0, qargs 0 [.ref 7, .int (nI j), .int (nI i), .ref 18], [], h)
    (rI fun x h' => x = nI (cCome E F S i j now).1 ∧ StsAt h' (fLocs F).length (cCome E F S i j now).2 ∧ qfx 7 11 h h') := by
  have H0 := H
  have HL0 := HL
  obtain ⟨cm, ht, th, mk, h1, h2, h3, h4, h5, h6, h7, h8⟩ := H
  obtain ⟨mk2, th2, dr, rf, wt, l1, l2, l3, l4, l5, l6, l7, l8⟩ := HL
  have ez : (nI j).toNatClampNeg = j := nI_clamp (by omega)
  by_cases hji : j ≤ i
  · cases hL : S.1 j with
    | none =>
      have := hS hji
      rw [hL] at this
      cases this
    | some L =>
      have hf := c_States_fits sc h H0 HL0 hj hL
      have e : cCome E F S i j now = (if cFits E F L now then 0 else 9, S) := by unfold cCome; rw [if_pos hji, hL]; rfl
      rw [e]
      cases hF : cFits E F L now with
      | true =>
        rw [hF] at hf
        repeat' first | refine wp_Sip rfl rfl rfl (c_States_isPlace1 sc h hj) ?_ | refine wp_Vip rfl rfl (by repeat' first | assumption | refine qset_ne rfl ?_ | refine qset_self (c0 := ?_) ?_ | refine qset_nf (by omega) ?_ | fail) rfl (hf) ?_ | refine wp_ist rfl rfl rfl rfl ?_ | refine wp_lst rfl rfl rfl rfl ?_ | refine wp_iinc rfl rfl rfl rfl ?_ | refine wp_f rfl rfl rfl ?_ | refine wp_getf rfl (by repeat' first | assumption | refine qset_ne rfl ?_ | refine qset_self (c0 := ?_) ?_ | refine qset_nf (by omega) ?_ | fail) rfl ?_ | refine wp_ast rfl rfl rfl rfl ?_ | refine wp_asN rfl rfl rfl rfl ?_ | refine wp_putf rfl (by repeat' first | assumption | refine qset_ne rfl ?_ | refine qset_self (c0 := ?_) ?_ | refine qset_nf (by omega) ?_ | fail) (by exact Nat.le_of_ble_eq_true rfl) rfl ?_ | refine wp_iald rfl (by repeat' first | assumption | refine qset_ne rfl ?_ | refine qset_self (c0 := ?_) ?_ | refine qset_nf (by omega) ?_ | fail) ?_ ?_ | refine wp_lald rfl (by repeat' first | assumption | refine qset_ne rfl ?_ | refine qset_self (c0 := ?_) ?_ | refine qset_nf (by omega) ?_ | fail) ?_ ?_ | refine wp_zald rfl (by repeat' first | assumption | refine qset_ne rfl ?_ | refine qset_self (c0 := ?_) ?_ | refine qset_nf (by omega) ?_ | fail) ?_ ?_ | refine wp_iast rfl (by repeat' first | assumption | refine qset_ne rfl ?_ | refine qset_self (c0 := ?_) ?_ | refine qset_nf (by omega) ?_ | fail) ?_ ?_ | refine wp_last rfl (by repeat' first | assumption | refine qset_ne rfl ?_ | refine qset_self (c0 := ?_) ?_ | refine qset_nf (by omega) ?_ | fail) ?_ ?_ | refine wp_alen rfl (by repeat' first | assumption | refine qset_ne rfl ?_ | refine qset_self (c0 := ?_) ?_ | refine qset_nf (by omega) ?_ | fail) rfl ?_ | refine wp_zast rfl (by repeat' first | assumption | refine qset_ne rfl ?_ | refine qset_self (c0 := ?_) ?_ | refine qset_nf (by omega) ?_ | fail) ?_ ?_ | refine wp_b rfl rfl (fun hc => absurd hc (by decide +kernel)) (fun _ => ?_) | refine wp_b rfl rfl (fun _ => ?_) (fun hc => absurd hc (by decide +kernel)) | refine wp_c2y rfl (by omega) (by omega) (by dsimp only [qn2]; omega) ?_ | refine wp_c2n rfl (by omega) (by omega) (by dsimp only [qn2]; omega) ?_ | refine wp_c1y rfl (by omega) (by first | exact True.intro | (dsimp only [qn1]; omega)) ?_ | refine wp_c1n rfl (by omega) (by first | exact (fun z => z) | (dsimp only [qn1]; omega)) ?_ | refine wp_b rfl rfl (fun hc => ?_) (fun hc => ?_) | refine wp_v rfl rfl ?_ | refine ret_t ?_ | refine ret_f ?_ | fail
        exact ⟨rfl, H0, qfx.rf⟩
      | false =>
        rw [hF] at hf
        repeat' first | refine wp_Sip rfl rfl rfl (c_States_isPlace1 sc h hj) ?_ | refine wp_Vip rfl rfl (by repeat' first | assumption | refine qset_ne rfl ?_ | refine qset_self (c0 := ?_) ?_ | refine qset_nf (by omega) ?_ | fail) rfl (hf) ?_ | refine wp_ist rfl rfl rfl rfl ?_ | refine wp_lst rfl rfl rfl rfl ?_ | refine wp_iinc rfl rfl rfl rfl ?_ | refine wp_f rfl rfl rfl ?_ | refine wp_getf rfl (by repeat' first | assumption | refine qset_ne rfl ?_ | refine qset_self (c0 := ?_) ?_ | refine qset_nf (by omega) ?_ | fail) rfl ?_ | refine wp_ast rfl rfl rfl rfl ?_ | refine wp_asN rfl rfl rfl rfl ?_ | refine wp_putf rfl (by repeat' first | assumption | refine qset_ne rfl ?_ | refine qset_self (c0 := ?_) ?_ | refine qset_nf (by omega) ?_ | fail) (by exact Nat.le_of_ble_eq_true rfl) rfl ?_ | refine wp_iald rfl (by repeat' first | assumption | refine qset_ne rfl ?_ | refine qset_self (c0 := ?_) ?_ | refine qset_nf (by omega) ?_ | fail) ?_ ?_ | refine wp_lald rfl (by repeat' first | assumption | refine qset_ne rfl ?_ | refine qset_self (c0 := ?_) ?_ | refine qset_nf (by omega) ?_ | fail) ?_ ?_ | refine wp_zald rfl (by repeat' first | assumption | refine qset_ne rfl ?_ | refine qset_self (c0 := ?_) ?_ | refine qset_nf (by omega) ?_ | fail) ?_ ?_ | refine wp_iast rfl (by repeat' first | assumption | refine qset_ne rfl ?_ | refine qset_self (c0 := ?_) ?_ | refine qset_nf (by omega) ?_ | fail) ?_ ?_ | refine wp_last rfl (by repeat' first | assumption | refine qset_ne rfl ?_ | refine qset_self (c0 := ?_) ?_ | refine qset_nf (by omega) ?_ | fail) ?_ ?_ | refine wp_alen rfl (by repeat' first | assumption | refine qset_ne rfl ?_ | refine qset_self (c0 := ?_) ?_ | refine qset_nf (by omega) ?_ | fail) rfl ?_ | refine wp_zast rfl (by repeat' first | assumption | refine qset_ne rfl ?_ | refine qset_self (c0 := ?_) ?_ | refine qset_nf (by omega) ?_ | fail) ?_ ?_ | refine wp_b rfl rfl (fun hc => absurd hc (by decide +kernel)) (fun _ => ?_) | refine wp_b rfl rfl (fun _ => ?_) (fun hc => absurd hc (by decide +kernel)) | refine wp_c2y rfl (by omega) (by omega) (by dsimp only [qn2]; omega) ?_ | refine wp_c2n rfl (by omega) (by omega) (by dsimp only [qn2]; omega) ?_ | refine wp_c1y rfl (by omega) (by first | exact True.intro | (dsimp only [qn1]; omega)) ?_ | refine wp_c1n rfl (by omega) (by first | exact (fun z => z) | (dsimp only [qn1]; omega)) ?_ | refine wp_b rfl rfl (fun hc => ?_) (fun hc => ?_) | refine wp_v rfl rfl ?_ | refine ret_t ?_ | refine ret_f ?_ | fail
        exact ⟨rfl, H0, qfx.rf⟩
  · have hcm := h6 j hj
    cases hL : S.1 j with
    | none =>
      rw [hL] at hcm
      have e : cCome E F S i j now = (0, upS S j now) := by unfold cCome; rw [if_neg hji, hL]
      rw [e]
      have hk := c_States_keep sc h H0 HL0 hj
      repeat' first | refine wp_Sip rfl rfl rfl (c_States_isPlace1 sc h hj) ?_ | refine wp_ist rfl rfl rfl rfl ?_ | refine wp_lst rfl rfl rfl rfl ?_ | refine wp_iinc rfl rfl rfl rfl ?_ | refine wp_f rfl rfl rfl ?_ | refine wp_getf rfl (by repeat' first | assumption | refine qset_ne rfl ?_ | refine qset_self (c0 := ?_) ?_ | refine qset_nf (by omega) ?_ | fail) rfl ?_ | refine wp_ast rfl rfl rfl rfl ?_ | refine wp_asN rfl rfl rfl rfl ?_ | refine wp_putf rfl (by repeat' first | assumption | refine qset_ne rfl ?_ | refine qset_self (c0 := ?_) ?_ | refine qset_nf (by omega) ?_ | fail) (by exact Nat.le_of_ble_eq_true rfl) rfl ?_ | refine wp_iald rfl (by repeat' first | assumption | refine qset_ne rfl ?_ | refine qset_self (c0 := ?_) ?_ | refine qset_nf (by omega) ?_ | fail) ?_ ?_ | refine wp_lald rfl (by repeat' first | assumption | refine qset_ne rfl ?_ | refine qset_self (c0 := ?_) ?_ | refine qset_nf (by omega) ?_ | fail) ?_ ?_ | refine wp_zald rfl (by repeat' first | assumption | refine qset_ne rfl ?_ | refine qset_self (c0 := ?_) ?_ | refine qset_nf (by omega) ?_ | fail) ?_ ?_ | refine wp_iast rfl (by repeat' first | assumption | refine qset_ne rfl ?_ | refine qset_self (c0 := ?_) ?_ | refine qset_nf (by omega) ?_ | fail) ?_ ?_ | refine wp_last rfl (by repeat' first | assumption | refine qset_ne rfl ?_ | refine qset_self (c0 := ?_) ?_ | refine qset_nf (by omega) ?_ | fail) ?_ ?_ | refine wp_alen rfl (by repeat' first | assumption | refine qset_ne rfl ?_ | refine qset_self (c0 := ?_) ?_ | refine qset_nf (by omega) ?_ | fail) rfl ?_ | refine wp_zast rfl (by repeat' first | assumption | refine qset_ne rfl ?_ | refine qset_self (c0 := ?_) ?_ | refine qset_nf (by omega) ?_ | fail) ?_ ?_ | refine wp_b rfl rfl (fun hc => absurd hc (by decide +kernel)) (fun _ => ?_) | refine wp_b rfl rfl (fun _ => ?_) (fun hc => absurd hc (by decide +kernel)) | refine wp_c2y rfl (by omega) (by omega) (by dsimp only [qn2]; omega) ?_ | refine wp_c2n rfl (by omega) (by omega) (by dsimp only [qn2]; omega) ?_ | refine wp_c1y rfl (by omega) (by first | exact True.intro | (dsimp only [qn1]; omega)) ?_ | refine wp_c1n rfl (by omega) (by first | exact (fun z => z) | (dsimp only [qn1]; omega)) ?_ | refine wp_v rfl rfl ?_ | refine ret_t ?_ | refine ret_f ?_ | fail
      · exact qin_nI (by omega) (by omega)
      · rw [ez, hcm]
        repeat' first | refine wp_ist rfl rfl rfl rfl ?_ | refine wp_lst rfl rfl rfl rfl ?_ | refine wp_iinc rfl rfl rfl rfl ?_ | refine wp_f rfl rfl rfl ?_ | refine wp_getf rfl (by repeat' first | assumption | refine qset_ne rfl ?_ | refine qset_self (c0 := ?_) ?_ | refine qset_nf (by omega) ?_ | fail) rfl ?_ | refine wp_ast rfl rfl rfl rfl ?_ | refine wp_asN rfl rfl rfl rfl ?_ | refine wp_putf rfl (by repeat' first | assumption | refine qset_ne rfl ?_ | refine qset_self (c0 := ?_) ?_ | refine qset_nf (by omega) ?_ | fail) (by exact Nat.le_of_ble_eq_true rfl) rfl ?_ | refine wp_iald rfl (by repeat' first | assumption | refine qset_ne rfl ?_ | refine qset_self (c0 := ?_) ?_ | refine qset_nf (by omega) ?_ | fail) ?_ ?_ | refine wp_lald rfl (by repeat' first | assumption | refine qset_ne rfl ?_ | refine qset_self (c0 := ?_) ?_ | refine qset_nf (by omega) ?_ | fail) ?_ ?_ | refine wp_zald rfl (by repeat' first | assumption | refine qset_ne rfl ?_ | refine qset_self (c0 := ?_) ?_ | refine qset_nf (by omega) ?_ | fail) ?_ ?_ | refine wp_iast rfl (by repeat' first | assumption | refine qset_ne rfl ?_ | refine qset_self (c0 := ?_) ?_ | refine qset_nf (by omega) ?_ | fail) ?_ ?_ | refine wp_last rfl (by repeat' first | assumption | refine qset_ne rfl ?_ | refine qset_self (c0 := ?_) ?_ | refine qset_nf (by omega) ?_ | fail) ?_ ?_ | refine wp_alen rfl (by repeat' first | assumption | refine qset_ne rfl ?_ | refine qset_self (c0 := ?_) ?_ | refine qset_nf (by omega) ?_ | fail) rfl ?_ | refine wp_zast rfl (by repeat' first | assumption | refine qset_ne rfl ?_ | refine qset_self (c0 := ?_) ?_ | refine qset_nf (by omega) ?_ | fail) ?_ ?_ | refine wp_b rfl rfl (fun hc => absurd hc (by decide +kernel)) (fun _ => ?_) | refine wp_b rfl rfl (fun _ => ?_) (fun hc => absurd hc (by decide +kernel)) | refine wp_b rfl rfl (fun hc => ?_) (fun hc => ?_) | refine wp_v rfl rfl ?_ | refine ret_t ?_ | refine ret_f ?_ | fail
        refine wp_Vu rfl rfl (by repeat' first | assumption | refine qset_ne rfl ?_ | refine qset_self (c0 := ?_) ?_ | refine qset_nf (by omega) ?_ | fail) rfl (hk) ?_
        intro h2 ⟨g1, g2⟩
        repeat' first | refine wp_ist rfl rfl rfl rfl ?_ | refine wp_lst rfl rfl rfl rfl ?_ | refine wp_iinc rfl rfl rfl rfl ?_ | refine wp_f rfl rfl rfl ?_ | refine wp_getf rfl (by repeat' first | assumption | refine qset_ne rfl ?_ | refine qset_self (c0 := ?_) ?_ | refine qset_nf (by omega) ?_ | fail) rfl ?_ | refine wp_ast rfl rfl rfl rfl ?_ | refine wp_asN rfl rfl rfl rfl ?_ | refine wp_putf rfl (by repeat' first | assumption | refine qset_ne rfl ?_ | refine qset_self (c0 := ?_) ?_ | refine qset_nf (by omega) ?_ | fail) (by exact Nat.le_of_ble_eq_true rfl) rfl ?_ | refine wp_iald rfl (by repeat' first | assumption | refine qset_ne rfl ?_ | refine qset_self (c0 := ?_) ?_ | refine qset_nf (by omega) ?_ | fail) ?_ ?_ | refine wp_lald rfl (by repeat' first | assumption | refine qset_ne rfl ?_ | refine qset_self (c0 := ?_) ?_ | refine qset_nf (by omega) ?_ | fail) ?_ ?_ | refine wp_zald rfl (by repeat' first | assumption | refine qset_ne rfl ?_ | refine qset_self (c0 := ?_) ?_ | refine qset_nf (by omega) ?_ | fail) ?_ ?_ | refine wp_iast rfl (by repeat' first | assumption | refine qset_ne rfl ?_ | refine qset_self (c0 := ?_) ?_ | refine qset_nf (by omega) ?_ | fail) ?_ ?_ | refine wp_last rfl (by repeat' first | assumption | refine qset_ne rfl ?_ | refine qset_self (c0 := ?_) ?_ | refine qset_nf (by omega) ?_ | fail) ?_ ?_ | refine wp_alen rfl (by repeat' first | assumption | refine qset_ne rfl ?_ | refine qset_self (c0 := ?_) ?_ | refine qset_nf (by omega) ?_ | fail) rfl ?_ | refine wp_zast rfl (by repeat' first | assumption | refine qset_ne rfl ?_ | refine qset_self (c0 := ?_) ?_ | refine qset_nf (by omega) ?_ | fail) ?_ ?_ | refine wp_b rfl rfl (fun hc => absurd hc (by decide +kernel)) (fun _ => ?_) | refine wp_b rfl rfl (fun _ => ?_) (fun hc => absurd hc (by decide +kernel)) | refine wp_b rfl rfl (fun hc => ?_) (fun hc => ?_) | refine wp_v rfl rfl ?_ | refine ret_t ?_ | refine ret_f ?_ | fail
        exact ⟨rfl, g1, g2⟩
    | some L =>
      rw [hL] at hcm
      have hcm : cm j = bI true := hcm
      obtain ⟨q1, q2⟩ := h7 j hj L hL
      have key := cDrops_iff (show (fLocs F).length ≤ 64 by omega) q1 l4 l5
      have hk := c_States_join sc h H0 HL0 hj hL
      have e : cCome E F S i j now = if cDrops E F L now then (0, upS S j (cMeet L now)) else (9, S) := by unfold cCome; rw [if_neg hji, hL]
      rw [e]
      repeat' first | refine wp_Sip rfl rfl rfl (c_States_isPlace1 sc h hj) ?_ | refine wp_ist rfl rfl rfl rfl ?_ | refine wp_lst rfl rfl rfl rfl ?_ | refine wp_iinc rfl rfl rfl rfl ?_ | refine wp_f rfl rfl rfl ?_ | refine wp_getf rfl (by repeat' first | assumption | refine qset_ne rfl ?_ | refine qset_self (c0 := ?_) ?_ | refine qset_nf (by omega) ?_ | fail) rfl ?_ | refine wp_ast rfl rfl rfl rfl ?_ | refine wp_asN rfl rfl rfl rfl ?_ | refine wp_putf rfl (by repeat' first | assumption | refine qset_ne rfl ?_ | refine qset_self (c0 := ?_) ?_ | refine qset_nf (by omega) ?_ | fail) (by exact Nat.le_of_ble_eq_true rfl) rfl ?_ | refine wp_iald rfl (by repeat' first | assumption | refine qset_ne rfl ?_ | refine qset_self (c0 := ?_) ?_ | refine qset_nf (by omega) ?_ | fail) ?_ ?_ | refine wp_lald rfl (by repeat' first | assumption | refine qset_ne rfl ?_ | refine qset_self (c0 := ?_) ?_ | refine qset_nf (by omega) ?_ | fail) ?_ ?_ | refine wp_zald rfl (by repeat' first | assumption | refine qset_ne rfl ?_ | refine qset_self (c0 := ?_) ?_ | refine qset_nf (by omega) ?_ | fail) ?_ ?_ | refine wp_iast rfl (by repeat' first | assumption | refine qset_ne rfl ?_ | refine qset_self (c0 := ?_) ?_ | refine qset_nf (by omega) ?_ | fail) ?_ ?_ | refine wp_last rfl (by repeat' first | assumption | refine qset_ne rfl ?_ | refine qset_self (c0 := ?_) ?_ | refine qset_nf (by omega) ?_ | fail) ?_ ?_ | refine wp_alen rfl (by repeat' first | assumption | refine qset_ne rfl ?_ | refine qset_self (c0 := ?_) ?_ | refine qset_nf (by omega) ?_ | fail) rfl ?_ | refine wp_zast rfl (by repeat' first | assumption | refine qset_ne rfl ?_ | refine qset_self (c0 := ?_) ?_ | refine qset_nf (by omega) ?_ | fail) ?_ ?_ | refine wp_b rfl rfl (fun hc => absurd hc (by decide +kernel)) (fun _ => ?_) | refine wp_b rfl rfl (fun _ => ?_) (fun hc => absurd hc (by decide +kernel)) | refine wp_c2y rfl (by omega) (by omega) (by dsimp only [qn2]; omega) ?_ | refine wp_c2n rfl (by omega) (by omega) (by dsimp only [qn2]; omega) ?_ | refine wp_c1y rfl (by omega) (by first | exact True.intro | (dsimp only [qn1]; omega)) ?_ | refine wp_c1n rfl (by omega) (by first | exact (fun z => z) | (dsimp only [qn1]; omega)) ?_ | refine wp_v rfl rfl ?_ | refine ret_t ?_ | refine ret_f ?_ | fail
      · exact qin_nI (by omega) (by omega)
      · rw [ez, hcm]
        repeat' first | refine wp_ist rfl rfl rfl rfl ?_ | refine wp_lst rfl rfl rfl rfl ?_ | refine wp_iinc rfl rfl rfl rfl ?_ | refine wp_f rfl rfl rfl ?_ | refine wp_getf rfl (by repeat' first | assumption | refine qset_ne rfl ?_ | refine qset_self (c0 := ?_) ?_ | refine qset_nf (by omega) ?_ | fail) rfl ?_ | refine wp_ast rfl rfl rfl rfl ?_ | refine wp_asN rfl rfl rfl rfl ?_ | refine wp_putf rfl (by repeat' first | assumption | refine qset_ne rfl ?_ | refine qset_self (c0 := ?_) ?_ | refine qset_nf (by omega) ?_ | fail) (by exact Nat.le_of_ble_eq_true rfl) rfl ?_ | refine wp_iald rfl (by repeat' first | assumption | refine qset_ne rfl ?_ | refine qset_self (c0 := ?_) ?_ | refine qset_nf (by omega) ?_ | fail) ?_ ?_ | refine wp_lald rfl (by repeat' first | assumption | refine qset_ne rfl ?_ | refine qset_self (c0 := ?_) ?_ | refine qset_nf (by omega) ?_ | fail) ?_ ?_ | refine wp_zald rfl (by repeat' first | assumption | refine qset_ne rfl ?_ | refine qset_self (c0 := ?_) ?_ | refine qset_nf (by omega) ?_ | fail) ?_ ?_ | refine wp_iast rfl (by repeat' first | assumption | refine qset_ne rfl ?_ | refine qset_self (c0 := ?_) ?_ | refine qset_nf (by omega) ?_ | fail) ?_ ?_ | refine wp_last rfl (by repeat' first | assumption | refine qset_ne rfl ?_ | refine qset_self (c0 := ?_) ?_ | refine qset_nf (by omega) ?_ | fail) ?_ ?_ | refine wp_alen rfl (by repeat' first | assumption | refine qset_ne rfl ?_ | refine qset_self (c0 := ?_) ?_ | refine qset_nf (by omega) ?_ | fail) rfl ?_ | refine wp_zast rfl (by repeat' first | assumption | refine qset_ne rfl ?_ | refine qset_self (c0 := ?_) ?_ | refine qset_nf (by omega) ?_ | fail) ?_ ?_ | refine wp_v rfl rfl ?_ | refine ret_t ?_ | refine ret_f ?_ | fail
        refine wp_b rfl rfl (fun _ => ?_) (fun hc => absurd hc (by decide))
        repeat' first | refine wp_ist rfl rfl rfl rfl ?_ | refine wp_lst rfl rfl rfl rfl ?_ | refine wp_iinc rfl rfl rfl rfl ?_ | refine wp_f rfl rfl rfl ?_ | refine wp_getf rfl (by repeat' first | assumption | refine qset_ne rfl ?_ | refine qset_self (c0 := ?_) ?_ | refine qset_nf (by omega) ?_ | fail) rfl ?_ | refine wp_ast rfl rfl rfl rfl ?_ | refine wp_asN rfl rfl rfl rfl ?_ | refine wp_putf rfl (by repeat' first | assumption | refine qset_ne rfl ?_ | refine qset_self (c0 := ?_) ?_ | refine qset_nf (by omega) ?_ | fail) (by exact Nat.le_of_ble_eq_true rfl) rfl ?_ | refine wp_iald rfl (by repeat' first | assumption | refine qset_ne rfl ?_ | refine qset_self (c0 := ?_) ?_ | refine qset_nf (by omega) ?_ | fail) ?_ ?_ | refine wp_lald rfl (by repeat' first | assumption | refine qset_ne rfl ?_ | refine qset_self (c0 := ?_) ?_ | refine qset_nf (by omega) ?_ | fail) ?_ ?_ | refine wp_zald rfl (by repeat' first | assumption | refine qset_ne rfl ?_ | refine qset_self (c0 := ?_) ?_ | refine qset_nf (by omega) ?_ | fail) ?_ ?_ | refine wp_iast rfl (by repeat' first | assumption | refine qset_ne rfl ?_ | refine qset_self (c0 := ?_) ?_ | refine qset_nf (by omega) ?_ | fail) ?_ ?_ | refine wp_last rfl (by repeat' first | assumption | refine qset_ne rfl ?_ | refine qset_self (c0 := ?_) ?_ | refine qset_nf (by omega) ?_ | fail) ?_ ?_ | refine wp_alen rfl (by repeat' first | assumption | refine qset_ne rfl ?_ | refine qset_self (c0 := ?_) ?_ | refine qset_nf (by omega) ?_ | fail) rfl ?_ | refine wp_zast rfl (by repeat' first | assumption | refine qset_ne rfl ?_ | refine qset_self (c0 := ?_) ?_ | refine qset_nf (by omega) ?_ | fail) ?_ ?_ | refine wp_v rfl rfl ?_ | refine ret_t ?_ | refine ret_f ?_ | fail
        · exact qin_nI (by omega) (by omega)
        · rw [ez]
          repeat' first | refine wp_ist rfl rfl rfl rfl ?_ | refine wp_lst rfl rfl rfl rfl ?_ | refine wp_iinc rfl rfl rfl rfl ?_ | refine wp_f rfl rfl rfl ?_ | refine wp_getf rfl (by repeat' first | assumption | refine qset_ne rfl ?_ | refine qset_self (c0 := ?_) ?_ | refine qset_nf (by omega) ?_ | fail) rfl ?_ | refine wp_ast rfl rfl rfl rfl ?_ | refine wp_asN rfl rfl rfl rfl ?_ | refine wp_putf rfl (by repeat' first | assumption | refine qset_ne rfl ?_ | refine qset_self (c0 := ?_) ?_ | refine qset_nf (by omega) ?_ | fail) (by exact Nat.le_of_ble_eq_true rfl) rfl ?_ | refine wp_iald rfl (by repeat' first | assumption | refine qset_ne rfl ?_ | refine qset_self (c0 := ?_) ?_ | refine qset_nf (by omega) ?_ | fail) ?_ ?_ | refine wp_lald rfl (by repeat' first | assumption | refine qset_ne rfl ?_ | refine qset_self (c0 := ?_) ?_ | refine qset_nf (by omega) ?_ | fail) ?_ ?_ | refine wp_zald rfl (by repeat' first | assumption | refine qset_ne rfl ?_ | refine qset_self (c0 := ?_) ?_ | refine qset_nf (by omega) ?_ | fail) ?_ ?_ | refine wp_iast rfl (by repeat' first | assumption | refine qset_ne rfl ?_ | refine qset_self (c0 := ?_) ?_ | refine qset_nf (by omega) ?_ | fail) ?_ ?_ | refine wp_last rfl (by repeat' first | assumption | refine qset_ne rfl ?_ | refine qset_self (c0 := ?_) ?_ | refine qset_nf (by omega) ?_ | fail) ?_ ?_ | refine wp_alen rfl (by repeat' first | assumption | refine qset_ne rfl ?_ | refine qset_self (c0 := ?_) ?_ | refine qset_nf (by omega) ?_ | fail) rfl ?_ | refine wp_zast rfl (by repeat' first | assumption | refine qset_ne rfl ?_ | refine qset_self (c0 := ?_) ?_ | refine qset_nf (by omega) ?_ | fail) ?_ ?_ | refine wp_v rfl rfl ?_ | refine ret_t ?_ | refine ret_f ?_ | fail
          refine wp_b rfl rfl (fun hc => ?_) (fun hc => ?_)
          · rw [show qlc 1 = -1 from rfl, lg_eq, decide_eq_true_eq, ← key] at hc
            rw [hc]
            repeat' first | refine wp_ist rfl rfl rfl rfl ?_ | refine wp_lst rfl rfl rfl rfl ?_ | refine wp_iinc rfl rfl rfl rfl ?_ | refine wp_f rfl rfl rfl ?_ | refine wp_getf rfl (by repeat' first | assumption | refine qset_ne rfl ?_ | refine qset_self (c0 := ?_) ?_ | refine qset_nf (by omega) ?_ | fail) rfl ?_ | refine wp_ast rfl rfl rfl rfl ?_ | refine wp_asN rfl rfl rfl rfl ?_ | refine wp_putf rfl (by repeat' first | assumption | refine qset_ne rfl ?_ | refine qset_self (c0 := ?_) ?_ | refine qset_nf (by omega) ?_ | fail) (by exact Nat.le_of_ble_eq_true rfl) rfl ?_ | refine wp_iald rfl (by repeat' first | assumption | refine qset_ne rfl ?_ | refine qset_self (c0 := ?_) ?_ | refine qset_nf (by omega) ?_ | fail) ?_ ?_ | refine wp_lald rfl (by repeat' first | assumption | refine qset_ne rfl ?_ | refine qset_self (c0 := ?_) ?_ | refine qset_nf (by omega) ?_ | fail) ?_ ?_ | refine wp_zald rfl (by repeat' first | assumption | refine qset_ne rfl ?_ | refine qset_self (c0 := ?_) ?_ | refine qset_nf (by omega) ?_ | fail) ?_ ?_ | refine wp_iast rfl (by repeat' first | assumption | refine qset_ne rfl ?_ | refine qset_self (c0 := ?_) ?_ | refine qset_nf (by omega) ?_ | fail) ?_ ?_ | refine wp_last rfl (by repeat' first | assumption | refine qset_ne rfl ?_ | refine qset_self (c0 := ?_) ?_ | refine qset_nf (by omega) ?_ | fail) ?_ ?_ | refine wp_alen rfl (by repeat' first | assumption | refine qset_ne rfl ?_ | refine qset_self (c0 := ?_) ?_ | refine qset_nf (by omega) ?_ | fail) rfl ?_ | refine wp_zast rfl (by repeat' first | assumption | refine qset_ne rfl ?_ | refine qset_self (c0 := ?_) ?_ | refine qset_nf (by omega) ?_ | fail) ?_ ?_ | refine wp_b rfl rfl (fun hc => absurd hc (by decide +kernel)) (fun _ => ?_) | refine wp_b rfl rfl (fun _ => ?_) (fun hc => absurd hc (by decide +kernel)) | refine wp_b rfl rfl (fun hc => ?_) (fun hc => ?_) | refine wp_v rfl rfl ?_ | refine ret_t ?_ | refine ret_f ?_ | fail
            refine wp_Vu rfl rfl (by repeat' first | assumption | refine qset_ne rfl ?_ | refine qset_self (c0 := ?_) ?_ | refine qset_nf (by omega) ?_ | fail) rfl (hk) ?_
            intro h2 ⟨g1, g2⟩
            repeat' first | refine wp_ist rfl rfl rfl rfl ?_ | refine wp_lst rfl rfl rfl rfl ?_ | refine wp_iinc rfl rfl rfl rfl ?_ | refine wp_f rfl rfl rfl ?_ | refine wp_getf rfl (by repeat' first | assumption | refine qset_ne rfl ?_ | refine qset_self (c0 := ?_) ?_ | refine qset_nf (by omega) ?_ | fail) rfl ?_ | refine wp_ast rfl rfl rfl rfl ?_ | refine wp_asN rfl rfl rfl rfl ?_ | refine wp_putf rfl (by repeat' first | assumption | refine qset_ne rfl ?_ | refine qset_self (c0 := ?_) ?_ | refine qset_nf (by omega) ?_ | fail) (by exact Nat.le_of_ble_eq_true rfl) rfl ?_ | refine wp_iald rfl (by repeat' first | assumption | refine qset_ne rfl ?_ | refine qset_self (c0 := ?_) ?_ | refine qset_nf (by omega) ?_ | fail) ?_ ?_ | refine wp_lald rfl (by repeat' first | assumption | refine qset_ne rfl ?_ | refine qset_self (c0 := ?_) ?_ | refine qset_nf (by omega) ?_ | fail) ?_ ?_ | refine wp_zald rfl (by repeat' first | assumption | refine qset_ne rfl ?_ | refine qset_self (c0 := ?_) ?_ | refine qset_nf (by omega) ?_ | fail) ?_ ?_ | refine wp_iast rfl (by repeat' first | assumption | refine qset_ne rfl ?_ | refine qset_self (c0 := ?_) ?_ | refine qset_nf (by omega) ?_ | fail) ?_ ?_ | refine wp_last rfl (by repeat' first | assumption | refine qset_ne rfl ?_ | refine qset_self (c0 := ?_) ?_ | refine qset_nf (by omega) ?_ | fail) ?_ ?_ | refine wp_alen rfl (by repeat' first | assumption | refine qset_ne rfl ?_ | refine qset_self (c0 := ?_) ?_ | refine qset_nf (by omega) ?_ | fail) rfl ?_ | refine wp_zast rfl (by repeat' first | assumption | refine qset_ne rfl ?_ | refine qset_self (c0 := ?_) ?_ | refine qset_nf (by omega) ?_ | fail) ?_ ?_ | refine wp_b rfl rfl (fun hc => absurd hc (by decide +kernel)) (fun _ => ?_) | refine wp_b rfl rfl (fun _ => ?_) (fun hc => absurd hc (by decide +kernel)) | refine wp_b rfl rfl (fun hc => ?_) (fun hc => ?_) | refine wp_v rfl rfl ?_ | refine ret_t ?_ | refine ret_f ?_ | fail
            exact ⟨rfl, g1, g2⟩
          · rw [show qlc 1 = -1 from rfl, lg_eq, decide_eq_false_iff_not, ← key, Bool.not_eq_true] at hc
            rw [hc]
            repeat' first | refine wp_ist rfl rfl rfl rfl ?_ | refine wp_lst rfl rfl rfl rfl ?_ | refine wp_iinc rfl rfl rfl rfl ?_ | refine wp_f rfl rfl rfl ?_ | refine wp_getf rfl (by repeat' first | assumption | refine qset_ne rfl ?_ | refine qset_self (c0 := ?_) ?_ | refine qset_nf (by omega) ?_ | fail) rfl ?_ | refine wp_ast rfl rfl rfl rfl ?_ | refine wp_asN rfl rfl rfl rfl ?_ | refine wp_putf rfl (by repeat' first | assumption | refine qset_ne rfl ?_ | refine qset_self (c0 := ?_) ?_ | refine qset_nf (by omega) ?_ | fail) (by exact Nat.le_of_ble_eq_true rfl) rfl ?_ | refine wp_iald rfl (by repeat' first | assumption | refine qset_ne rfl ?_ | refine qset_self (c0 := ?_) ?_ | refine qset_nf (by omega) ?_ | fail) ?_ ?_ | refine wp_lald rfl (by repeat' first | assumption | refine qset_ne rfl ?_ | refine qset_self (c0 := ?_) ?_ | refine qset_nf (by omega) ?_ | fail) ?_ ?_ | refine wp_zald rfl (by repeat' first | assumption | refine qset_ne rfl ?_ | refine qset_self (c0 := ?_) ?_ | refine qset_nf (by omega) ?_ | fail) ?_ ?_ | refine wp_iast rfl (by repeat' first | assumption | refine qset_ne rfl ?_ | refine qset_self (c0 := ?_) ?_ | refine qset_nf (by omega) ?_ | fail) ?_ ?_ | refine wp_last rfl (by repeat' first | assumption | refine qset_ne rfl ?_ | refine qset_self (c0 := ?_) ?_ | refine qset_nf (by omega) ?_ | fail) ?_ ?_ | refine wp_alen rfl (by repeat' first | assumption | refine qset_ne rfl ?_ | refine qset_self (c0 := ?_) ?_ | refine qset_nf (by omega) ?_ | fail) rfl ?_ | refine wp_zast rfl (by repeat' first | assumption | refine qset_ne rfl ?_ | refine qset_self (c0 := ?_) ?_ | refine qset_nf (by omega) ?_ | fail) ?_ ?_ | refine wp_b rfl rfl (fun hc => absurd hc (by decide +kernel)) (fun _ => ?_) | refine wp_b rfl rfl (fun _ => ?_) (fun hc => absurd hc (by decide +kernel)) | refine wp_b rfl rfl (fun hc => ?_) (fun hc => ?_) | refine wp_v rfl rfl ?_ | refine ret_t ?_ | refine ret_f ?_ | fail
            exact ⟨rfl, H0, qfx.rf⟩
theorem l_Sbegin (HL : LocAt h E F now) {Q : Option Value → qH → Prop} (hQ : ∀ h1, StsAt h1 (fLocs F).length (fun _ => none, fun _ => none) → qfx 7 11 h h1 → wp sc (m_States_begin, 24, [(1, .ref 18), (0, .ref 7)], [], h1) Q) : ∀ m i, m + i = 256 → ∀ (h1 : qH) (cm : Nat → Int32), StsRaw h1 → h1[8]? = some (.inl (3, 256, .inl cm)) → (∀ k, k < i → cm k = bI false) → qfx 7 11 h h1 →
    wp sc (m_States_begin, 2, [(2, .int (nI i)), (1, .ref 18), (0, .ref 7)], [], h1) Q := by
  intro m
  induction m with
  | zero =>
    intro i hi h1 cm HR e8 g1 x1
    obtain ⟨cm0, ht, th, mk, e7, e80, e9, e10, e11⟩ := HR
    have ei : i = 256 := by omega
    subst ei
    clear e80
    refine wp_n rfl rfl ?_
    refine wp_n rfl rfl ?_
    refine wp_getf rfl (by repeat' first | assumption | refine qset_ne rfl ?_ | refine qset_self (c0 := ?_) ?_ | refine qset_nf (by omega) ?_ | fail) rfl ?_
    refine wp_alen rfl (by repeat' first | assumption | refine qset_ne rfl ?_ | refine qset_self (c0 := ?_) ?_ | refine qset_nf (by omega) ?_ | fail) rfl ?_
    refine wp_b rfl rfl (fun hc => ?_) (fun hc => absurd hc (by decide +kernel))
    exact wp_sub (hQ h1 ⟨cm, ht, th, mk, e7, e8, e9, e10, e11, fun k hk => g1 k hk, fun k hk L hL => (by cases hL), fun k v hk hv => (by cases hv)⟩ x1) rfl ⟨rfl, rfl, trivial⟩
  | succ m ih =>
    intro i hi h1 cm HR e8 g1 x1
    obtain ⟨cm0, ht, th, mk, e7, e80, e9, e10, e11⟩ := HR
    clear e80
    refine wp_n rfl rfl ?_
    refine wp_n rfl rfl ?_
    refine wp_getf rfl (by repeat' first | assumption | refine qset_ne rfl ?_ | refine qset_self (c0 := ?_) ?_ | refine qset_nf (by omega) ?_ | fail) rfl ?_
    refine wp_alen rfl (by repeat' first | assumption | refine qset_ne rfl ?_ | refine qset_self (c0 := ?_) ?_ | refine qset_nf (by omega) ?_ | fail) rfl ?_
    refine wp_b rfl rfl (fun hc => ?_) (fun hc => ?_)
    · (try simp (disch := omega) only [c2_eq, c2_ne, c2_lt, c2_ge, c2_gt, c2_le, c1_eq, c1_ne, c1_lt, c1_le, c1_gt, c1_ge, lg_le, lg_lt, lg_ge, lg_gt, lg_eq, lg_ne, bI_eq, bI_ne, qlc_0, qlc_2, qlc_3, qlc_4, qlc_5, qlc_7, qlc_8, qlc_9, qlc_10, qlc_11, qlc_12, qlc_14, lN_eq0, lN_leN, lN_ltN, lN_eqN, decide_eq_true_eq, decide_eq_false_iff_not, Bool.not_eq_true', Bool.not_eq_false'] at *)
      omega
    · repeat' first | refine wp_ist rfl rfl rfl rfl ?_ | refine wp_lst rfl rfl rfl rfl ?_ | refine wp_iinc rfl rfl rfl rfl ?_ | refine wp_f rfl rfl rfl ?_ | refine wp_getf rfl (by repeat' first | assumption | refine qset_ne rfl ?_ | refine qset_self (c0 := ?_) ?_ | refine qset_nf (by omega) ?_ | fail) rfl ?_ | refine wp_ast rfl rfl rfl rfl ?_ | refine wp_asN rfl rfl rfl rfl ?_ | refine wp_putf rfl (by repeat' first | assumption | refine qset_ne rfl ?_ | refine qset_self (c0 := ?_) ?_ | refine qset_nf (by omega) ?_ | fail) (by exact Nat.le_of_ble_eq_true rfl) rfl ?_ | refine wp_iald rfl (by repeat' first | assumption | refine qset_ne rfl ?_ | refine qset_self (c0 := ?_) ?_ | refine qset_nf (by omega) ?_ | fail) ?_ ?_ | refine wp_lald rfl (by repeat' first | assumption | refine qset_ne rfl ?_ | refine qset_self (c0 := ?_) ?_ | refine qset_nf (by omega) ?_ | fail) ?_ ?_ | refine wp_zald rfl (by repeat' first | assumption | refine qset_ne rfl ?_ | refine qset_self (c0 := ?_) ?_ | refine qset_nf (by omega) ?_ | fail) ?_ ?_ | refine wp_iast rfl (by repeat' first | assumption | refine qset_ne rfl ?_ | refine qset_self (c0 := ?_) ?_ | refine qset_nf (by omega) ?_ | fail) ?_ ?_ | refine wp_last rfl (by repeat' first | assumption | refine qset_ne rfl ?_ | refine qset_self (c0 := ?_) ?_ | refine qset_nf (by omega) ?_ | fail) ?_ ?_ | refine wp_alen rfl (by repeat' first | assumption | refine qset_ne rfl ?_ | refine qset_self (c0 := ?_) ?_ | refine qset_nf (by omega) ?_ | fail) rfl ?_ | refine wp_zast rfl (by repeat' first | assumption | refine qset_ne rfl ?_ | refine qset_self (c0 := ?_) ?_ | refine qset_nf (by omega) ?_ | fail) ?_ ?_ | refine wp_b rfl rfl (fun hc => absurd hc (by decide +kernel)) (fun _ => ?_) | refine wp_b rfl rfl (fun _ => ?_) (fun hc => absurd hc (by decide +kernel)) | refine wp_b rfl rfl (fun hc => ?_) (fun hc => ?_) | refine wp_v rfl rfl ?_ | refine ret_t ?_ | refine ret_f ?_ | fail
      · exact qin_nI (by omega) (by omega)
      · rw [nI_clamp (show i < 2 ^ 31 by omega)]
        refine wp_n rfl rfl ?_
        rw [nI_inc]
        refine wp_sub (ih (i + 1) (by omega) _ _ ⟨_, ht, th, mk, (by repeat' first | assumption | refine qset_ne rfl ?_ | refine qset_self (c0 := ?_) ?_ | refine qset_nf (by omega) ?_ | fail), (by repeat' first | assumption | refine qset_ne rfl ?_ | refine qset_self (c0 := ?_) ?_ | refine qset_nf (by omega) ?_ | fail), (by repeat' first | assumption | refine qset_ne rfl ?_ | refine qset_self (c0 := ?_) ?_ | refine qset_nf (by omega) ?_ | fail), (by repeat' first | assumption | refine qset_ne rfl ?_ | refine qset_self (c0 := ?_) ?_ | refine qset_nf (by omega) ?_ | fail), (by repeat' first | assumption | refine qset_ne rfl ?_ | refine qset_self (c0 := ?_) ?_ | refine qset_nf (by omega) ?_ | fail)⟩ (by repeat' first | assumption | refine qset_ne rfl ?_ | refine qset_self (c0 := ?_) ?_ | refine qset_nf (by omega) ?_ | fail) (fun k hk => ?_) (x1.tr (by repeat' first | exact qfx.rf | refine qfx.sta ?_ (by repeat' first | assumption | refine qset_ne rfl ?_ | refine qset_self (c0 := ?_) ?_ | refine qset_nf (by omega) ?_ | fail) (by omega) (by omega) | refine qfx.sto ?_ (by repeat' first | assumption | refine qset_ne rfl ?_ | refine qset_self (c0 := ?_) ?_ | refine qset_nf (by omega) ?_ | fail) (by omega) (by omega) | fail))) rfl ⟨rfl, rfl, rfl, trivial⟩
        unfold upd
        by_cases hki : k = i
        · rw [if_pos hki]
          exact nar0
        · rw [if_neg hki]
          exact g1 k (by omega)
theorem c_States_begin (HR : StsRaw h) (HL : LocAt h E F now) : wp sc (m_States_begin, 0, qargs 0 [.ref 7, .ref 18], [], h) (rU fun h' => StsAt h' (fLocs F).length (upS (fun _ => none, fun _ => none) 0 now) ∧ qfx 7 11 h h') := by
  have HR0 := HR
  obtain ⟨cm, ht, th, mk, e7, e8, e9, e10, e11⟩ := HR
  have K := l_Sbegin (Q := rU fun h' => StsAt h' (fLocs F).length (upS (fun _ => none, fun _ => none) 0 now) ∧ qfx 7 11 h h') sc h HL (fun h1 H1 x1 => by
    have hk := c_States_keep sc h1 H1 (HL.fx x1 (by omega)) (show 0 < 256 by decide)
    obtain ⟨cm, ht, th, mk, e7, e8, e9, e10, e11⟩ := H1.raw
    repeat' first | refine wp_ist rfl rfl rfl rfl ?_ | refine wp_lst rfl rfl rfl rfl ?_ | refine wp_iinc rfl rfl rfl rfl ?_ | refine wp_f rfl rfl rfl ?_ | refine wp_getf rfl (by repeat' first | assumption | refine qset_ne rfl ?_ | refine qset_self (c0 := ?_) ?_ | refine qset_nf (by omega) ?_ | fail) rfl ?_ | refine wp_ast rfl rfl rfl rfl ?_ | refine wp_asN rfl rfl rfl rfl ?_ | refine wp_putf rfl (by repeat' first | assumption | refine qset_ne rfl ?_ | refine qset_self (c0 := ?_) ?_ | refine qset_nf (by omega) ?_ | fail) (by exact Nat.le_of_ble_eq_true rfl) rfl ?_ | refine wp_iald rfl (by repeat' first | assumption | refine qset_ne rfl ?_ | refine qset_self (c0 := ?_) ?_ | refine qset_nf (by omega) ?_ | fail) ?_ ?_ | refine wp_lald rfl (by repeat' first | assumption | refine qset_ne rfl ?_ | refine qset_self (c0 := ?_) ?_ | refine qset_nf (by omega) ?_ | fail) ?_ ?_ | refine wp_zald rfl (by repeat' first | assumption | refine qset_ne rfl ?_ | refine qset_self (c0 := ?_) ?_ | refine qset_nf (by omega) ?_ | fail) ?_ ?_ | refine wp_iast rfl (by repeat' first | assumption | refine qset_ne rfl ?_ | refine qset_self (c0 := ?_) ?_ | refine qset_nf (by omega) ?_ | fail) ?_ ?_ | refine wp_last rfl (by repeat' first | assumption | refine qset_ne rfl ?_ | refine qset_self (c0 := ?_) ?_ | refine qset_nf (by omega) ?_ | fail) ?_ ?_ | refine wp_alen rfl (by repeat' first | assumption | refine qset_ne rfl ?_ | refine qset_self (c0 := ?_) ?_ | refine qset_nf (by omega) ?_ | fail) rfl ?_ | refine wp_zast rfl (by repeat' first | assumption | refine qset_ne rfl ?_ | refine qset_self (c0 := ?_) ?_ | refine qset_nf (by omega) ?_ | fail) ?_ ?_ | refine wp_b rfl rfl (fun hc => absurd hc (by decide +kernel)) (fun _ => ?_) | refine wp_b rfl rfl (fun _ => ?_) (fun hc => absurd hc (by decide +kernel)) | refine wp_b rfl rfl (fun hc => ?_) (fun hc => ?_) | refine wp_v rfl rfl ?_ | refine ret_t ?_ | refine ret_f ?_ | fail
    refine wp_Vu rfl rfl (by repeat' first | assumption | refine qset_ne rfl ?_ | refine qset_self (c0 := ?_) ?_ | refine qset_nf (by omega) ?_ | fail) rfl (hk) ?_
    intro h2 ⟨g1, g2⟩
    repeat' first | refine wp_ist rfl rfl rfl rfl ?_ | refine wp_lst rfl rfl rfl rfl ?_ | refine wp_iinc rfl rfl rfl rfl ?_ | refine wp_f rfl rfl rfl ?_ | refine wp_getf rfl (by repeat' first | assumption | refine qset_ne rfl ?_ | refine qset_self (c0 := ?_) ?_ | refine qset_nf (by omega) ?_ | fail) rfl ?_ | refine wp_ast rfl rfl rfl rfl ?_ | refine wp_asN rfl rfl rfl rfl ?_ | refine wp_putf rfl (by repeat' first | assumption | refine qset_ne rfl ?_ | refine qset_self (c0 := ?_) ?_ | refine qset_nf (by omega) ?_ | fail) (by exact Nat.le_of_ble_eq_true rfl) rfl ?_ | refine wp_iald rfl (by repeat' first | assumption | refine qset_ne rfl ?_ | refine qset_self (c0 := ?_) ?_ | refine qset_nf (by omega) ?_ | fail) ?_ ?_ | refine wp_lald rfl (by repeat' first | assumption | refine qset_ne rfl ?_ | refine qset_self (c0 := ?_) ?_ | refine qset_nf (by omega) ?_ | fail) ?_ ?_ | refine wp_zald rfl (by repeat' first | assumption | refine qset_ne rfl ?_ | refine qset_self (c0 := ?_) ?_ | refine qset_nf (by omega) ?_ | fail) ?_ ?_ | refine wp_iast rfl (by repeat' first | assumption | refine qset_ne rfl ?_ | refine qset_self (c0 := ?_) ?_ | refine qset_nf (by omega) ?_ | fail) ?_ ?_ | refine wp_last rfl (by repeat' first | assumption | refine qset_ne rfl ?_ | refine qset_self (c0 := ?_) ?_ | refine qset_nf (by omega) ?_ | fail) ?_ ?_ | refine wp_alen rfl (by repeat' first | assumption | refine qset_ne rfl ?_ | refine qset_self (c0 := ?_) ?_ | refine qset_nf (by omega) ?_ | fail) rfl ?_ | refine wp_zast rfl (by repeat' first | assumption | refine qset_ne rfl ?_ | refine qset_self (c0 := ?_) ?_ | refine qset_nf (by omega) ?_ | fail) ?_ ?_ | refine wp_b rfl rfl (fun hc => absurd hc (by decide +kernel)) (fun _ => ?_) | refine wp_b rfl rfl (fun _ => ?_) (fun hc => absurd hc (by decide +kernel)) | refine wp_b rfl rfl (fun hc => ?_) (fun hc => ?_) | refine wp_v rfl rfl ?_ | refine ret_t ?_ | refine ret_f ?_ | fail
    exact ⟨g1, x1.tr g2⟩) 256 0 (by omega) h cm HR0 e8 (fun k hk => absurd hk (Nat.not_lt_zero k)) qfx.rf
  repeat' first | (refine wp_sub K rfl ⟨rfl, rfl, rfl, trivial⟩) | refine wp_ist rfl rfl rfl rfl ?_ | refine wp_lst rfl rfl rfl rfl ?_ | refine wp_iinc rfl rfl rfl rfl ?_ | refine wp_f rfl rfl rfl ?_ | refine wp_getf rfl (by repeat' first | assumption | refine qset_ne rfl ?_ | refine qset_self (c0 := ?_) ?_ | refine qset_nf (by omega) ?_ | fail) rfl ?_ | refine wp_ast rfl rfl rfl rfl ?_ | refine wp_asN rfl rfl rfl rfl ?_ | refine wp_putf rfl (by repeat' first | assumption | refine qset_ne rfl ?_ | refine qset_self (c0 := ?_) ?_ | refine qset_nf (by omega) ?_ | fail) (by exact Nat.le_of_ble_eq_true rfl) rfl ?_ | refine wp_iald rfl (by repeat' first | assumption | refine qset_ne rfl ?_ | refine qset_self (c0 := ?_) ?_ | refine qset_nf (by omega) ?_ | fail) ?_ ?_ | refine wp_lald rfl (by repeat' first | assumption | refine qset_ne rfl ?_ | refine qset_self (c0 := ?_) ?_ | refine qset_nf (by omega) ?_ | fail) ?_ ?_ | refine wp_zald rfl (by repeat' first | assumption | refine qset_ne rfl ?_ | refine qset_self (c0 := ?_) ?_ | refine qset_nf (by omega) ?_ | fail) ?_ ?_ | refine wp_iast rfl (by repeat' first | assumption | refine qset_ne rfl ?_ | refine qset_self (c0 := ?_) ?_ | refine qset_nf (by omega) ?_ | fail) ?_ ?_ | refine wp_last rfl (by repeat' first | assumption | refine qset_ne rfl ?_ | refine qset_self (c0 := ?_) ?_ | refine qset_nf (by omega) ?_ | fail) ?_ ?_ | refine wp_alen rfl (by repeat' first | assumption | refine qset_ne rfl ?_ | refine qset_self (c0 := ?_) ?_ | refine qset_nf (by omega) ?_ | fail) rfl ?_ | refine wp_zast rfl (by repeat' first | assumption | refine qset_ne rfl ?_ | refine qset_self (c0 := ?_) ?_ | refine qset_nf (by omega) ?_ | fail) ?_ ?_ | refine wp_b rfl rfl (fun hc => absurd hc (by decide +kernel)) (fun _ => ?_) | refine wp_b rfl rfl (fun _ => ?_) (fun hc => absurd hc (by decide +kernel)) | refine wp_b rfl rfl (fun hc => ?_) (fun hc => ?_) | refine wp_v rfl rfl ?_ | refine ret_t ?_ | refine ret_f ?_ | fail
end SC
