theorem lN_eq0 {a : Nat} (ha : a < 2 ^ 63) : lN a = 0 ↔ a = 0 := lN_eqN ha (by decide)
/-! Class Machine: what stands while a function is looked at; which references live. -/
def MchAt (h : qH) (c : Nat) (a b : Int32) : Prop := h[13]? = some (.inr (4, [.ref 1, .ref 14, .ref 18, .ref 20, .ref c, .int a, .int b])) ∧ ∃ g : Nat → Int64, h[20]? = some (.inl (1, 8, .inr (.inl g)))
def MS (h : qH) (sa fa : Nat → Nat) (E : QE) (c : Nat) (F : QF) (a b : Int32) (M : QM) : Prop :=
  LdAt h sa fa E ∧ CdAt h c F ∧ 49 ≤ c ∧ MchAt h c a b ∧ (∃ tt tm, StkAt h M.1 tt tm) ∧ LocAt h E F M.2
theorem MchAt.fx {lo hi c : Nat} {h h' : qH} {a b : Int32} (H : MchAt h c a b) (x : qfx lo hi h h') (hp : 20 < lo ∨ (13 < lo ∧ hi < 20)) : MchAt h' c a b := by
  obtain ⟨h1, g, h2⟩ := H
  exact ⟨x.at (by omega) h1, g, x.at (by omega) h2⟩
theorem MS.stk {h h' : qH} {sa fa : Nat → Nat} {E : QE} {c : Nat} {F : QF} {a b : Int32} {M : QM} (H : MS h sa fa E c F a b M) (x : qfx 14 17 h h') {l : List QV} {tt tm : Int64} (s : StkAt h' l tt tm) : MS h' sa fa E c F a b (l, M.2) := by
  obtain ⟨h1, h2, h3, h4, h5, h6⟩ := H
  exact ⟨h1.fx x (by omega) (by omega), h2.fx x (by omega), h3, h4.fx x (by omega), ⟨tt, tm, s⟩, h6.fx x (by omega)⟩
theorem MS.loc {h h' : qH} {sa fa : Nat → Nat} {E : QE} {c : Nat} {F : QF} {a b : Int32} {M : QM} (H : MS h sa fa E c F a b M) (x : qfx 18 19 h h') {loc : Nat → Option Int64} (s : LocAt h' E F loc) : MS h' sa fa E c F a b (M.1, loc) := by
  obtain ⟨h1, h2, h3, h4, ⟨tt, tm, h5⟩, h6⟩ := H
  exact ⟨h1.fx x (by omega) (by omega), h2.fx x (by omega), h3, h4.fx x (by omega), ⟨tt, tm, h5.fx x (by omega)⟩, s⟩
def liveF (w : Nat) (F : QF) (M : QM) : Int64 := (qjn w M.1 ||| qjl w F M.2 (fLocs F).length) &&& lOrg
theorem lb_qjn (w k : Nat) : ∀ l : List QV, lb (qjn w l) k = l.any fun v => qwh w v.1 v.2 && lb v.2 k
  | [] => lb_zero k
  | v :: r => by
    simp only [qjn, List.any_cons]
    cases hq : qwh w v.1 v.2 with
    | true => rw [if_pos rfl, lb_or, lb_qjn w k r]; simp [Bool.or_comm]
    | false => rw [if_neg (by simp), lb_qjn w k r]; simp
theorem lb_qjl (w k : Nat) (F : QF) (loc : Nat → Option Int64) : ∀ n, lb (qjl w F loc n) k = (List.range n).any fun j => qwh w (fTy F j) ((loc j).getD 0) && lb ((loc j).getD 0) k
  | 0 => lb_zero k
  | n + 1 => by
    rw [List.range_succ, List.any_append]
    simp only [qjl, List.any_cons, List.any_nil, Bool.or_false]
    cases hq : qwh w (fTy F n) ((loc n).getD 0) with
    | true => rw [if_pos rfl, lb_or, lb_qjl w k F loc n]; simp
    | false => rw [if_neg (by simp), lb_qjl w k F loc n]; simp
theorem lb_org {x m : Int64} : (x &&& m &&& lOrg != 0) = true ↔ ∃ k, k < 63 ∧ lb x k = true ∧ lb m k = true := by
  rw [bne_iff_ne, lb_nz]
  constructor
  · intro ⟨k, hk, h⟩
    rw [lb_and, lb_and, lb_lOrg hk] at h
    simp only [Bool.and_eq_true, decide_eq_true_eq] at h
    exact ⟨k, h.2, h.1.1, h.1.2⟩
  · intro ⟨k, hk, h1, h2⟩
    exact ⟨k, by omega, by rw [lb_and, lb_and, lb_lOrg (by omega), h1, h2]; simp [hk]⟩
theorem live_nz (w : Nat) (F : QF) (M : QM) (m : Int64) : (liveF w F M &&& m != 0) = true ↔ (∃ v, v ∈ M.1 ∧ qwh w v.1 v.2 = true ∧ (v.2 &&& m &&& lOrg != 0) = true) ∨ ∃ j z, j < (fLocs F).length ∧ M.2 j = some z ∧ qwh w (fTy F j) z = true ∧ (z &&& m &&& lOrg != 0) = true := by
  have e : liveF w F M &&& m = (qjn w M.1 ||| qjl w F M.2 (fLocs F).length) &&& m &&& lOrg := by
    unfold liveF
    apply lb_ext
    intro k hk
    simp only [lb_and]
    cases lb (qjn w M.1 ||| qjl w F M.2 (fLocs F).length) k <;> cases lb lOrg k <;> cases lb m k <;> rfl
  rw [e, lb_org]
  constructor
  · intro ⟨k, hk, h1, h2⟩
    rw [lb_or, lb_qjn, lb_qjl, Bool.or_eq_true, List.any_eq_true, List.any_eq_true] at h1
    rcases h1 with ⟨v, hv, h3⟩ | ⟨j, hj, h3⟩
    · rw [Bool.and_eq_true] at h3
      exact Or.inl ⟨v, hv, h3.1, lb_org.mpr ⟨k, hk, h3.2, h2⟩⟩
    · rw [Bool.and_eq_true] at h3
      cases hz : M.2 j with
      | none =>
        rw [hz] at h3
        have : lb (0 : Int64) k = true := h3.2
        rw [lb_zero] at this
        cases this
      | some z =>
        rw [hz] at h3
        exact Or.inr ⟨j, z, List.mem_range.mp hj, hz, h3.1, lb_org.mpr ⟨k, hk, h3.2, h2⟩⟩
  · rintro (⟨v, hv, h1, h2⟩ | ⟨j, z, hj, hz, h1, h2⟩)
    · obtain ⟨k, hk, a, b⟩ := lb_org.mp h2
      refine ⟨k, hk, ?_, b⟩
      rw [lb_or, lb_qjn, lb_qjl, Bool.or_eq_true, List.any_eq_true, List.any_eq_true]
      exact Or.inl ⟨v, hv, by rw [h1, a]; rfl⟩
    · obtain ⟨k, hk, a, b⟩ := lb_org.mp h2
      refine ⟨k, hk, ?_, b⟩
      rw [lb_or, lb_qjn, lb_qjl, Bool.or_eq_true, List.any_eq_true, List.any_eq_true]
      refine Or.inr ⟨j, List.mem_range.mpr hj, ?_⟩
      rw [hz]
      show (qwh w (fTy F j) z && lb z k) = true
      rw [h1, a]
      rfl
theorem any_iff {F : QF} {M : QM} {w : Bool} {m : Int64} : mAny F M w m = true ↔ (∃ v, v ∈ M.1 ∧ (!w || twr v.1) = true ∧ (v.2 &&& m &&& lOrg != 0) = true) ∨ ∃ j z, j < (fLocs F).length ∧ M.2 j = some z ∧ (!w || twr (fTy F j)) = true ∧ (z &&& m &&& lOrg != 0) = true := by
  unfold mAny
  rw [Bool.or_eq_true, List.any_eq_true, List.any_eq_true]
  constructor
  · rintro (⟨v, hv, h1⟩ | ⟨j, hj, h1⟩)
    · rw [Bool.and_eq_true] at h1
      exact Or.inl ⟨v, hv, h1.1, h1.2⟩
    · cases hz : M.2 j with
      | none => rw [hz] at h1; cases h1
      | some z =>
        rw [hz] at h1
        simp only [Bool.and_eq_true] at h1
        exact Or.inr ⟨j, z, List.mem_range.mp hj, hz, h1.1, h1.2⟩
  · rintro (⟨v, hv, h1, h2⟩ | ⟨j, z, hj, hz, h1, h2⟩)
    · exact Or.inl ⟨v, hv, by rw [h1, h2]; rfl⟩
    · refine Or.inr ⟨j, List.mem_range.mpr hj, ?_⟩
      rw [hz]
      show ((!w || twr (fTy F j)) && (z &&& m &&& lOrg != 0)) = true
      rw [h1, h2]
      rfl
theorem live_any0 (F : QF) (M : QM) (m : Int64) : (liveF 0 F M &&& m != 0) = mAny F M false m := by
  rw [Bool.eq_iff_iff, live_nz, any_iff]
  simp [qwh]
theorem live_any1 (F : QF) (M : QM) (m : Int64) : (liveF 1 F M &&& m != 0) = mAny F M true m := by
  rw [Bool.eq_iff_iff, live_nz, any_iff]
  simp [qwh]
theorem live_sole (F : QF) (M : QM) (m : Int64) : (liveF 2 F M &&& m != 0) = !mSole F M m := by
  have key : mSole F M m = false ↔ (∃ v, v ∈ M.1 ∧ qwh 2 v.1 v.2 = true ∧ (v.2 &&& m &&& lOrg != 0) = true) ∨ ∃ j z, j < (fLocs F).length ∧ M.2 j = some z ∧ qwh 2 (fTy F j) z = true ∧ (z &&& m &&& lOrg != 0) = true := by
    have hq : ∀ t z, qwh 2 t z = !(twr t && !lb z 63) := by intro t z; unfold qwh; cases twr t <;> cases lb z 63 <;> rfl
    have hb : ∀ x : Int64, (x == 0) = !(x != 0) := by intro x; simp [bne]
    unfold mSole
    rw [Bool.and_eq_false_iff, List.all_eq_false, List.all_eq_false]
    constructor
    · rintro (⟨v, hv, h1⟩ | ⟨j, hj, h1⟩)
      · rw [Bool.not_eq_true, Bool.or_eq_false_iff, hb] at h1
        exact Or.inl ⟨v, hv, by rw [hq, h1.2]; rfl, by simpa using h1.1⟩
      · cases hz : M.2 j with
        | none => rw [hz] at h1; exact absurd rfl h1
        | some z =>
          rw [hz] at h1
          simp only [Bool.not_eq_true, Bool.or_eq_false_iff, hb] at h1
          exact Or.inr ⟨j, z, List.mem_range.mp hj, hz, by rw [hq, h1.2]; rfl, by simpa using h1.1⟩
    · rintro (⟨v, hv, h1, h2⟩ | ⟨j, z, hj, hz, h1, h2⟩)
      · refine Or.inl ⟨v, hv, ?_⟩
        rw [hq] at h1
        rw [Bool.not_eq_true, Bool.or_eq_false_iff, hb, h2]
        exact ⟨rfl, by simpa only [Bool.not_eq_true'] using h1⟩
      · refine Or.inr ⟨j, List.mem_range.mpr hj, ?_⟩
        rw [hz]
        rw [hq] at h1
        show ¬ ((z &&& m &&& lOrg == 0) || (twr (fTy F j) && !lb z 63)) = true
        rw [Bool.not_eq_true, Bool.or_eq_false_iff, hb, h2]
        exact ⟨rfl, by simpa only [Bool.not_eq_true'] using h1⟩
  rw [Bool.eq_iff_iff, live_nz, Bool.not_eq_true', key]
section M1
variable (sc : Nat × (Nat → Int32)) (h : qH) {sa fa : Nat → Nat} {E : QE} {c : Nat} {F : QF} {a b : Int32} {M : QM}
theorem c_Machine_live (H : MS h sa fa E c F a b M) (w : Nat) (hw : w < 3) : wp sc (m_Machine_live, 0, qargs 0 [.ref 13, .int (nI w)], [], h) (rL (pL (liveF w F M) h)) := by
  obtain ⟨h1, h2, h3, ⟨h4, g, h40⟩, ⟨tt, tm, h5⟩, h6⟩ := H
  have h50 := h5
  have h60 := h6
  obtain ⟨ty, wr, mk, i1, i2, i3, i4, i5, i6⟩ := h5
  obtain ⟨mk2, th, dr, rf, wt, k1, k2, k3⟩ := h6
  repeat' first | refine wp_Vlp rfl rfl (by repeat' first | assumption | refine qset_ne rfl ?_ | refine qset_self (c0 := ?_) ?_ | refine qset_nf (by omega) ?_ | fail) rfl (c_Stack_joined sc h w hw h50) ?_ | refine wp_Vlp rfl rfl (by repeat' first | assumption | refine qset_ne rfl ?_ | refine qset_self (c0 := ?_) ?_ | refine qset_nf (by omega) ?_ | fail) rfl (c_Locals_joined sc h w hw h60) ?_ | refine wp_ist rfl rfl rfl rfl ?_ | refine wp_lst rfl rfl rfl rfl ?_ | refine wp_iinc rfl rfl rfl rfl ?_ | refine wp_f rfl rfl rfl ?_ | refine wp_getf rfl (by repeat' first | assumption | refine qset_ne rfl ?_ | refine qset_self (c0 := ?_) ?_ | refine qset_nf (by omega) ?_ | fail) rfl ?_ | refine wp_ast rfl rfl rfl rfl ?_ | refine wp_asN rfl rfl rfl rfl ?_ | refine wp_putf rfl (by repeat' first | assumption | refine qset_ne rfl ?_ | refine qset_self (c0 := ?_) ?_ | refine qset_nf (by omega) ?_ | fail) (by exact Nat.le_of_ble_eq_true rfl) rfl ?_ | refine wp_iald rfl (by repeat' first | assumption | refine qset_ne rfl ?_ | refine qset_self (c0 := ?_) ?_ | refine qset_nf (by omega) ?_ | fail) ?_ ?_ | refine wp_lald rfl (by repeat' first | assumption | refine qset_ne rfl ?_ | refine qset_self (c0 := ?_) ?_ | refine qset_nf (by omega) ?_ | fail) ?_ ?_ | refine wp_zald rfl (by repeat' first | assumption | refine qset_ne rfl ?_ | refine qset_self (c0 := ?_) ?_ | refine qset_nf (by omega) ?_ | fail) ?_ ?_ | refine wp_iast rfl (by repeat' first | assumption | refine qset_ne rfl ?_ | refine qset_self (c0 := ?_) ?_ | refine qset_nf (by omega) ?_ | fail) ?_ ?_ | refine wp_last rfl (by repeat' first | assumption | refine qset_ne rfl ?_ | refine qset_self (c0 := ?_) ?_ | refine qset_nf (by omega) ?_ | fail) ?_ ?_ | refine wp_alen rfl (by repeat' first | assumption | refine qset_ne rfl ?_ | refine qset_self (c0 := ?_) ?_ | refine qset_nf (by omega) ?_ | fail) rfl ?_ | refine wp_zast rfl (by repeat' first | assumption | refine qset_ne rfl ?_ | refine qset_self (c0 := ?_) ?_ | refine qset_nf (by omega) ?_ | fail) ?_ ?_ | refine wp_b rfl rfl (fun hc => absurd hc (by decide +kernel)) (fun _ => ?_) | refine wp_b rfl rfl (fun _ => ?_) (fun hc => absurd hc (by decide +kernel)) | refine wp_b rfl rfl (fun hc => ?_) (fun hc => ?_) | refine wp_v rfl rfl ?_ | refine ret_t ?_ | refine ret_f ?_ | fail
  exact ⟨rfl, rfl⟩
theorem c_Machine_isLive (H : MS h sa fa E c F a b M) (w : Nat) (hw : w < 3) (m : Int64) : wp sc (m_Machine_isLive, 0, qargs 0 [.ref 13, .int (nI w), .long m], [], h) (rI (pI (bI (liveF w F M &&& m != 0)) h)) := by
  have h4 := H.2.2.2.1.1
  repeat' first | refine wp_Vlp rfl rfl (by repeat' first | assumption | refine qset_ne rfl ?_ | refine qset_self (c0 := ?_) ?_ | refine qset_nf (by omega) ?_ | fail) rfl (c_Machine_live sc h H w hw) ?_ | refine wp_ist rfl rfl rfl rfl ?_ | refine wp_lst rfl rfl rfl rfl ?_ | refine wp_iinc rfl rfl rfl rfl ?_ | refine wp_f rfl rfl rfl ?_ | refine wp_getf rfl (by repeat' first | assumption | refine qset_ne rfl ?_ | refine qset_self (c0 := ?_) ?_ | refine qset_nf (by omega) ?_ | fail) rfl ?_ | refine wp_ast rfl rfl rfl rfl ?_ | refine wp_asN rfl rfl rfl rfl ?_ | refine wp_putf rfl (by repeat' first | assumption | refine qset_ne rfl ?_ | refine qset_self (c0 := ?_) ?_ | refine qset_nf (by omega) ?_ | fail) (by exact Nat.le_of_ble_eq_true rfl) rfl ?_ | refine wp_iald rfl (by repeat' first | assumption | refine qset_ne rfl ?_ | refine qset_self (c0 := ?_) ?_ | refine qset_nf (by omega) ?_ | fail) ?_ ?_ | refine wp_lald rfl (by repeat' first | assumption | refine qset_ne rfl ?_ | refine qset_self (c0 := ?_) ?_ | refine qset_nf (by omega) ?_ | fail) ?_ ?_ | refine wp_zald rfl (by repeat' first | assumption | refine qset_ne rfl ?_ | refine qset_self (c0 := ?_) ?_ | refine qset_nf (by omega) ?_ | fail) ?_ ?_ | refine wp_iast rfl (by repeat' first | assumption | refine qset_ne rfl ?_ | refine qset_self (c0 := ?_) ?_ | refine qset_nf (by omega) ?_ | fail) ?_ ?_ | refine wp_last rfl (by repeat' first | assumption | refine qset_ne rfl ?_ | refine qset_self (c0 := ?_) ?_ | refine qset_nf (by omega) ?_ | fail) ?_ ?_ | refine wp_alen rfl (by repeat' first | assumption | refine qset_ne rfl ?_ | refine qset_self (c0 := ?_) ?_ | refine qset_nf (by omega) ?_ | fail) rfl ?_ | refine wp_zast rfl (by repeat' first | assumption | refine qset_ne rfl ?_ | refine qset_self (c0 := ?_) ?_ | refine qset_nf (by omega) ?_ | fail) ?_ ?_ | refine wp_b rfl rfl (fun hc => absurd hc (by decide +kernel)) (fun _ => ?_) | refine wp_b rfl rfl (fun _ => ?_) (fun hc => absurd hc (by decide +kernel)) | refine wp_b rfl rfl (fun hc => ?_) (fun hc => ?_) | refine wp_v rfl rfl ?_ | refine ret_t ?_ | refine ret_f ?_ | fail
  · rw [lg_eq, decide_eq_true_eq] at hc
    simp [hc]
  · rw [lg_eq, decide_eq_false_iff_not] at hc
    simpa using hc
theorem c_Machine_needsSole (H : MS h sa fa E c F a b M) (m : Int64) : wp sc (m_Machine_needsSole, 0, qargs 0 [.ref 13, .long m], [], h) (rI (pI (nI (if mSole F M m then 0 else 6)) h)) := by
  have h4 := H.2.2.2.1.1
  have e := live_sole F M m
  repeat' first | refine wp_Vlp rfl rfl (by repeat' first | assumption | refine qset_ne rfl ?_ | refine qset_self (c0 := ?_) ?_ | refine qset_nf (by omega) ?_ | fail) rfl (c_Machine_live sc h H 2 (by decide)) ?_ | refine wp_ist rfl rfl rfl rfl ?_ | refine wp_lst rfl rfl rfl rfl ?_ | refine wp_iinc rfl rfl rfl rfl ?_ | refine wp_f rfl rfl rfl ?_ | refine wp_getf rfl (by repeat' first | assumption | refine qset_ne rfl ?_ | refine qset_self (c0 := ?_) ?_ | refine qset_nf (by omega) ?_ | fail) rfl ?_ | refine wp_ast rfl rfl rfl rfl ?_ | refine wp_asN rfl rfl rfl rfl ?_ | refine wp_putf rfl (by repeat' first | assumption | refine qset_ne rfl ?_ | refine qset_self (c0 := ?_) ?_ | refine qset_nf (by omega) ?_ | fail) (by exact Nat.le_of_ble_eq_true rfl) rfl ?_ | refine wp_iald rfl (by repeat' first | assumption | refine qset_ne rfl ?_ | refine qset_self (c0 := ?_) ?_ | refine qset_nf (by omega) ?_ | fail) ?_ ?_ | refine wp_lald rfl (by repeat' first | assumption | refine qset_ne rfl ?_ | refine qset_self (c0 := ?_) ?_ | refine qset_nf (by omega) ?_ | fail) ?_ ?_ | refine wp_zald rfl (by repeat' first | assumption | refine qset_ne rfl ?_ | refine qset_self (c0 := ?_) ?_ | refine qset_nf (by omega) ?_ | fail) ?_ ?_ | refine wp_iast rfl (by repeat' first | assumption | refine qset_ne rfl ?_ | refine qset_self (c0 := ?_) ?_ | refine qset_nf (by omega) ?_ | fail) ?_ ?_ | refine wp_last rfl (by repeat' first | assumption | refine qset_ne rfl ?_ | refine qset_self (c0 := ?_) ?_ | refine qset_nf (by omega) ?_ | fail) ?_ ?_ | refine wp_alen rfl (by repeat' first | assumption | refine qset_ne rfl ?_ | refine qset_self (c0 := ?_) ?_ | refine qset_nf (by omega) ?_ | fail) rfl ?_ | refine wp_zast rfl (by repeat' first | assumption | refine qset_ne rfl ?_ | refine qset_self (c0 := ?_) ?_ | refine qset_nf (by omega) ?_ | fail) ?_ ?_ | refine wp_b rfl rfl (fun hc => absurd hc (by decide +kernel)) (fun _ => ?_) | refine wp_b rfl rfl (fun _ => ?_) (fun hc => absurd hc (by decide +kernel)) | refine wp_b rfl rfl (fun hc => ?_) (fun hc => ?_) | refine wp_v rfl rfl ?_ | refine ret_t ?_ | refine ret_f ?_ | fail
  · rw [lg_eq, decide_eq_true_eq] at hc
    rw [hc] at e
    rw [if_pos (by simpa using e.symm)]
    exact ⟨rfl, rfl⟩
  · rw [lg_eq, decide_eq_false_iff_not] at hc
    have : (liveF 2 F M &&& m != 0) = true := by simpa using hc
    rw [this] at e
    rw [if_neg (by simpa using e.symm)]
    exact ⟨rfl, rfl⟩
def refW (w : Bool) (t : Nat) (v : QV) : Nat := if !tref v.1 || (t != 0 && tinner v.1 != t) then 3 else if w && !twr v.1 then 7 else 0
theorem tinner_le (n : Nat) : tinner n ≤ n := Nat.mod_le _ _
theorem c_Machine_takeReference0 {l : Nat → Option Int64} (H : MS h sa fa E c F a b ([], l)) (w : Bool) (t : Nat) : wp sc (m_Machine_takeReference, 0, qargs 0 [.ref 13, .int (bI w), .long (lN t)], [], h) (rI (pI (nI 1) h)) := by
  obtain ⟨h1, h2, h3, ⟨h4, g, h40⟩, ⟨tt, tm, h5⟩, h6⟩ := H
  have h50 := h5
  obtain ⟨ty, wr, mk, i1, i2, i3, i4, i5, i6⟩ := h5
  repeat' first | refine wp_Vip rfl rfl (by repeat' first | assumption | refine qset_ne rfl ?_ | refine qset_self (c0 := ?_) ?_ | refine qset_nf (by omega) ?_ | fail) rfl (c_Stack_takeAny0 sc h h50) ?_ | refine wp_ist rfl rfl rfl rfl ?_ | refine wp_lst rfl rfl rfl rfl ?_ | refine wp_iinc rfl rfl rfl rfl ?_ | refine wp_f rfl rfl rfl ?_ | refine wp_getf rfl (by repeat' first | assumption | refine qset_ne rfl ?_ | refine qset_self (c0 := ?_) ?_ | refine qset_nf (by omega) ?_ | fail) rfl ?_ | refine wp_ast rfl rfl rfl rfl ?_ | refine wp_asN rfl rfl rfl rfl ?_ | refine wp_putf rfl (by repeat' first | assumption | refine qset_ne rfl ?_ | refine qset_self (c0 := ?_) ?_ | refine qset_nf (by omega) ?_ | fail) (by exact Nat.le_of_ble_eq_true rfl) rfl ?_ | refine wp_iald rfl (by repeat' first | assumption | refine qset_ne rfl ?_ | refine qset_self (c0 := ?_) ?_ | refine qset_nf (by omega) ?_ | fail) ?_ ?_ | refine wp_lald rfl (by repeat' first | assumption | refine qset_ne rfl ?_ | refine qset_self (c0 := ?_) ?_ | refine qset_nf (by omega) ?_ | fail) ?_ ?_ | refine wp_zald rfl (by repeat' first | assumption | refine qset_ne rfl ?_ | refine qset_self (c0 := ?_) ?_ | refine qset_nf (by omega) ?_ | fail) ?_ ?_ | refine wp_iast rfl (by repeat' first | assumption | refine qset_ne rfl ?_ | refine qset_self (c0 := ?_) ?_ | refine qset_nf (by omega) ?_ | fail) ?_ ?_ | refine wp_last rfl (by repeat' first | assumption | refine qset_ne rfl ?_ | refine qset_self (c0 := ?_) ?_ | refine qset_nf (by omega) ?_ | fail) ?_ ?_ | refine wp_alen rfl (by repeat' first | assumption | refine qset_ne rfl ?_ | refine qset_self (c0 := ?_) ?_ | refine qset_nf (by omega) ?_ | fail) rfl ?_ | refine wp_zast rfl (by repeat' first | assumption | refine qset_ne rfl ?_ | refine qset_self (c0 := ?_) ?_ | refine qset_nf (by omega) ?_ | fail) ?_ ?_ | refine wp_b rfl rfl (fun hc => absurd hc (by decide +kernel)) (fun _ => ?_) | refine wp_b rfl rfl (fun _ => ?_) (fun hc => absurd hc (by decide +kernel)) | refine wp_b rfl rfl (fun hc => ?_) (fun hc => ?_) | refine wp_v rfl rfl ?_ | refine ret_t ?_ | refine ret_f ?_ | fail
  exact ⟨rfl, rfl⟩
theorem c_Machine_takeReference {v : QV} {r : List QV} {l : Nat → Option Int64} (H : MS h sa fa E c F a b (v :: r, l)) (w : Bool) (t : Nat) (ht : t < 2 ^ 63) : wp sc (m_Machine_takeReference, 0, qargs 0 [.ref 13, .int (bI w), .long (lN t)], [], h) (rI fun x h' => x = nI (refW w t v) ∧ StkAt h' r (lN v.1) v.2 ∧ qfx 14 17 h h') := by
  obtain ⟨h1, h2, h3, ⟨h4, g, h40⟩, ⟨tt, tm, h5⟩, h6⟩ := H
  have h50 := h5
  obtain ⟨ty, wr, mk, i1, i2, i3, i4, i5, i6⟩ := h5
  have hv : v.1 < 2 ^ 63 := i6.1.2.2.2
  have hi := tinner_le v.1
  refine wp_n rfl rfl ?_
  refine wp_getf rfl (by repeat' first | assumption | refine qset_ne rfl ?_ | refine qset_self (c0 := ?_) ?_ | refine qset_nf (by omega) ?_ | fail) rfl ?_
  refine wp_Vi rfl rfl (by repeat' first | assumption | refine qset_ne rfl ?_ | refine qset_self (c0 := ?_) ?_ | refine qset_nf (by omega) ?_ | fail) rfl (c_Stack_takeAny sc h h50) ?_
  intro x h2 ⟨e1, H2, x2⟩
  subst e1
  have h4' := x2.at (show 13 < 14 ∨ 17 < 13 by decide) h4
  have H3 := H2
  obtain ⟨ty2, wr2, mk2, j1, j2, j3, j4, j5, j6⟩ := H3
  repeat' first | refine wp_Sip rfl rfl rfl (c_Type_isReference sc h2 v.1 hv) ?_ | refine wp_Slp rfl rfl rfl (c_Type_inner sc h2 v.1 hv) ?_ | refine wp_Sip rfl rfl rfl (c_Type_isWriting sc h2 v.1 hv) ?_ | refine wp_ist rfl rfl rfl rfl ?_ | refine wp_lst rfl rfl rfl rfl ?_ | refine wp_iinc rfl rfl rfl rfl ?_ | refine wp_f rfl rfl rfl ?_ | refine wp_getf rfl (by repeat' first | assumption | refine qset_ne rfl ?_ | refine qset_self (c0 := ?_) ?_ | refine qset_nf (by omega) ?_ | fail) rfl ?_ | refine wp_ast rfl rfl rfl rfl ?_ | refine wp_asN rfl rfl rfl rfl ?_ | refine wp_putf rfl (by repeat' first | assumption | refine qset_ne rfl ?_ | refine qset_self (c0 := ?_) ?_ | refine qset_nf (by omega) ?_ | fail) (by exact Nat.le_of_ble_eq_true rfl) rfl ?_ | refine wp_iald rfl (by repeat' first | assumption | refine qset_ne rfl ?_ | refine qset_self (c0 := ?_) ?_ | refine qset_nf (by omega) ?_ | fail) ?_ ?_ | refine wp_lald rfl (by repeat' first | assumption | refine qset_ne rfl ?_ | refine qset_self (c0 := ?_) ?_ | refine qset_nf (by omega) ?_ | fail) ?_ ?_ | refine wp_zald rfl (by repeat' first | assumption | refine qset_ne rfl ?_ | refine qset_self (c0 := ?_) ?_ | refine qset_nf (by omega) ?_ | fail) ?_ ?_ | refine wp_iast rfl (by repeat' first | assumption | refine qset_ne rfl ?_ | refine qset_self (c0 := ?_) ?_ | refine qset_nf (by omega) ?_ | fail) ?_ ?_ | refine wp_last rfl (by repeat' first | assumption | refine qset_ne rfl ?_ | refine qset_self (c0 := ?_) ?_ | refine qset_nf (by omega) ?_ | fail) ?_ ?_ | refine wp_alen rfl (by repeat' first | assumption | refine qset_ne rfl ?_ | refine qset_self (c0 := ?_) ?_ | refine qset_nf (by omega) ?_ | fail) rfl ?_ | refine wp_zast rfl (by repeat' first | assumption | refine qset_ne rfl ?_ | refine qset_self (c0 := ?_) ?_ | refine qset_nf (by omega) ?_ | fail) ?_ ?_ | refine wp_b rfl rfl (fun hc => absurd hc (by decide +kernel)) (fun _ => ?_) | refine wp_b rfl rfl (fun _ => ?_) (fun hc => absurd hc (by decide +kernel)) | refine wp_b rfl rfl (fun hc => ?_) (fun hc => ?_) | refine wp_v rfl rfl ?_ | refine ret_t ?_ | refine ret_f ?_ | fail
  all_goals (try simp (disch := omega) only [c2_eq, c2_ne, c2_lt, c2_ge, c2_gt, c2_le, c1_eq, c1_ne, c1_lt, c1_le, c1_gt, c1_ge, lg_le, lg_lt, lg_ge, lg_gt, lg_eq, lg_ne, bI_eq, bI_ne, qlc_0, qlc_2, qlc_3, qlc_4, qlc_5, qlc_7, qlc_8, qlc_9, qlc_10, qlc_11, qlc_12, qlc_14, lN_eq0, lN_leN, lN_ltN, lN_eqN, decide_eq_true_eq, decide_eq_false_iff_not, Bool.not_eq_true', Bool.not_eq_false'] at *)
  all_goals refine ⟨?_, H2, x2⟩
  all_goals clear H2 x2 j1 j2 j3 j4 j5 j6 h4' i1 i2 i3 i4 i5 i6 h50 h1 h2 h6
  all_goals congr 1
  all_goals simp [refW, *]
end M1
