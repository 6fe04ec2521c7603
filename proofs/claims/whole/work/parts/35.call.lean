/-! Class Machine: calls. -/
def mArgs : QM → List Nat → List Int64 → Nat × List Int64 × QM
  | M, [], acc => (0, acc, M)
  | M, t :: ts, acc => match M.1 with
    | [] => (1, acc, M)
    | v :: r => if v.1 = t then mArgs (r, M.2) ts (v.2 :: acc) else (3, acc, (r, M.2))
theorem mArgs_nil {M : QM} {t : Nat} {ts : List Nat} {acc : List Int64} (hM : M.1 = []) : mArgs M (t :: ts) acc = (1, acc, M) := by
  obtain ⟨s, l⟩ := M
  cases hM
  rfl
theorem mArgs_cons {M : QM} {t : Nat} {ts : List Nat} {acc : List Int64} {v : QV} {r : List QV} (hM : M.1 = v :: r) : mArgs M (t :: ts) acc = if v.1 = t then mArgs (r, M.2) ts (v.2 :: acc) else (3, acc, (r, M.2)) := by
  obtain ⟨s, l⟩ := M
  cases hM
  rfl
theorem mArgs_eq (f : List Int64 → QM → QR) : ∀ (ts : List Nat) (M : QM) (acc : List Int64), mTakeArgs M f ts acc = if (mArgs M ts acc).1 = 0 then f (mArgs M ts acc).2.1 (mArgs M ts acc).2.2 else ((mArgs M ts acc).1, (mArgs M ts acc).2.2)
  | [], M, acc => rfl
  | t :: ts, M, acc => by
    show mTake M t (fun v M => mTakeArgs M f ts (v.2 :: acc)) = _
    cases hM : M.1 with
    | nil =>
      rw [mTake_nil hM, mArgs_nil hM]
      rfl
    | cons v r =>
      rw [mTake_cons hM, mArgs_cons hM]
      by_cases hw : v.1 = t
      · simp only [if_pos hw]
        exact mArgs_eq f ts (r, M.2) (v.2 :: acc)
      · simp only [if_neg hw]
        rfl
theorem mArgs_lt : ∀ (ts : List Nat) (M : QM) (acc : List Int64), (mArgs M ts acc).1 < 8
  | [], M, acc => (by decide : 0 < 8)
  | t :: ts, M, acc => by
    cases hM : M.1 with
    | nil => rw [mArgs_nil hM]; exact (by decide : 1 < 8)
    | cons v r =>
      rw [mArgs_cons hM]
      by_cases hw : v.1 = t
      · rw [if_pos hw]; exact mArgs_lt ts _ _
      · rw [if_neg hw]; exact (by decide : 3 < 8)
theorem mArgs_len : ∀ (ts : List Nat) (M : QM) (acc : List Int64), (mArgs M ts acc).1 = 0 → (mArgs M ts acc).2.1.length = ts.length + acc.length
  | [], M, acc, _ => (Nat.zero_add _).symm
  | t :: ts, M, acc, h => by
    cases hM : M.1 with
    | nil => rw [mArgs_nil hM] at h; cases h
    | cons v r =>
      rw [mArgs_cons hM] at h ⊢
      by_cases hw : v.1 = t
      · rw [if_pos hw] at h ⊢
        rw [mArgs_len ts _ _ h, List.length_cons, List.length_cons]
        omega
      · rw [if_neg hw] at h
        cases h
theorem LdAt.cd {h : qH} {sa fa : Nat → Nat} {E : QE} (H : LdAt h sa fa E) {k : Nat} (hk : k < E.2.2.length) : CdAt h (fa k) (eFun E k) ∧ 49 ≤ fa k := by
  obtain ⟨g1, g2, a1, a2, a3, a4, a5, a6, a7, a8⟩ := H
  have e : eFun E k = E.2.2[k] := by unfold eFun; rw [List.getElem?_eq_getElem hk]; rfl
  rw [e]
  exact (a8 k _ (List.getElem?_eq_getElem hk)).2
theorem E_len2 {h : qH} {sa fa : Nat → Nat} {E : QE} (H : LdAt h sa fa E) : E.2.2.length ≤ 64 := by
  obtain ⟨g1, g2, a1, a2, a3, a4, a5, a6, a7, a8⟩ := H
  exact a6
theorem CdAt.lens {h : qH} {a : Nat} {F : QF} (H : CdAt h a F) : (fTakes F).length ≤ 8 ∧ (fGives F).length ≤ 8 ∧ (fMore F).length ≤ 32 := by
  obtain ⟨f1, f2, f3, b1, ⟨_, _, _, z1, _⟩, ⟨_, _, _, z2, _⟩, ⟨_, _, _, z3, _⟩, b4⟩ := H
  exact ⟨z1, z2, z3⟩
theorem MS.am {h h' : qH} {sa fa : Nat → Nat} {E : QE} {c : Nat} {F : QF} {a b : Int32} {M : QM} (H : MS h sa fa E c F a b M) (x : qfx 20 20 h h') {g : Nat → Int64} (hg : h'[20]? = some (.inl (1, 8, .inr (.inl g)))) : MS h' sa fa E c F a b M := by
  obtain ⟨h1, h2, h3, ⟨h4, g0, h40⟩, ⟨tt, tm, h5⟩, h6⟩ := H
  exact ⟨h1.fx x (by omega) (by omega), h2.fx x (by omega), h3, ⟨x.at (by omega) h4, g, hg⟩, ⟨tt, tm, h5.fx x (by omega)⟩, h6.fx x (by omega)⟩
theorem OP.tr {h0 h : qH} {sa fa : Nat → Nat} {E : QE} {c : Nat} {F : QF} {a b : Int32} {R : QR} {x : Int32} {h' : qH} (x0 : qfx 13 20 h0 h) (P : OP h sa fa E c F a b R x h') : OP h0 sa fa E c F a b R x h' := by
  obtain ⟨e, M', H, x1, q⟩ := P
  exact ⟨e, M', H, x0.tr x1, q⟩
/-- taking a value, the arguments' marks staying -/
theorem W_takeA {sc : Nat × (Nat → Int32)} {Q : Option Value → qH → Prop} {k pc nx t2 idx n : Nat} {ls : qL} {rest : List Value} {h : qH} {sa fa : Nat → Nat} {E : QE} {c : Nat} {F : QF} {a b : Int32} {M : QM}
    (H : MS h sa fa E c F a b M) (hi : qins k pc = some (.invokevirtual idx, nx, m_Stack_take, t2)) (hr : Nat.ble (qcats rest) 8 = true) (hn : n < 2 ^ 63)
    (h0 : M.1 = [] → wp sc (k, nx, ls, .int (nI 1) :: rest, h) Q)
    (h1 : ∀ v r h', M.1 = v :: r → MS h' sa fa E c F a b (r, M.2) → StkAt h' r (lN v.1) v.2 → qfx 14 17 h h' → v.1 < 2 ^ 63 → wp sc (k, nx, ls, .int (nI (if v.1 = n then 0 else 3)) :: rest, h') Q) : wp sc (k, pc, ls, .long (lN n) :: .ref 14 :: rest, h) Q := by
  obtain ⟨tt, tm, th, dr, rf, wt, q1, q2, e13, e14, e18, e1, ec, S⟩ := MS.f H
  cases hM : M.1 with
  | nil =>
    rw [hM] at S
    exact wp_Vip hi rfl e14 (by show (true && Nat.ble (qcats rest) 8) = true; rw [hr]; rfl) (c_Stack_take0 sc h S n) (h0 hM)
  | cons v r =>
    rw [hM] at S
    have hv : v.1 < 2 ^ 63 := by obtain ⟨_, _, _, _, _, _, _, _, z⟩ := S; exact z.1.2.2.2
    refine wp_Vi hi rfl e14 (by show (true && Nat.ble (qcats rest) 8) = true; rw [hr]; rfl) (c_Stack_take sc h S n hn) fun x h' ⟨p1, p2, p3⟩ => ?_
    subst p1
    exact h1 v r h' hM (H.stk p3 p2) p2 p3 hv
section P2
variable (sc : Nat × (Nat → Int32)) (h : qH) {sa fa : Nat → Nat} {E : QE} {c : Nat} {F : QF} {a b : Int32} {M : QM}
theorem l_takeArguments {g : Nat} (hg : g < E.2.2.length) (hT : ∀ j, (fTakes (eFun E g)).getD j 0 < 2 ^ 63) : ∀ n, n ≤ (fTakes (eFun E g)).length → ∀ (h1 : qH) (M : QM) (A : Nat → Int64) (acc : List Int64), MS h1 sa fa E c F a b M → h1[20]? = some (.inl (1, 8, .inr (.inl A))) →
    (∀ k, n ≤ k → k < (fTakes (eFun E g)).length → A k = acc.getD (k - n) 0) → qfx 13 20 h h1 →
    wp sc (m_Machine_takeArguments, 12, [(3, .int (nI n + Int32.ofInt (-1))), (2, .int (nI 0)), (1, .ref (fa g)), (0, .ref 13)], [], h1) (rI fun x h' => x = nI (mArgs M ((fTakes (eFun E g)).take n).reverse acc).1 ∧ ∃ M' A', MS h' sa fa E c F a b M' ∧ h'[20]? = some (.inl (1, 8, .inr (.inl A'))) ∧ qfx 13 20 h h' ∧
      ((mArgs M ((fTakes (eFun E g)).take n).reverse acc).1 = 0 → M' = (mArgs M ((fTakes (eFun E g)).take n).reverse acc).2.2 ∧ ∀ k, k < (fTakes (eFun E g)).length → A' k = (mArgs M ((fTakes (eFun E g)).take n).reverse acc).2.1.getD k 0)) := by
  intro n
  induction n with
  | zero =>
    intro hn h1 M A acc H hA hm x1
    repeat' first | refine wp_ist rfl rfl rfl rfl ?_ | refine wp_lst rfl rfl rfl rfl ?_ | refine wp_iinc rfl rfl rfl rfl ?_ | refine wp_f rfl rfl rfl ?_ | refine wp_getf rfl (by repeat' first | assumption | refine qset_ne rfl ?_ | refine qset_self (c0 := ?_) ?_ | refine qset_nf (by omega) ?_ | fail) rfl ?_ | refine wp_ast rfl rfl rfl rfl ?_ | refine wp_asN rfl rfl rfl rfl ?_ | refine wp_putf rfl (by repeat' first | assumption | refine qset_ne rfl ?_ | refine qset_self (c0 := ?_) ?_ | refine qset_nf (by omega) ?_ | fail) (by exact Nat.le_of_ble_eq_true rfl) rfl ?_ | refine wp_iald rfl (by repeat' first | assumption | refine qset_ne rfl ?_ | refine qset_self (c0 := ?_) ?_ | refine qset_nf (by omega) ?_ | fail) ?_ ?_ | refine wp_lald rfl (by repeat' first | assumption | refine qset_ne rfl ?_ | refine qset_self (c0 := ?_) ?_ | refine qset_nf (by omega) ?_ | fail) ?_ ?_ | refine wp_zald rfl (by repeat' first | assumption | refine qset_ne rfl ?_ | refine qset_self (c0 := ?_) ?_ | refine qset_nf (by omega) ?_ | fail) ?_ ?_ | refine wp_iast rfl (by repeat' first | assumption | refine qset_ne rfl ?_ | refine qset_self (c0 := ?_) ?_ | refine qset_nf (by omega) ?_ | fail) ?_ ?_ | refine wp_last rfl (by repeat' first | assumption | refine qset_ne rfl ?_ | refine qset_self (c0 := ?_) ?_ | refine qset_nf (by omega) ?_ | fail) ?_ ?_ | refine wp_alen rfl (by repeat' first | assumption | refine qset_ne rfl ?_ | refine qset_self (c0 := ?_) ?_ | refine qset_nf (by omega) ?_ | fail) rfl ?_ | refine wp_zast rfl (by repeat' first | assumption | refine qset_ne rfl ?_ | refine qset_self (c0 := ?_) ?_ | refine qset_nf (by omega) ?_ | fail) ?_ ?_ | refine wp_b rfl rfl (fun hc => absurd hc (by decide +kernel)) (fun _ => ?_) | refine wp_b rfl rfl (fun _ => ?_) (fun hc => absurd hc (by decide +kernel)) | refine wp_b rfl rfl (fun hc => ?_) (fun hc => ?_) | refine wp_v rfl rfl ?_ | refine ret_t ?_ | refine ret_f ?_ | fail
    exact ⟨rfl, M, A, H, hA, x1, fun _ => ⟨rfl, fun k hk => hm k (Nat.zero_le _) hk⟩⟩
  | succ n ih =>
    intro hn h1 M A acc H hA hm x1
    have ht := hT n
    have hl := (H.1.cd hg).1.lens
    obtain ⟨f1, f2, f3, b1, b2, b3⟩ := (H.1.cd hg).1
    have b20 := b2
    obtain ⟨u, u1, u2, u3⟩ := b2
    rw [nI_dec, take_rev (by omega)]
    obtain ⟨tt, tm, th, dr, rf, wt, q1, q2, e13, e14, e18, e1, ec, S⟩ := MS.f H
    refine wp_n rfl rfl ?_
    refine wp_b rfl rfl (fun hc => ?_) (fun hc => ?_)
    · rw [c1_lt n (by omega)] at hc
      cases hc
    · repeat' first | refine wp_Vlp rfl rfl (by repeat' first | assumption | refine qset_ne rfl ?_ | refine qset_self (c0 := ?_) ?_ | refine qset_nf (by omega) ?_ | fail) rfl (c_TypeList_get sc h1 _ 8 _ b20 n (by omega)) ?_ | refine wp_ist rfl rfl rfl rfl ?_ | refine wp_lst rfl rfl rfl rfl ?_ | refine wp_iinc rfl rfl rfl rfl ?_ | refine wp_f rfl rfl rfl ?_ | refine wp_getf rfl (by repeat' first | assumption | refine qset_ne rfl ?_ | refine qset_self (c0 := ?_) ?_ | refine qset_nf (by omega) ?_ | fail) rfl ?_ | refine wp_ast rfl rfl rfl rfl ?_ | refine wp_asN rfl rfl rfl rfl ?_ | refine wp_putf rfl (by repeat' first | assumption | refine qset_ne rfl ?_ | refine qset_self (c0 := ?_) ?_ | refine qset_nf (by omega) ?_ | fail) (by exact Nat.le_of_ble_eq_true rfl) rfl ?_ | refine wp_iald rfl (by repeat' first | assumption | refine qset_ne rfl ?_ | refine qset_self (c0 := ?_) ?_ | refine qset_nf (by omega) ?_ | fail) ?_ ?_ | refine wp_lald rfl (by repeat' first | assumption | refine qset_ne rfl ?_ | refine qset_self (c0 := ?_) ?_ | refine qset_nf (by omega) ?_ | fail) ?_ ?_ | refine wp_zald rfl (by repeat' first | assumption | refine qset_ne rfl ?_ | refine qset_self (c0 := ?_) ?_ | refine qset_nf (by omega) ?_ | fail) ?_ ?_ | refine wp_iast rfl (by repeat' first | assumption | refine qset_ne rfl ?_ | refine qset_self (c0 := ?_) ?_ | refine qset_nf (by omega) ?_ | fail) ?_ ?_ | refine wp_last rfl (by repeat' first | assumption | refine qset_ne rfl ?_ | refine qset_self (c0 := ?_) ?_ | refine qset_nf (by omega) ?_ | fail) ?_ ?_ | refine wp_alen rfl (by repeat' first | assumption | refine qset_ne rfl ?_ | refine qset_self (c0 := ?_) ?_ | refine qset_nf (by omega) ?_ | fail) rfl ?_ | refine wp_zast rfl (by repeat' first | assumption | refine qset_ne rfl ?_ | refine qset_self (c0 := ?_) ?_ | refine qset_nf (by omega) ?_ | fail) ?_ ?_ | refine wp_b rfl rfl (fun hc => absurd hc (by decide +kernel)) (fun _ => ?_) | refine wp_b rfl rfl (fun _ => ?_) (fun hc => absurd hc (by decide +kernel)) | refine wp_b rfl rfl (fun hc => ?_) (fun hc => ?_) | refine wp_v rfl rfl ?_ | refine ret_t ?_ | refine ret_f ?_ | fail
      refine W_takeA (n := (fTakes (eFun E g)).getD n 0) H rfl rfl ht (fun hM => ?_) (fun v r h7 hM H7 S7 y7 hv => ?_)
      · rw [mArgs_nil hM]
        repeat' first | refine wp_ist rfl rfl rfl rfl ?_ | refine wp_lst rfl rfl rfl rfl ?_ | refine wp_iinc rfl rfl rfl rfl ?_ | refine wp_f rfl rfl rfl ?_ | refine wp_getf rfl (by repeat' first | assumption | refine qset_ne rfl ?_ | refine qset_self (c0 := ?_) ?_ | refine qset_nf (by omega) ?_ | fail) rfl ?_ | refine wp_ast rfl rfl rfl rfl ?_ | refine wp_asN rfl rfl rfl rfl ?_ | refine wp_putf rfl (by repeat' first | assumption | refine qset_ne rfl ?_ | refine qset_self (c0 := ?_) ?_ | refine qset_nf (by omega) ?_ | fail) (by exact Nat.le_of_ble_eq_true rfl) rfl ?_ | refine wp_iald rfl (by repeat' first | assumption | refine qset_ne rfl ?_ | refine qset_self (c0 := ?_) ?_ | refine qset_nf (by omega) ?_ | fail) ?_ ?_ | refine wp_lald rfl (by repeat' first | assumption | refine qset_ne rfl ?_ | refine qset_self (c0 := ?_) ?_ | refine qset_nf (by omega) ?_ | fail) ?_ ?_ | refine wp_zald rfl (by repeat' first | assumption | refine qset_ne rfl ?_ | refine qset_self (c0 := ?_) ?_ | refine qset_nf (by omega) ?_ | fail) ?_ ?_ | refine wp_iast rfl (by repeat' first | assumption | refine qset_ne rfl ?_ | refine qset_self (c0 := ?_) ?_ | refine qset_nf (by omega) ?_ | fail) ?_ ?_ | refine wp_last rfl (by repeat' first | assumption | refine qset_ne rfl ?_ | refine qset_self (c0 := ?_) ?_ | refine qset_nf (by omega) ?_ | fail) ?_ ?_ | refine wp_alen rfl (by repeat' first | assumption | refine qset_ne rfl ?_ | refine qset_self (c0 := ?_) ?_ | refine qset_nf (by omega) ?_ | fail) rfl ?_ | refine wp_zast rfl (by repeat' first | assumption | refine qset_ne rfl ?_ | refine qset_self (c0 := ?_) ?_ | refine qset_nf (by omega) ?_ | fail) ?_ ?_ | refine wp_b rfl rfl (fun hc => absurd hc (by decide +kernel)) (fun _ => ?_) | refine wp_b rfl rfl (fun _ => ?_) (fun hc => absurd hc (by decide +kernel)) | refine wp_b rfl rfl (fun hc => ?_) (fun hc => ?_) | refine wp_v rfl rfl ?_ | refine ret_t ?_ | refine ret_f ?_ | fail
        · exact qin_nI (by omega) (by omega)
        · have y8 : qfx 20 20 h1 (h1.set 20 (.inl (1, 8, .inr (.inl (vp_updL A (nI n).toNatClampNeg tm))))) := qfx.sta qfx.rf hA (by omega) (by omega)
          have H8 := H.am y8 (qset_self hA)
          refine wp_n rfl rfl ?_
          refine wp_n rfl rfl ?_
          refine wp_b rfl rfl (fun hc => ?_) (fun hc => ?_)
          · refine wp_n rfl rfl ?_
            refine wp_v rfl rfl ?_
            exact ⟨rfl, M, _, H8, qset_self hA, x1.tr (y8.mo (by omega) (by omega)), fun z => by cases z⟩
          · refine wp_n rfl rfl ?_
            refine wp_b rfl rfl (fun _ => ?_) (fun hc => absurd hc (by decide +kernel))
            refine wp_n rfl rfl ?_
            refine wp_v rfl rfl ?_
            exact ⟨rfl, M, _, H8, qset_self hA, x1.tr (y8.mo (by omega) (by omega)), fun z => by cases z⟩
      · rw [mArgs_cons hM]
        have hA7 := y7.at (by omega) hA
        have x7 : qfx 13 20 h1 h7 := y7.mo (by omega) (by omega)
        obtain ⟨th7, dr7, rf7, wt7, q17, q27, e137, e147, e187, e17, ec7⟩ := MS.g H7 S7
        have y8 : qfx 20 20 h7 (h7.set 20 (.inl (1, 8, .inr (.inl (vp_updL A n v.2))))) := qfx.sta qfx.rf hA7 (by omega) (by omega)
        have H8 := H7.am y8 (qset_self hA7)
        have x8 := x1.tr (x7.tr (y8.mo (show 13 ≤ 20 by omega) (show 20 ≤ 20 by omega)))
        by_cases hw : v.1 = (fTakes (eFun E g)).getD n 0
        · simp only [if_pos hw]
          repeat' first | refine wp_ist rfl rfl rfl rfl ?_ | refine wp_lst rfl rfl rfl rfl ?_ | refine wp_iinc rfl rfl rfl rfl ?_ | refine wp_f rfl rfl rfl ?_ | refine wp_getf rfl (by repeat' first | assumption | refine qset_ne rfl ?_ | refine qset_self (c0 := ?_) ?_ | refine qset_nf (by omega) ?_ | fail) rfl ?_ | refine wp_ast rfl rfl rfl rfl ?_ | refine wp_asN rfl rfl rfl rfl ?_ | refine wp_putf rfl (by repeat' first | assumption | refine qset_ne rfl ?_ | refine qset_self (c0 := ?_) ?_ | refine qset_nf (by omega) ?_ | fail) (by exact Nat.le_of_ble_eq_true rfl) rfl ?_ | refine wp_iald rfl (by repeat' first | assumption | refine qset_ne rfl ?_ | refine qset_self (c0 := ?_) ?_ | refine qset_nf (by omega) ?_ | fail) ?_ ?_ | refine wp_lald rfl (by repeat' first | assumption | refine qset_ne rfl ?_ | refine qset_self (c0 := ?_) ?_ | refine qset_nf (by omega) ?_ | fail) ?_ ?_ | refine wp_zald rfl (by repeat' first | assumption | refine qset_ne rfl ?_ | refine qset_self (c0 := ?_) ?_ | refine qset_nf (by omega) ?_ | fail) ?_ ?_ | refine wp_iast rfl (by repeat' first | assumption | refine qset_ne rfl ?_ | refine qset_self (c0 := ?_) ?_ | refine qset_nf (by omega) ?_ | fail) ?_ ?_ | refine wp_last rfl (by repeat' first | assumption | refine qset_ne rfl ?_ | refine qset_self (c0 := ?_) ?_ | refine qset_nf (by omega) ?_ | fail) ?_ ?_ | refine wp_alen rfl (by repeat' first | assumption | refine qset_ne rfl ?_ | refine qset_self (c0 := ?_) ?_ | refine qset_nf (by omega) ?_ | fail) rfl ?_ | refine wp_zast rfl (by repeat' first | assumption | refine qset_ne rfl ?_ | refine qset_self (c0 := ?_) ?_ | refine qset_nf (by omega) ?_ | fail) ?_ ?_ | refine wp_b rfl rfl (fun hc => absurd hc (by decide +kernel)) (fun _ => ?_) | refine wp_b rfl rfl (fun _ => ?_) (fun hc => absurd hc (by decide +kernel)) | refine wp_b rfl rfl (fun hc => ?_) (fun hc => ?_) | refine wp_v rfl rfl ?_ | refine ret_t ?_ | refine ret_f ?_ | fail
          · exact qin_nI (by omega) (by omega)
          · rw [nI_clamp (show n < 2 ^ 31 by omega)]
            refine wp_n rfl rfl ?_
            refine wp_sub (ih (by omega) _ (r, M.2) _ (v.2 :: acc) H8 (qset_self hA7) (fun k hk1 hk2 => ?_) x8) rfl ⟨rfl, rfl, rfl, rfl, trivial⟩
            unfold vp_updL
            by_cases hkn : k = n
            · subst hkn
              rw [if_pos rfl, Nat.sub_self]
              rfl
            · rw [if_neg hkn, hm k (by omega) hk2, show k - n = k - (n + 1) + 1 by omega]
              rfl
        · simp only [if_neg hw]
          repeat' first | refine wp_ist rfl rfl rfl rfl ?_ | refine wp_lst rfl rfl rfl rfl ?_ | refine wp_iinc rfl rfl rfl rfl ?_ | refine wp_f rfl rfl rfl ?_ | refine wp_getf rfl (by repeat' first | assumption | refine qset_ne rfl ?_ | refine qset_self (c0 := ?_) ?_ | refine qset_nf (by omega) ?_ | fail) rfl ?_ | refine wp_ast rfl rfl rfl rfl ?_ | refine wp_asN rfl rfl rfl rfl ?_ | refine wp_putf rfl (by repeat' first | assumption | refine qset_ne rfl ?_ | refine qset_self (c0 := ?_) ?_ | refine qset_nf (by omega) ?_ | fail) (by exact Nat.le_of_ble_eq_true rfl) rfl ?_ | refine wp_iald rfl (by repeat' first | assumption | refine qset_ne rfl ?_ | refine qset_self (c0 := ?_) ?_ | refine qset_nf (by omega) ?_ | fail) ?_ ?_ | refine wp_lald rfl (by repeat' first | assumption | refine qset_ne rfl ?_ | refine qset_self (c0 := ?_) ?_ | refine qset_nf (by omega) ?_ | fail) ?_ ?_ | refine wp_zald rfl (by repeat' first | assumption | refine qset_ne rfl ?_ | refine qset_self (c0 := ?_) ?_ | refine qset_nf (by omega) ?_ | fail) ?_ ?_ | refine wp_iast rfl (by repeat' first | assumption | refine qset_ne rfl ?_ | refine qset_self (c0 := ?_) ?_ | refine qset_nf (by omega) ?_ | fail) ?_ ?_ | refine wp_last rfl (by repeat' first | assumption | refine qset_ne rfl ?_ | refine qset_self (c0 := ?_) ?_ | refine qset_nf (by omega) ?_ | fail) ?_ ?_ | refine wp_alen rfl (by repeat' first | assumption | refine qset_ne rfl ?_ | refine qset_self (c0 := ?_) ?_ | refine qset_nf (by omega) ?_ | fail) rfl ?_ | refine wp_zast rfl (by repeat' first | assumption | refine qset_ne rfl ?_ | refine qset_self (c0 := ?_) ?_ | refine qset_nf (by omega) ?_ | fail) ?_ ?_ | refine wp_b rfl rfl (fun hc => absurd hc (by decide +kernel)) (fun _ => ?_) | refine wp_b rfl rfl (fun _ => ?_) (fun hc => absurd hc (by decide +kernel)) | refine wp_b rfl rfl (fun hc => ?_) (fun hc => ?_) | refine wp_v rfl rfl ?_ | refine ret_t ?_ | refine ret_f ?_ | fail
          · exact qin_nI (by omega) (by omega)
          · rw [nI_clamp (show n < 2 ^ 31 by omega)]
            refine wp_n rfl rfl ?_
            refine wp_n rfl rfl ?_
            refine wp_b rfl rfl (fun hc => ?_) (fun hc => ?_)
            · refine wp_n rfl rfl ?_
              refine wp_v rfl rfl ?_
              exact ⟨rfl, _, _, H8, qset_self hA7, x8, fun z => by cases z⟩
            · refine wp_n rfl rfl ?_
              refine wp_b rfl rfl (fun _ => ?_) (fun hc => absurd hc (by decide +kernel))
              refine wp_n rfl rfl ?_
              refine wp_v rfl rfl ?_
              exact ⟨rfl, _, _, H8, qset_self hA7, x8, fun z => by cases z⟩
theorem c_Machine_takeArguments {g : Nat} (hg : g < E.2.2.length) (hT : ∀ j, (fTakes (eFun E g)).getD j 0 < 2 ^ 63) (H : MS h sa fa E c F a b M) : wp sc (m_Machine_takeArguments, 0, qargs 0 [.ref 13, .ref (fa g)], [], h) (rI fun x h' => x = nI (mArgs M (fTakes (eFun E g)).reverse []).1 ∧ ∃ M' A', MS h' sa fa E c F a b M' ∧ h'[20]? = some (.inl (1, 8, .inr (.inl A'))) ∧ qfx 13 20 h h' ∧
      ((mArgs M (fTakes (eFun E g)).reverse []).1 = 0 → M' = (mArgs M (fTakes (eFun E g)).reverse []).2.2 ∧ ∀ k, k < (fTakes (eFun E g)).length → A' k = (mArgs M (fTakes (eFun E g)).reverse []).2.1.getD k 0)) := by
  obtain ⟨A, hA⟩ := H.2.2.2.1.2
  obtain ⟨f1, f2, f3, b1, b2, b3⟩ := (H.1.cd hg).1
  obtain ⟨u, u1, u2, u3⟩ := b2
  have hl := l_takeArguments sc h hg hT (fTakes (eFun E g)).length (Nat.le_refl _) h M A [] H hA (fun k h1 h2 => absurd h2 (by omega)) qfx.rf
  rw [List.take_length, ← nI_sm] at hl
  repeat' first | (refine wp_sub hl rfl ⟨rfl, rfl, rfl, rfl, trivial⟩) | refine wp_ist rfl rfl rfl rfl ?_ | refine wp_lst rfl rfl rfl rfl ?_ | refine wp_iinc rfl rfl rfl rfl ?_ | refine wp_f rfl rfl rfl ?_ | refine wp_getf rfl (by repeat' first | assumption | refine qset_ne rfl ?_ | refine qset_self (c0 := ?_) ?_ | refine qset_nf (by omega) ?_ | fail) rfl ?_ | refine wp_ast rfl rfl rfl rfl ?_ | refine wp_asN rfl rfl rfl rfl ?_ | refine wp_putf rfl (by repeat' first | assumption | refine qset_ne rfl ?_ | refine qset_self (c0 := ?_) ?_ | refine qset_nf (by omega) ?_ | fail) (by exact Nat.le_of_ble_eq_true rfl) rfl ?_ | refine wp_iald rfl (by repeat' first | assumption | refine qset_ne rfl ?_ | refine qset_self (c0 := ?_) ?_ | refine qset_nf (by omega) ?_ | fail) ?_ ?_ | refine wp_lald rfl (by repeat' first | assumption | refine qset_ne rfl ?_ | refine qset_self (c0 := ?_) ?_ | refine qset_nf (by omega) ?_ | fail) ?_ ?_ | refine wp_zald rfl (by repeat' first | assumption | refine qset_ne rfl ?_ | refine qset_self (c0 := ?_) ?_ | refine qset_nf (by omega) ?_ | fail) ?_ ?_ | refine wp_iast rfl (by repeat' first | assumption | refine qset_ne rfl ?_ | refine qset_self (c0 := ?_) ?_ | refine qset_nf (by omega) ?_ | fail) ?_ ?_ | refine wp_last rfl (by repeat' first | assumption | refine qset_ne rfl ?_ | refine qset_self (c0 := ?_) ?_ | refine qset_nf (by omega) ?_ | fail) ?_ ?_ | refine wp_alen rfl (by repeat' first | assumption | refine qset_ne rfl ?_ | refine qset_self (c0 := ?_) ?_ | refine qset_nf (by omega) ?_ | fail) rfl ?_ | refine wp_zast rfl (by repeat' first | assumption | refine qset_ne rfl ?_ | refine qset_self (c0 := ?_) ?_ | refine qset_nf (by omega) ?_ | fail) ?_ ?_ | refine wp_b rfl rfl (fun hc => absurd hc (by decide +kernel)) (fun _ => ?_) | refine wp_b rfl rfl (fun _ => ?_) (fun hc => absurd hc (by decide +kernel)) | refine wp_b rfl rfl (fun hc => ?_) (fun hc => ?_) | refine wp_v rfl rfl ?_ | refine ret_t ?_ | refine ret_f ?_ | fail
/-- what bars the argument k from being sole, of the first n others -/
def aoth (x : Int64) (ms : List Int64) (k : Nat) : Nat → Int64
  | 0 => x
  | n + 1 => aoth x ms k n ||| (if n = k then 0 else ms.getD n 0 &&& lOrg)
theorem or_and_z {x y m : Int64} : (x ||| y) &&& m = 0 ↔ x &&& m = 0 ∧ y &&& m = 0 := by
  rw [lb_z, lb_z, lb_z]
  constructor
  · intro g
    refine ⟨fun k hk => ?_, fun k hk => ?_⟩
    all_goals
      have t := g k hk
      rw [lb_and, lb_or] at t
      rw [lb_and]
      cases h1 : lb x k <;> cases h2 : lb y k <;> simp_all
  · rintro ⟨g1, g2⟩ k hk
    have t1 := g1 k hk
    have t2 := g2 k hk
    rw [lb_and] at t1 t2
    rw [lb_and, lb_or]
    cases h1 : lb x k <;> cases h2 : lb y k <;> simp_all
theorem aoth_z {x m : Int64} {ms : List Int64} {k : Nat} : ∀ n, aoth x ms k n &&& m = 0 ↔ x &&& m = 0 ∧ ∀ i, i < n → i = k ∨ ms.getD i 0 &&& m &&& lOrg = 0
  | 0 => ⟨fun g => ⟨g, fun i hi => absurd hi (Nat.not_lt_zero i)⟩, fun g => g.1⟩
  | n + 1 => by
    have e : (if n = k then 0 else ms.getD n 0 &&& lOrg) &&& m = 0 ↔ (n = k ∨ ms.getD n 0 &&& m &&& lOrg = 0) := by
      by_cases hn : n = k
      · rw [if_pos hn]
        simp [hn]
      · rw [if_neg hn, Int64.and_assoc, Int64.and_comm lOrg m, ← Int64.and_assoc]
        simp [hn]
    show (aoth x ms k n ||| (if n = k then 0 else ms.getD n 0 &&& lOrg)) &&& m = 0 ↔ _
    rw [or_and_z, aoth_z n, e]
    constructor
    · rintro ⟨⟨g1, g2⟩, g3⟩
      refine ⟨g1, fun i hi => ?_⟩
      rcases Nat.lt_or_ge i n with z | z
      · exact g2 i z
      · have : i = n := by omega
        rw [this]; exact g3
    · rintro ⟨g1, g2⟩
      exact ⟨⟨g1, fun i hi => g2 i (by omega)⟩, g2 n (by omega)⟩
theorem l_aoth {g j : Nat} {ms : List Int64} {x : Int64} {A : Nat → Int64} {Q : Option Value → qH → Prop} (hg : g < E.2.2.length) (H : MS h sa fa E c F a b M) (hA : h[20]? = some (.inl (1, 8, .inr (.inl A)))) (hm : ∀ k, k < (fTakes (eFun E g)).length → A k = ms.getD k 0) (hj : j < (fTakes (eFun E g)).length)
    (hw : wp sc (m_Machine_areWritingArgumentsSole, 87, [(5, .long (aoth x ms j (fTakes (eFun E g)).length)), (4, .int (nI j)), (2, .long x), (1, .ref (fa g)), (0, .ref 13)], [], h) Q) : ∀ m i, m + i = (fTakes (eFun E g)).length →
    wp sc (m_Machine_areWritingArgumentsSole, 42, [(7, .int (nI i)), (5, .long (aoth x ms j i)), (4, .int (nI j)), (2, .long x), (1, .ref (fa g)), (0, .ref 13)], [], h) Q := by
  have hl := (H.1.cd hg).1.lens
  obtain ⟨f1, f2, f3, b1, b2, b3⟩ := (H.1.cd hg).1
  obtain ⟨u, u1, u2, u3⟩ := b2
  obtain ⟨tt, tm, th, dr, rf, wt, q1, q2, e13, e14, e18, e1, ec, S⟩ := MS.f H
  intro m
  induction m with
  | zero =>
    intro i hi
    have ei : i = (fTakes (eFun E g)).length := by omega
    subst ei
    refine wp_n rfl rfl ?_
    refine wp_n rfl rfl ?_
    refine wp_getf rfl (by repeat' first | assumption | refine qset_ne rfl ?_ | refine qset_self (c0 := ?_) ?_ | refine qset_nf (by omega) ?_ | fail) rfl ?_
    refine wp_getf rfl (by repeat' first | assumption | refine qset_ne rfl ?_ | refine qset_self (c0 := ?_) ?_ | refine qset_nf (by omega) ?_ | fail) rfl ?_
    refine wp_b rfl rfl (fun hc => ?_) (fun hc => ?_)
    · exact wp_sub hw rfl ⟨rfl, rfl, rfl, rfl, rfl, trivial⟩
    · (try simp (disch := omega) only [c2_eq, c2_ne, c2_lt, c2_ge, c2_gt, c2_le, c1_eq, c1_ne, c1_lt, c1_le, c1_gt, c1_ge, lg_le, lg_lt, lg_ge, lg_gt, lg_eq, lg_ne, bI_eq, bI_ne, qlc_0, qlc_2, qlc_3, qlc_4, qlc_5, qlc_7, qlc_8, qlc_9, qlc_10, qlc_11, qlc_12, qlc_14, lN_eq0, lN_leN, lN_ltN, lN_eqN, decide_eq_true_eq, decide_eq_false_iff_not, Bool.not_eq_true', Bool.not_eq_false'] at *)
      omega
  | succ m ih =>
    intro i hi
    have ih2 := ih (i + 1) (by omega)
    simp only [aoth] at ih2
    refine wp_n rfl rfl ?_
    refine wp_n rfl rfl ?_
    refine wp_getf rfl (by repeat' first | assumption | refine qset_ne rfl ?_ | refine qset_self (c0 := ?_) ?_ | refine qset_nf (by omega) ?_ | fail) rfl ?_
    refine wp_getf rfl (by repeat' first | assumption | refine qset_ne rfl ?_ | refine qset_self (c0 := ?_) ?_ | refine qset_nf (by omega) ?_ | fail) rfl ?_
    refine wp_b rfl rfl (fun hc => ?_) (fun hc => ?_)
    · (try simp (disch := omega) only [c2_eq, c2_ne, c2_lt, c2_ge, c2_gt, c2_le, c1_eq, c1_ne, c1_lt, c1_le, c1_gt, c1_ge, lg_le, lg_lt, lg_ge, lg_gt, lg_eq, lg_ne, bI_eq, bI_ne, qlc_0, qlc_2, qlc_3, qlc_4, qlc_5, qlc_7, qlc_8, qlc_9, qlc_10, qlc_11, qlc_12, qlc_14, lN_eq0, lN_leN, lN_ltN, lN_eqN, decide_eq_true_eq, decide_eq_false_iff_not, Bool.not_eq_true', Bool.not_eq_false'] at *)
      omega
    · refine wp_n rfl rfl ?_
      refine wp_n rfl rfl ?_
      refine wp_n rfl rfl ?_
      refine wp_b rfl rfl (fun hc2 => ?_) (fun hc2 => ?_)
      · have hne : ¬ i = j := by
          rw [c2_ne (by omega) (by omega)] at hc2
          simpa using hc2
        rw [if_neg hne, ← hm i (by omega)] at ih2
        repeat' first | refine wp_ist rfl rfl rfl rfl ?_ | refine wp_lst rfl rfl rfl rfl ?_ | refine wp_iinc rfl rfl rfl rfl ?_ | refine wp_f rfl rfl rfl ?_ | refine wp_getf rfl (by repeat' first | assumption | refine qset_ne rfl ?_ | refine qset_self (c0 := ?_) ?_ | refine qset_nf (by omega) ?_ | fail) rfl ?_ | refine wp_ast rfl rfl rfl rfl ?_ | refine wp_asN rfl rfl rfl rfl ?_ | refine wp_putf rfl (by repeat' first | assumption | refine qset_ne rfl ?_ | refine qset_self (c0 := ?_) ?_ | refine qset_nf (by omega) ?_ | fail) (by exact Nat.le_of_ble_eq_true rfl) rfl ?_ | refine wp_iald rfl (by repeat' first | assumption | refine qset_ne rfl ?_ | refine qset_self (c0 := ?_) ?_ | refine qset_nf (by omega) ?_ | fail) ?_ ?_ | refine wp_lald rfl (by repeat' first | assumption | refine qset_ne rfl ?_ | refine qset_self (c0 := ?_) ?_ | refine qset_nf (by omega) ?_ | fail) ?_ ?_ | refine wp_zald rfl (by repeat' first | assumption | refine qset_ne rfl ?_ | refine qset_self (c0 := ?_) ?_ | refine qset_nf (by omega) ?_ | fail) ?_ ?_ | refine wp_iast rfl (by repeat' first | assumption | refine qset_ne rfl ?_ | refine qset_self (c0 := ?_) ?_ | refine qset_nf (by omega) ?_ | fail) ?_ ?_ | refine wp_last rfl (by repeat' first | assumption | refine qset_ne rfl ?_ | refine qset_self (c0 := ?_) ?_ | refine qset_nf (by omega) ?_ | fail) ?_ ?_ | refine wp_alen rfl (by repeat' first | assumption | refine qset_ne rfl ?_ | refine qset_self (c0 := ?_) ?_ | refine qset_nf (by omega) ?_ | fail) rfl ?_ | refine wp_zast rfl (by repeat' first | assumption | refine qset_ne rfl ?_ | refine qset_self (c0 := ?_) ?_ | refine qset_nf (by omega) ?_ | fail) ?_ ?_ | refine wp_b rfl rfl (fun hc => absurd hc (by decide +kernel)) (fun _ => ?_) | refine wp_b rfl rfl (fun _ => ?_) (fun hc => absurd hc (by decide +kernel)) | refine wp_b rfl rfl (fun hc => ?_) (fun hc => ?_) | refine wp_v rfl rfl ?_ | refine ret_t ?_ | refine ret_f ?_ | fail
        · exact qin_nI (by omega) (by omega)
        · rw [nI_clamp (show i < 2 ^ 31 by omega)]
          refine wp_n rfl rfl ?_
          rw [nI_inc]
          exact wp_sub ih2 rfl ⟨rfl, rfl, rfl, rfl, rfl, rfl, trivial⟩
      · have hne : i = j := by
          rw [c2_ne (by omega) (by omega)] at hc2
          simpa using hc2
        rw [if_pos hne] at ih2
        repeat' first | refine wp_ist rfl rfl rfl rfl ?_ | refine wp_lst rfl rfl rfl rfl ?_ | refine wp_iinc rfl rfl rfl rfl ?_ | refine wp_f rfl rfl rfl ?_ | refine wp_getf rfl (by repeat' first | assumption | refine qset_ne rfl ?_ | refine qset_self (c0 := ?_) ?_ | refine qset_nf (by omega) ?_ | fail) rfl ?_ | refine wp_ast rfl rfl rfl rfl ?_ | refine wp_asN rfl rfl rfl rfl ?_ | refine wp_putf rfl (by repeat' first | assumption | refine qset_ne rfl ?_ | refine qset_self (c0 := ?_) ?_ | refine qset_nf (by omega) ?_ | fail) (by exact Nat.le_of_ble_eq_true rfl) rfl ?_ | refine wp_iald rfl (by repeat' first | assumption | refine qset_ne rfl ?_ | refine qset_self (c0 := ?_) ?_ | refine qset_nf (by omega) ?_ | fail) ?_ ?_ | refine wp_lald rfl (by repeat' first | assumption | refine qset_ne rfl ?_ | refine qset_self (c0 := ?_) ?_ | refine qset_nf (by omega) ?_ | fail) ?_ ?_ | refine wp_zald rfl (by repeat' first | assumption | refine qset_ne rfl ?_ | refine qset_self (c0 := ?_) ?_ | refine qset_nf (by omega) ?_ | fail) ?_ ?_ | refine wp_iast rfl (by repeat' first | assumption | refine qset_ne rfl ?_ | refine qset_self (c0 := ?_) ?_ | refine qset_nf (by omega) ?_ | fail) ?_ ?_ | refine wp_last rfl (by repeat' first | assumption | refine qset_ne rfl ?_ | refine qset_self (c0 := ?_) ?_ | refine qset_nf (by omega) ?_ | fail) ?_ ?_ | refine wp_alen rfl (by repeat' first | assumption | refine qset_ne rfl ?_ | refine qset_self (c0 := ?_) ?_ | refine qset_nf (by omega) ?_ | fail) rfl ?_ | refine wp_zast rfl (by repeat' first | assumption | refine qset_ne rfl ?_ | refine qset_self (c0 := ?_) ?_ | refine qset_nf (by omega) ?_ | fail) ?_ ?_ | refine wp_b rfl rfl (fun hc => absurd hc (by decide +kernel)) (fun _ => ?_) | refine wp_b rfl rfl (fun _ => ?_) (fun hc => absurd hc (by decide +kernel)) | refine wp_b rfl rfl (fun hc => ?_) (fun hc => ?_) | refine wp_v rfl rfl ?_ | refine ret_t ?_ | refine ret_f ?_ | fail
        refine wp_n rfl rfl ?_
        rw [nI_inc]
        exact wp_sub ih2 rfl ⟨rfl, rfl, rfl, rfl, rfl, rfl, trivial⟩
theorem l_argsSole {g : Nat} {ms : List Int64} {A : Nat → Int64} (hg : g < E.2.2.length) (hT : ∀ j, (fTakes (eFun E g)).getD j 0 < 2 ^ 63) (H : MS h sa fa E c F a b M) (hA : h[20]? = some (.inl (1, 8, .inr (.inl A)))) (hm : ∀ k, k < (fTakes (eFun E g)).length → A k = ms.getD k 0) : ∀ m j, m + j = (fTakes (eFun E g)).length →
    (∀ i, i < j → (!twr ((fTakes (eFun E g)).getD i 0) || (mSole F M (ms.getD i 0) && (List.range (fTakes (eFun E g)).length).all fun j => j == i || (ms.getD j 0 &&& ms.getD i 0 &&& lOrg == 0))) = true) →
    wp sc (m_Machine_areWritingArgumentsSole, 9, [(4, .int (nI j)), (2, .long (liveF 2 F M)), (1, .ref (fa g)), (0, .ref 13)], [], h) (rI (pI (bI (mArgsSole F M (fTakes (eFun E g)) ms)) h)) := by
  have hl := (H.1.cd hg).1.lens
  obtain ⟨f1, f2, f3, b1, b2, b3⟩ := (H.1.cd hg).1
  have b20 := b2
  obtain ⟨u, u1, u2, u3⟩ := b2
  obtain ⟨tt, tm, th, dr, rf, wt, q1, q2, e13, e14, e18, e1, ec, S⟩ := MS.f H
  intro m
  induction m with
  | zero =>
    intro j hj hP
    have ej : j = (fTakes (eFun E g)).length := by omega
    subst ej
    refine wp_n rfl rfl ?_
    refine wp_n rfl rfl ?_
    refine wp_getf rfl (by repeat' first | assumption | refine qset_ne rfl ?_ | refine qset_self (c0 := ?_) ?_ | refine qset_nf (by omega) ?_ | fail) rfl ?_
    refine wp_getf rfl (by repeat' first | assumption | refine qset_ne rfl ?_ | refine qset_self (c0 := ?_) ?_ | refine qset_nf (by omega) ?_ | fail) rfl ?_
    refine wp_b rfl rfl (fun hc => ?_) (fun hc => ?_)
    · repeat' first | refine wp_ist rfl rfl rfl rfl ?_ | refine wp_lst rfl rfl rfl rfl ?_ | refine wp_iinc rfl rfl rfl rfl ?_ | refine wp_f rfl rfl rfl ?_ | refine wp_getf rfl (by repeat' first | assumption | refine qset_ne rfl ?_ | refine qset_self (c0 := ?_) ?_ | refine qset_nf (by omega) ?_ | fail) rfl ?_ | refine wp_ast rfl rfl rfl rfl ?_ | refine wp_asN rfl rfl rfl rfl ?_ | refine wp_putf rfl (by repeat' first | assumption | refine qset_ne rfl ?_ | refine qset_self (c0 := ?_) ?_ | refine qset_nf (by omega) ?_ | fail) (by exact Nat.le_of_ble_eq_true rfl) rfl ?_ | refine wp_iald rfl (by repeat' first | assumption | refine qset_ne rfl ?_ | refine qset_self (c0 := ?_) ?_ | refine qset_nf (by omega) ?_ | fail) ?_ ?_ | refine wp_lald rfl (by repeat' first | assumption | refine qset_ne rfl ?_ | refine qset_self (c0 := ?_) ?_ | refine qset_nf (by omega) ?_ | fail) ?_ ?_ | refine wp_zald rfl (by repeat' first | assumption | refine qset_ne rfl ?_ | refine qset_self (c0 := ?_) ?_ | refine qset_nf (by omega) ?_ | fail) ?_ ?_ | refine wp_iast rfl (by repeat' first | assumption | refine qset_ne rfl ?_ | refine qset_self (c0 := ?_) ?_ | refine qset_nf (by omega) ?_ | fail) ?_ ?_ | refine wp_last rfl (by repeat' first | assumption | refine qset_ne rfl ?_ | refine qset_self (c0 := ?_) ?_ | refine qset_nf (by omega) ?_ | fail) ?_ ?_ | refine wp_alen rfl (by repeat' first | assumption | refine qset_ne rfl ?_ | refine qset_self (c0 := ?_) ?_ | refine qset_nf (by omega) ?_ | fail) rfl ?_ | refine wp_zast rfl (by repeat' first | assumption | refine qset_ne rfl ?_ | refine qset_self (c0 := ?_) ?_ | refine qset_nf (by omega) ?_ | fail) ?_ ?_ | refine wp_b rfl rfl (fun hc => absurd hc (by decide +kernel)) (fun _ => ?_) | refine wp_b rfl rfl (fun _ => ?_) (fun hc => absurd hc (by decide +kernel)) | refine wp_b rfl rfl (fun hc => ?_) (fun hc => ?_) | refine wp_v rfl rfl ?_ | refine ret_t ?_ | refine ret_f ?_ | fail
      unfold mArgsSole
      rw [List.all_eq_true]
      intro i hi
      exact hP i (List.mem_range.mp hi)
    · (try simp (disch := omega) only [c2_eq, c2_ne, c2_lt, c2_ge, c2_gt, c2_le, c1_eq, c1_ne, c1_lt, c1_le, c1_gt, c1_ge, lg_le, lg_lt, lg_ge, lg_gt, lg_eq, lg_ne, bI_eq, bI_ne, qlc_0, qlc_2, qlc_3, qlc_4, qlc_5, qlc_7, qlc_8, qlc_9, qlc_10, qlc_11, qlc_12, qlc_14, lN_eq0, lN_leN, lN_ltN, lN_eqN, decide_eq_true_eq, decide_eq_false_iff_not, Bool.not_eq_true', Bool.not_eq_false'] at *)
      omega
  | succ m ih =>
    intro j hj hP
    have hi := c_Type_isWriting sc h ((fTakes (eFun E g)).getD j 0) (hT j)
    have hs := live_sole F M (ms.getD j 0)
    refine wp_n rfl rfl ?_
    refine wp_n rfl rfl ?_
    refine wp_getf rfl (by repeat' first | assumption | refine qset_ne rfl ?_ | refine qset_self (c0 := ?_) ?_ | refine qset_nf (by omega) ?_ | fail) rfl ?_
    refine wp_getf rfl (by repeat' first | assumption | refine qset_ne rfl ?_ | refine qset_self (c0 := ?_) ?_ | refine qset_nf (by omega) ?_ | fail) rfl ?_
    refine wp_b rfl rfl (fun hc => ?_) (fun hc => ?_)
    · (try simp (disch := omega) only [c2_eq, c2_ne, c2_lt, c2_ge, c2_gt, c2_le, c1_eq, c1_ne, c1_lt, c1_le, c1_gt, c1_ge, lg_le, lg_lt, lg_ge, lg_gt, lg_eq, lg_ne, bI_eq, bI_ne, qlc_0, qlc_2, qlc_3, qlc_4, qlc_5, qlc_7, qlc_8, qlc_9, qlc_10, qlc_11, qlc_12, qlc_14, lN_eq0, lN_leN, lN_ltN, lN_eqN, decide_eq_true_eq, decide_eq_false_iff_not, Bool.not_eq_true', Bool.not_eq_false'] at *)
      omega
    · cases hq : twr ((fTakes (eFun E g)).getD j 0) with
      | false =>
        rw [hq] at hi
        repeat' first | refine wp_Vlp rfl rfl (by repeat' first | assumption | refine qset_ne rfl ?_ | refine qset_self (c0 := ?_) ?_ | refine qset_nf (by omega) ?_ | fail) rfl (c_TypeList_get sc h _ 8 _ b20 j (by omega)) ?_ | refine wp_Sip rfl rfl rfl (hi) ?_ | refine wp_ist rfl rfl rfl rfl ?_ | refine wp_lst rfl rfl rfl rfl ?_ | refine wp_iinc rfl rfl rfl rfl ?_ | refine wp_f rfl rfl rfl ?_ | refine wp_getf rfl (by repeat' first | assumption | refine qset_ne rfl ?_ | refine qset_self (c0 := ?_) ?_ | refine qset_nf (by omega) ?_ | fail) rfl ?_ | refine wp_ast rfl rfl rfl rfl ?_ | refine wp_asN rfl rfl rfl rfl ?_ | refine wp_putf rfl (by repeat' first | assumption | refine qset_ne rfl ?_ | refine qset_self (c0 := ?_) ?_ | refine qset_nf (by omega) ?_ | fail) (by exact Nat.le_of_ble_eq_true rfl) rfl ?_ | refine wp_iald rfl (by repeat' first | assumption | refine qset_ne rfl ?_ | refine qset_self (c0 := ?_) ?_ | refine qset_nf (by omega) ?_ | fail) ?_ ?_ | refine wp_lald rfl (by repeat' first | assumption | refine qset_ne rfl ?_ | refine qset_self (c0 := ?_) ?_ | refine qset_nf (by omega) ?_ | fail) ?_ ?_ | refine wp_zald rfl (by repeat' first | assumption | refine qset_ne rfl ?_ | refine qset_self (c0 := ?_) ?_ | refine qset_nf (by omega) ?_ | fail) ?_ ?_ | refine wp_iast rfl (by repeat' first | assumption | refine qset_ne rfl ?_ | refine qset_self (c0 := ?_) ?_ | refine qset_nf (by omega) ?_ | fail) ?_ ?_ | refine wp_last rfl (by repeat' first | assumption | refine qset_ne rfl ?_ | refine qset_self (c0 := ?_) ?_ | refine qset_nf (by omega) ?_ | fail) ?_ ?_ | refine wp_alen rfl (by repeat' first | assumption | refine qset_ne rfl ?_ | refine qset_self (c0 := ?_) ?_ | refine qset_nf (by omega) ?_ | fail) rfl ?_ | refine wp_zast rfl (by repeat' first | assumption | refine qset_ne rfl ?_ | refine qset_self (c0 := ?_) ?_ | refine qset_nf (by omega) ?_ | fail) ?_ ?_ | refine wp_b rfl rfl (fun hc => absurd hc (by decide +kernel)) (fun _ => ?_) | refine wp_b rfl rfl (fun _ => ?_) (fun hc => absurd hc (by decide +kernel)) | refine wp_b rfl rfl (fun hc => ?_) (fun hc => ?_) | refine wp_v rfl rfl ?_ | refine ret_t ?_ | refine ret_f ?_ | fail
        refine wp_n rfl rfl ?_
        rw [nI_inc]
        refine wp_sub (ih (j + 1) (by omega) fun i hi => ?_) rfl ⟨rfl, rfl, rfl, rfl, trivial⟩
        by_cases hij : i = j
        · rw [hij, hq]; rfl
        · exact hP i (by omega)
      | true =>
        rw [hq] at hi
        have hz := aoth_z (x := liveF 2 F M) (m := ms.getD j 0) (ms := ms) (k := j) (fTakes (eFun E g)).length
        have hin := l_aoth (x := liveF 2 F M) (Q := rI (pI (bI (mArgsSole F M (fTakes (eFun E g)) ms)) h)) sc h hg H hA hm (show j < (fTakes (eFun E g)).length by omega) (by
          repeat' first | refine wp_ist rfl rfl rfl rfl ?_ | refine wp_lst rfl rfl rfl rfl ?_ | refine wp_iinc rfl rfl rfl rfl ?_ | refine wp_f rfl rfl rfl ?_ | refine wp_getf rfl (by repeat' first | assumption | refine qset_ne rfl ?_ | refine qset_self (c0 := ?_) ?_ | refine qset_nf (by omega) ?_ | fail) rfl ?_ | refine wp_ast rfl rfl rfl rfl ?_ | refine wp_asN rfl rfl rfl rfl ?_ | refine wp_putf rfl (by repeat' first | assumption | refine qset_ne rfl ?_ | refine qset_self (c0 := ?_) ?_ | refine qset_nf (by omega) ?_ | fail) (by exact Nat.le_of_ble_eq_true rfl) rfl ?_ | refine wp_iald rfl (by repeat' first | assumption | refine qset_ne rfl ?_ | refine qset_self (c0 := ?_) ?_ | refine qset_nf (by omega) ?_ | fail) ?_ ?_ | refine wp_lald rfl (by repeat' first | assumption | refine qset_ne rfl ?_ | refine qset_self (c0 := ?_) ?_ | refine qset_nf (by omega) ?_ | fail) ?_ ?_ | refine wp_zald rfl (by repeat' first | assumption | refine qset_ne rfl ?_ | refine qset_self (c0 := ?_) ?_ | refine qset_nf (by omega) ?_ | fail) ?_ ?_ | refine wp_iast rfl (by repeat' first | assumption | refine qset_ne rfl ?_ | refine qset_self (c0 := ?_) ?_ | refine qset_nf (by omega) ?_ | fail) ?_ ?_ | refine wp_last rfl (by repeat' first | assumption | refine qset_ne rfl ?_ | refine qset_self (c0 := ?_) ?_ | refine qset_nf (by omega) ?_ | fail) ?_ ?_ | refine wp_alen rfl (by repeat' first | assumption | refine qset_ne rfl ?_ | refine qset_self (c0 := ?_) ?_ | refine qset_nf (by omega) ?_ | fail) rfl ?_ | refine wp_zast rfl (by repeat' first | assumption | refine qset_ne rfl ?_ | refine qset_self (c0 := ?_) ?_ | refine qset_nf (by omega) ?_ | fail) ?_ ?_ | refine wp_b rfl rfl (fun hc => absurd hc (by decide +kernel)) (fun _ => ?_) | refine wp_b rfl rfl (fun _ => ?_) (fun hc => absurd hc (by decide +kernel)) | refine wp_b rfl rfl (fun hc => ?_) (fun hc => ?_) | refine wp_v rfl rfl ?_ | refine ret_t ?_ | refine ret_f ?_ | fail
          · exact qin_nI (by omega) (by omega)
          · rw [nI_clamp (show j < 2 ^ 31 by omega), hm j (by omega), lg_eq, decide_eq_true_eq, hz] at hc
            refine wp_n rfl rfl ?_
            rw [nI_inc]
            refine wp_sub (ih (j + 1) (by omega) fun i hi => ?_) rfl ⟨rfl, rfl, rfl, rfl, trivial⟩
            by_cases hij : i = j
            · rw [hij, hq]
              have h1 : mSole F M (ms.getD j 0) = true := by
                rw [hc.1] at hs
                simpa using hs.symm
              rw [h1]
              show (List.range (fTakes (eFun E g)).length).all _ = true
              rw [List.all_eq_true]
              intro i hi
              rcases hc.2 i (List.mem_range.mp hi) with z | z
              · simp [z]
              · rw [z]
                simp
            · exact hP i (by omega)
          · rw [nI_clamp (show j < 2 ^ 31 by omega), hm j (by omega), lg_eq, decide_eq_false_iff_not, hz] at hc
            unfold mArgsSole
            rw [List.all_eq_false]
            refine ⟨j, List.mem_range.mpr (by omega), ?_⟩
            rw [hq]
            intro z
            apply hc
            simp only [Bool.not_true, Bool.false_or, Bool.and_eq_true, List.all_eq_true, List.mem_range, Bool.or_eq_true, beq_iff_eq] at z
            refine ⟨?_, z.2⟩
            rw [z.1] at hs
            simpa using hs) (fTakes (eFun E g)).length 0 (by omega)
        repeat' first | refine wp_Vlp rfl rfl (by repeat' first | assumption | refine qset_ne rfl ?_ | refine qset_self (c0 := ?_) ?_ | refine qset_nf (by omega) ?_ | fail) rfl (c_TypeList_get sc h _ 8 _ b20 j (by omega)) ?_ | refine wp_Sip rfl rfl rfl (hi) ?_ | (refine wp_sub hin rfl ⟨rfl, rfl, rfl, rfl, rfl, rfl, trivial⟩) | refine wp_ist rfl rfl rfl rfl ?_ | refine wp_lst rfl rfl rfl rfl ?_ | refine wp_iinc rfl rfl rfl rfl ?_ | refine wp_f rfl rfl rfl ?_ | refine wp_getf rfl (by repeat' first | assumption | refine qset_ne rfl ?_ | refine qset_self (c0 := ?_) ?_ | refine qset_nf (by omega) ?_ | fail) rfl ?_ | refine wp_ast rfl rfl rfl rfl ?_ | refine wp_asN rfl rfl rfl rfl ?_ | refine wp_putf rfl (by repeat' first | assumption | refine qset_ne rfl ?_ | refine qset_self (c0 := ?_) ?_ | refine qset_nf (by omega) ?_ | fail) (by exact Nat.le_of_ble_eq_true rfl) rfl ?_ | refine wp_iald rfl (by repeat' first | assumption | refine qset_ne rfl ?_ | refine qset_self (c0 := ?_) ?_ | refine qset_nf (by omega) ?_ | fail) ?_ ?_ | refine wp_lald rfl (by repeat' first | assumption | refine qset_ne rfl ?_ | refine qset_self (c0 := ?_) ?_ | refine qset_nf (by omega) ?_ | fail) ?_ ?_ | refine wp_zald rfl (by repeat' first | assumption | refine qset_ne rfl ?_ | refine qset_self (c0 := ?_) ?_ | refine qset_nf (by omega) ?_ | fail) ?_ ?_ | refine wp_iast rfl (by repeat' first | assumption | refine qset_ne rfl ?_ | refine qset_self (c0 := ?_) ?_ | refine qset_nf (by omega) ?_ | fail) ?_ ?_ | refine wp_last rfl (by repeat' first | assumption | refine qset_ne rfl ?_ | refine qset_self (c0 := ?_) ?_ | refine qset_nf (by omega) ?_ | fail) ?_ ?_ | refine wp_alen rfl (by repeat' first | assumption | refine qset_ne rfl ?_ | refine qset_self (c0 := ?_) ?_ | refine qset_nf (by omega) ?_ | fail) rfl ?_ | refine wp_zast rfl (by repeat' first | assumption | refine qset_ne rfl ?_ | refine qset_self (c0 := ?_) ?_ | refine qset_nf (by omega) ?_ | fail) ?_ ?_ | refine wp_b rfl rfl (fun hc => absurd hc (by decide +kernel)) (fun _ => ?_) | refine wp_b rfl rfl (fun _ => ?_) (fun hc => absurd hc (by decide +kernel)) | refine wp_b rfl rfl (fun hc => ?_) (fun hc => ?_) | refine wp_v rfl rfl ?_ | refine ret_t ?_ | refine ret_f ?_ | fail
theorem c_Machine_areWritingArgumentsSole {g : Nat} {ms : List Int64} {A : Nat → Int64} (hg : g < E.2.2.length) (hT : ∀ j, (fTakes (eFun E g)).getD j 0 < 2 ^ 63) (H : MS h sa fa E c F a b M) (hA : h[20]? = some (.inl (1, 8, .inr (.inl A)))) (hm : ∀ k, k < (fTakes (eFun E g)).length → A k = ms.getD k 0) : wp sc (m_Machine_areWritingArgumentsSole, 0, qargs 0 [.ref 13, .ref (fa g)], [], h) (rI (pI (bI (mArgsSole F M (fTakes (eFun E g)) ms)) h)) := by
  have hl := l_argsSole sc h hg hT H hA hm (fTakes (eFun E g)).length 0 (by omega) (fun i hi => absurd hi (Nat.not_lt_zero i))
  obtain ⟨tt, tm, th, dr, rf, wt, q1, q2, e13, e14, e18, e1, ec, S⟩ := MS.f H
  repeat' first | refine wp_Vlp rfl rfl (by repeat' first | assumption | refine qset_ne rfl ?_ | refine qset_self (c0 := ?_) ?_ | refine qset_nf (by omega) ?_ | fail) rfl (c_Machine_live sc h H 2 (by decide)) ?_ | (refine wp_sub hl rfl ⟨rfl, rfl, rfl, rfl, trivial⟩) | refine wp_ist rfl rfl rfl rfl ?_ | refine wp_lst rfl rfl rfl rfl ?_ | refine wp_iinc rfl rfl rfl rfl ?_ | refine wp_f rfl rfl rfl ?_ | refine wp_getf rfl (by repeat' first | assumption | refine qset_ne rfl ?_ | refine qset_self (c0 := ?_) ?_ | refine qset_nf (by omega) ?_ | fail) rfl ?_ | refine wp_ast rfl rfl rfl rfl ?_ | refine wp_asN rfl rfl rfl rfl ?_ | refine wp_putf rfl (by repeat' first | assumption | refine qset_ne rfl ?_ | refine qset_self (c0 := ?_) ?_ | refine qset_nf (by omega) ?_ | fail) (by exact Nat.le_of_ble_eq_true rfl) rfl ?_ | refine wp_iald rfl (by repeat' first | assumption | refine qset_ne rfl ?_ | refine qset_self (c0 := ?_) ?_ | refine qset_nf (by omega) ?_ | fail) ?_ ?_ | refine wp_lald rfl (by repeat' first | assumption | refine qset_ne rfl ?_ | refine qset_self (c0 := ?_) ?_ | refine qset_nf (by omega) ?_ | fail) ?_ ?_ | refine wp_zald rfl (by repeat' first | assumption | refine qset_ne rfl ?_ | refine qset_self (c0 := ?_) ?_ | refine qset_nf (by omega) ?_ | fail) ?_ ?_ | refine wp_iast rfl (by repeat' first | assumption | refine qset_ne rfl ?_ | refine qset_self (c0 := ?_) ?_ | refine qset_nf (by omega) ?_ | fail) ?_ ?_ | refine wp_last rfl (by repeat' first | assumption | refine qset_ne rfl ?_ | refine qset_self (c0 := ?_) ?_ | refine qset_nf (by omega) ?_ | fail) ?_ ?_ | refine wp_alen rfl (by repeat' first | assumption | refine qset_ne rfl ?_ | refine qset_self (c0 := ?_) ?_ | refine qset_nf (by omega) ?_ | fail) rfl ?_ | refine wp_zast rfl (by repeat' first | assumption | refine qset_ne rfl ?_ | refine qset_self (c0 := ?_) ?_ | refine qset_nf (by omega) ?_ | fail) ?_ ?_ | refine wp_b rfl rfl (fun hc => absurd hc (by decide +kernel)) (fun _ => ?_) | refine wp_b rfl rfl (fun _ => ?_) (fun hc => absurd hc (by decide +kernel)) | refine wp_b rfl rfl (fun hc => ?_) (fun hc => ?_) | refine wp_v rfl rfl ?_ | refine ret_t ?_ | refine ret_f ?_ | fail
end P2
