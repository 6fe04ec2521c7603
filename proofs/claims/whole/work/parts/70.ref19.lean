/-! The reference: come. -/
def RTold (h : qH) (F : QF) (S : QS) : Prop := ∃ (cm ht th : Nat → Int32) (po : Nat → Int64) (wi : Nat → Int32),
  h[37]? = some (.inl (3, 257, .inl cm)) ∧ h[39]? = some (.inl (0, 257, .inl ht)) ∧ RTab h th po wi ∧
  (∀ i, i < 256 → cm i = bI (S.1 i).isSome) ∧ (∀ i v, i < 256 → S.2 i = some v → ht i = nI v) ∧
  ∀ i L, i < 256 → S.1 i = some L → ∀ k, k < (fLocs F).length → RAt th po wi (40 * i + k) (L k) ∧ (tref (fTy F k) = false → (L k).getD 0 = 0)
def RTraw (h : qH) : Prop := ∃ (cm ht th : Nat → Int32) (po : Nat → Int64) (wi : Nat → Int32), h[37]? = some (.inl (3, 257, .inl cm)) ∧ h[39]? = some (.inl (0, 257, .inl ht)) ∧ RTab h th po wi
set_option maxHeartbeats 4000000 in
theorem RTold.raw {h : qH} {F : QF} {S : QS} (H : RTold h F S) : RTraw h := by
  obtain ⟨cm, ht, th, po, wi, a1, a2, a3, _⟩ := H
  exact ⟨cm, ht, th, po, wi, a1, a2, a3⟩
set_option maxHeartbeats 4000000 in
theorem RTold.fx {lo hi : Nat} {h h' : qH} {F : QF} {S : QS} (H : RTold h F S) (x : qfx lo hi h h') (hp : hi < 37 ∨ 42 < lo) : RTold h' F S := by
  obtain ⟨cm, ht, th, po, wi, a1, a2, a3, a4⟩ := H
  exact ⟨cm, ht, th, po, wi, x.at (by omega) a1, x.at (by omega) a2, a3.fx x (by omega), a4⟩
set_option maxHeartbeats 4000000 in
theorem tab_put {h : qH} {th : Nat → Int32} {po : Nat → Int64} {wi : Nat → Int32} {a : Nat} {z : Option Int64} (T : RTab h th po wi) {b c : Bool} {x : Int64} (e1 : b = z.isSome) (e2 : x = z.getD 0 &&& lOrg) (e3 : c = lb (z.getD 0) 63) :
    (∃ th' po' wi', RTab (((h.set 40 (.inl (3, 10280, .inl (upd th a (bI b))))).set 41 (.inl (1, 10280, .inr (.inl (vp_updL po a x))))).set 42 (.inl (3, 10280, .inl (upd wi a (bI c))))) th' po' wi' ∧ RAt th' po' wi' a z ∧ ∀ p, p ≠ a → th' p = th p ∧ po' p = po p ∧ wi' p = wi p) ∧
    qfx 40 42 h (((h.set 40 (.inl (3, 10280, .inl (upd th a (bI b))))).set 41 (.inl (1, 10280, .inr (.inl (vp_updL po a x))))).set 42 (.inl (3, 10280, .inl (upd wi a (bI c))))) := by
  obtain ⟨t1, t2, t3⟩ := id T
  have y : qfx 40 42 h (((h.set 40 (.inl (3, 10280, .inl (upd th a (bI b))))).set 41 (.inl (1, 10280, .inr (.inl (vp_updL po a x))))).set 42 (.inl (3, 10280, .inl (upd wi a (bI c))))) := (by repeat' first | exact qfx.rf | refine qfx.sta ?_ (by ((repeat' first | assumption | refine qset_ne rfl ?_ | refine qset_self (c0 := ?_) ?_ | refine qset_nf (by omega) ?_ | fail); done)) (by omega) (by omega) | refine qfx.sto ?_ (by ((repeat' first | assumption | refine qset_ne rfl ?_ | refine qset_self (c0 := ?_) ?_ | refine qset_nf (by omega) ?_ | fail); done)) (by omega) (by omega) | fail)
  refine ⟨⟨_, _, _, ⟨(by ((repeat' first | assumption | refine qset_ne rfl ?_ | refine qset_self (c0 := ?_) ?_ | refine qset_nf (by omega) ?_ | fail); done)), (by ((repeat' first | assumption | refine qset_ne rfl ?_ | refine qset_self (c0 := ?_) ?_ | refine qset_nf (by omega) ?_ | fail); done)), (by ((repeat' first | assumption | refine qset_ne rfl ?_ | refine qset_self (c0 := ?_) ?_ | refine qset_nf (by omega) ?_ | fail); done))⟩, ⟨?_, ?_, ?_⟩, fun p hp => ⟨upd_ne hp, updL_ne hp, upd_ne hp⟩⟩, y⟩
  · rw [upd_at, e1]
  · rw [updL_at, e2]
  · rw [upd_at, e3]
set_option maxHeartbeats 4000000 in
theorem at40 (j k : Nat) : nI 40 * nI j + nI k = nI (40 * j + k) := by rw [pk_mul, nI_add]
section RU1
variable (sc : Nat × (Nat → Int32)) (h : qH) {E : QE} {f : Nat} {sn fd : Int32} {M : QM} {w : Nat} {tv : QV} {S : QS}
set_option maxHeartbeats 4000000 in
theorem d_R_come (H : RSt h E f sn fd M w tv) (h0 : w ≠ 0) (x y : Int32) : wp sc (m_R_come, 0, qargs 0 [.ref 21, .int x, .int y], [], h) (rU fun h' => h' = h) := by
  have hl := H.len
  have e21 := H.1
  unfold rob at e21
  repeat' first | refine wp_ist rfl rfl rfl rfl ?_ | refine wp_lst rfl rfl rfl rfl ?_ | refine wp_iinc rfl rfl rfl rfl ?_ | refine wp_f rfl rfl rfl ?_ | refine wp_getf rfl (by ((repeat' first | assumption | refine qset_ne rfl ?_ | refine qset_self (c0 := ?_) ?_ | refine qset_nf (by omega) ?_ | fail); done)) rfl ?_ | refine wp_ast rfl rfl rfl rfl ?_ | refine wp_asN rfl rfl rfl rfl ?_ | refine wp_putf rfl (by ((repeat' first | assumption | refine qset_ne rfl ?_ | refine qset_self (c0 := ?_) ?_ | refine qset_nf (by omega) ?_ | fail); done)) (by exact Nat.le_of_ble_eq_true rfl) rfl ?_ | refine wp_iald rfl (by ((repeat' first | assumption | refine qset_ne rfl ?_ | refine qset_self (c0 := ?_) ?_ | refine qset_nf (by omega) ?_ | fail); done)) ?_ ?_ | refine wp_lald rfl (by ((repeat' first | assumption | refine qset_ne rfl ?_ | refine qset_self (c0 := ?_) ?_ | refine qset_nf (by omega) ?_ | fail); done)) ?_ ?_ | refine wp_zald rfl (by ((repeat' first | assumption | refine qset_ne rfl ?_ | refine qset_self (c0 := ?_) ?_ | refine qset_nf (by omega) ?_ | fail); done)) ?_ ?_ | refine wp_iast rfl (by ((repeat' first | assumption | refine qset_ne rfl ?_ | refine qset_self (c0 := ?_) ?_ | refine qset_nf (by omega) ?_ | fail); done)) ?_ ?_ | refine wp_last rfl (by ((repeat' first | assumption | refine qset_ne rfl ?_ | refine qset_self (c0 := ?_) ?_ | refine qset_nf (by omega) ?_ | fail); done)) ?_ ?_ | refine wp_alen rfl (by ((repeat' first | assumption | refine qset_ne rfl ?_ | refine qset_self (c0 := ?_) ?_ | refine qset_nf (by omega) ?_ | fail); done)) rfl ?_ | refine wp_zast rfl (by ((repeat' first | assumption | refine qset_ne rfl ?_ | refine qset_self (c0 := ?_) ?_ | refine qset_nf (by omega) ?_ | fail); done)) ?_ ?_ | refine wp_b rfl rfl (fun hc => absurd hc (by decide +kernel)) (fun _ => ?_) | refine wp_b rfl rfl (fun _ => ?_) (fun hc => absurd hc (by decide +kernel)) | refine wp_c2y rfl (by omega) (by omega) (by first | (dsimp only [qn2]; omega) | exact rfl) ?_ | refine wp_c2n rfl (by omega) (by omega) (by dsimp only [qn2]; omega) ?_ | refine wp_c1y rfl (by omega) (by first | exact True.intro | (dsimp only [qn1]; omega)) ?_ | refine wp_c1n rfl (by omega) (by first | exact (fun z => z) | (dsimp only [qn1]; omega)) ?_ | refine wp_b rfl rfl (fun hc => ?_) (fun hc => ?_) | refine wp_v rfl rfl ?_ | refine ret_t ?_ | refine ret_f ?_ | fail
  all_goals rfl
set_option maxHeartbeats 4000000 in
/-- the first coming -/
theorem l_comeA {i j : Nat} (hj : j < 256) {th : Nat → Int32} {po : Nat → Int64} {wi : Nat → Int32} : ∀ m k, m + k = (fLocs (eFun E f)).length → ∀ h1 th1 po1 wi1, RSt h1 E f sn fd M 0 tv → RTab h1 th1 po1 wi1 → (∀ q, q < k → RAt th1 po1 wi1 (40 * j + q) (M.2 q)) → (∀ p, p < 40 * j ∨ 40 * j + 40 ≤ p → th1 p = th p ∧ po1 p = po p ∧ wi1 p = wi p) → qfx 40 42 h h1 →
    wp sc (m_R_come, 38, [(4, .int (nI k)), (3, .int (nI 1)), (2, .int (nI j)), (1, .int (nI i)), (0, .ref 21)], [], h1) (rU fun h' => RSt h' E f sn fd M 0 tv ∧ (∃ th' po' wi', RTab h' th' po' wi' ∧ (∀ q, q < (fLocs (eFun E f)).length → RAt th' po' wi' (40 * j + q) (M.2 q)) ∧ ∀ p, p < 40 * j ∨ 40 * j + 40 ≤ p → th' p = th p ∧ po' p = po p ∧ wi' p = wi p) ∧ qfx 40 42 h h') := by
  intro m
  induction m with
  | zero =>
    intro k hk h1 th1 po1 wi1 H T hq ho x1
    have ek : k = (fLocs (eFun E f)).length := by omega
    subst ek
    have hlo := c_R_locals sc h1 H
    have hl := H.len
    have e21 := H.1
    unfold rob at e21
    repeat' first | refine wp_Vip rfl rfl (by ((repeat' first | assumption | refine qset_ne rfl ?_ | refine qset_self (c0 := ?_) ?_ | refine qset_nf (by omega) ?_ | fail); done)) rfl (hlo) ?_ | refine wp_ist rfl rfl rfl rfl ?_ | refine wp_lst rfl rfl rfl rfl ?_ | refine wp_iinc rfl rfl rfl rfl ?_ | refine wp_f rfl rfl rfl ?_ | refine wp_getf rfl (by ((repeat' first | assumption | refine qset_ne rfl ?_ | refine qset_self (c0 := ?_) ?_ | refine qset_nf (by omega) ?_ | fail); done)) rfl ?_ | refine wp_ast rfl rfl rfl rfl ?_ | refine wp_asN rfl rfl rfl rfl ?_ | refine wp_putf rfl (by ((repeat' first | assumption | refine qset_ne rfl ?_ | refine qset_self (c0 := ?_) ?_ | refine qset_nf (by omega) ?_ | fail); done)) (by exact Nat.le_of_ble_eq_true rfl) rfl ?_ | refine wp_iald rfl (by ((repeat' first | assumption | refine qset_ne rfl ?_ | refine qset_self (c0 := ?_) ?_ | refine qset_nf (by omega) ?_ | fail); done)) ?_ ?_ | refine wp_lald rfl (by ((repeat' first | assumption | refine qset_ne rfl ?_ | refine qset_self (c0 := ?_) ?_ | refine qset_nf (by omega) ?_ | fail); done)) ?_ ?_ | refine wp_zald rfl (by ((repeat' first | assumption | refine qset_ne rfl ?_ | refine qset_self (c0 := ?_) ?_ | refine qset_nf (by omega) ?_ | fail); done)) ?_ ?_ | refine wp_iast rfl (by ((repeat' first | assumption | refine qset_ne rfl ?_ | refine qset_self (c0 := ?_) ?_ | refine qset_nf (by omega) ?_ | fail); done)) ?_ ?_ | refine wp_last rfl (by ((repeat' first | assumption | refine qset_ne rfl ?_ | refine qset_self (c0 := ?_) ?_ | refine qset_nf (by omega) ?_ | fail); done)) ?_ ?_ | refine wp_alen rfl (by ((repeat' first | assumption | refine qset_ne rfl ?_ | refine qset_self (c0 := ?_) ?_ | refine qset_nf (by omega) ?_ | fail); done)) rfl ?_ | refine wp_zast rfl (by ((repeat' first | assumption | refine qset_ne rfl ?_ | refine qset_self (c0 := ?_) ?_ | refine qset_nf (by omega) ?_ | fail); done)) ?_ ?_ | refine wp_b rfl rfl (fun hc => absurd hc (by decide +kernel)) (fun _ => ?_) | refine wp_b rfl rfl (fun _ => ?_) (fun hc => absurd hc (by decide +kernel)) | refine wp_c2y rfl (by omega) (by omega) (by first | (dsimp only [qn2]; omega) | exact rfl) ?_ | refine wp_c2n rfl (by omega) (by omega) (by dsimp only [qn2]; omega) ?_ | refine wp_c1y rfl (by omega) (by first | exact True.intro | (dsimp only [qn1]; omega)) ?_ | refine wp_c1n rfl (by omega) (by first | exact (fun z => z) | (dsimp only [qn1]; omega)) ?_ | refine wp_b rfl rfl (fun hc => ?_) (fun hc => ?_) | refine wp_v rfl rfl ?_ | refine ret_t ?_ | refine ret_f ?_ | fail
    exact ⟨H, ⟨th1, po1, wi1, T, hq, ho⟩, x1⟩
  | succ m ih =>
    intro k hk h1 th1 po1 wi1 H T hq ho x1
    have hlo := c_R_locals sc h1 H
    have hl := H.len
    have e21 := H.1
    unfold rob at e21
    have hkN : k < (fLocs (eFun E f)).length := by omega
    obtain ⟨lt, lp, lw, k1, k2, k3, q1, q2, q3, q4, h40⟩ := H.loc hkN
    obtain ⟨t1, t2, t3⟩ := id T
    have ha : 40 * j + k < 10280 := by omega
    have go : ∀ h2, (∃ th' po' wi', RTab h2 th' po' wi' ∧ RAt th' po' wi' (40 * j + k) (M.2 k) ∧ ∀ p, p ≠ 40 * j + k → th' p = th1 p ∧ po' p = po1 p ∧ wi' p = wi1 p) ∧ qfx 40 42 h1 h2 →
        wp sc (m_R_come, 171, [(4, .int (nI k + Int32.ofInt 1)), (3, .int (nI 1)), (2, .int (nI j)), (1, .int (nI i)), (0, .ref 21)], [], h2) (rU fun h' => RSt h' E f sn fd M 0 tv ∧ (∃ th' po' wi', RTab h' th' po' wi' ∧ (∀ q, q < (fLocs (eFun E f)).length → RAt th' po' wi' (40 * j + q) (M.2 q)) ∧ ∀ p, p < 40 * j ∨ 40 * j + 40 ≤ p → th' p = th p ∧ po' p = po p ∧ wi' p = wi p) ∧ qfx 40 42 h h') := by
      intro h2 ⟨⟨th', po', wi', T2, r2, s2⟩, x2⟩
      refine wp_n rfl rfl ?_
      rw [nI_inc]
      refine wp_sub (ih (k + 1) (by omega) h2 th' po' wi' (H.tb x2 (by omega) (by omega)) T2 (fun q hqk => ?_) (fun p hp => ?_) (x1.tr x2)) rfl ⟨rfl, rfl, rfl, rfl, rfl, trivial⟩
      · by_cases e : q = k
        · rw [e]; exact r2
        · obtain ⟨u1, u2, u3⟩ := s2 (40 * j + q) (by omega)
          obtain ⟨v1, v2, v3⟩ := hq q (by omega)
          exact ⟨u1.trans v1, u2.trans v2, u3.trans v3⟩
      · obtain ⟨u1, u2, u3⟩ := s2 p (by omega)
        obtain ⟨v1, v2, v3⟩ := ho p hp
        exact ⟨u1.trans v1, u2.trans v2, u3.trans v3⟩
    have K : wp sc (m_R_come, 63, [(5, .int (nI (40 * j + k))), (4, .int (nI k)), (3, .int (nI 1)), (2, .int (nI j)), (1, .int (nI i)), (0, .ref 21)], [], h1) (rU fun h' => RSt h' E f sn fd M 0 tv ∧ (∃ th' po' wi', RTab h' th' po' wi' ∧ (∀ q, q < (fLocs (eFun E f)).length → RAt th' po' wi' (40 * j + q) (M.2 q)) ∧ ∀ p, p < 40 * j ∨ 40 * j + 40 ≤ p → th' p = th p ∧ po' p = po p ∧ wi' p = wi p) ∧ qfx 40 42 h h') := by
      cases hM : M.2 k with
      | none =>
        rw [hM] at q1 q2 q3 go
        simp only [Option.isSome_none] at q1
        have g := fun (e1 : false = (none : Option Int64).isSome) => go _ (tab_put (a := 40 * j + k) T (b := false) (c := false) (x := 0) e1 rfl rfl)
        repeat' first | (exact wp_sub (g rfl) rfl ⟨rfl, rfl, rfl, rfl, rfl, trivial⟩) | (refine wp_zB rfl (by ((repeat' first | assumption | refine qset_ne rfl ?_ | refine qset_self (c0 := ?_) ?_ | refine qset_nf (by omega) ?_ | fail); done)) h40 (by decide) q1 ?_) | (refine wp_zS rfl (by ((repeat' first | assumption | refine qset_ne rfl ?_ | refine qset_self (c0 := ?_) ?_ | refine qset_nf (by omega) ?_ | fail); done)) ha (by decide) bIe0 ?_) | (refine wp_zS rfl (by ((repeat' first | assumption | refine qset_ne rfl ?_ | refine qset_self (c0 := ?_) ?_ | refine qset_nf (by omega) ?_ | fail); done)) ha (by decide) rfl ?_) | (refine wp_lS rfl (by ((repeat' first | assumption | refine qset_ne rfl ?_ | refine qset_self (c0 := ?_) ?_ | refine qset_nf (by omega) ?_ | fail); done)) ha (by decide) ?_) | refine wp_ist rfl rfl rfl rfl ?_ | refine wp_lst rfl rfl rfl rfl ?_ | refine wp_iinc rfl rfl rfl rfl ?_ | refine wp_f rfl rfl rfl ?_ | refine wp_getf rfl (by ((repeat' first | assumption | refine qset_ne rfl ?_ | refine qset_self (c0 := ?_) ?_ | refine qset_nf (by omega) ?_ | fail); done)) rfl ?_ | refine wp_ast rfl rfl rfl rfl ?_ | refine wp_asN rfl rfl rfl rfl ?_ | refine wp_putf rfl (by ((repeat' first | assumption | refine qset_ne rfl ?_ | refine qset_self (c0 := ?_) ?_ | refine qset_nf (by omega) ?_ | fail); done)) (by exact Nat.le_of_ble_eq_true rfl) rfl ?_ | refine wp_iald rfl (by ((repeat' first | assumption | refine qset_ne rfl ?_ | refine qset_self (c0 := ?_) ?_ | refine qset_nf (by omega) ?_ | fail); done)) ?_ ?_ | refine wp_lald rfl (by ((repeat' first | assumption | refine qset_ne rfl ?_ | refine qset_self (c0 := ?_) ?_ | refine qset_nf (by omega) ?_ | fail); done)) ?_ ?_ | refine wp_zald rfl (by ((repeat' first | assumption | refine qset_ne rfl ?_ | refine qset_self (c0 := ?_) ?_ | refine qset_nf (by omega) ?_ | fail); done)) ?_ ?_ | refine wp_iast rfl (by ((repeat' first | assumption | refine qset_ne rfl ?_ | refine qset_self (c0 := ?_) ?_ | refine qset_nf (by omega) ?_ | fail); done)) ?_ ?_ | refine wp_last rfl (by ((repeat' first | assumption | refine qset_ne rfl ?_ | refine qset_self (c0 := ?_) ?_ | refine qset_nf (by omega) ?_ | fail); done)) ?_ ?_ | refine wp_alen rfl (by ((repeat' first | assumption | refine qset_ne rfl ?_ | refine qset_self (c0 := ?_) ?_ | refine qset_nf (by omega) ?_ | fail); done)) rfl ?_ | refine wp_zast rfl (by ((repeat' first | assumption | refine qset_ne rfl ?_ | refine qset_self (c0 := ?_) ?_ | refine qset_nf (by omega) ?_ | fail); done)) ?_ ?_ | refine wp_b rfl rfl (fun hc => absurd hc (by decide +kernel)) (fun _ => ?_) | refine wp_b rfl rfl (fun _ => ?_) (fun hc => absurd hc (by decide +kernel)) | refine wp_b rfl rfl (fun hc => ?_) (fun hc => ?_) | refine wp_v rfl rfl ?_ | refine ret_t ?_ | refine ret_f ?_ | fail
      | some z =>
        rw [hM] at q1 q2 q3 go
        simp only [Option.isSome_some, Option.getD_some] at q1 q2 q3
        cases c1 : lb z 63 with
        | true =>
          rw [c1] at q3
          have g := go _ (tab_put (a := 40 * j + k) T (b := true) (c := true) (x := z &&& lOrg) rfl rfl c1.symm)
          repeat' first | (exact wp_sub g rfl ⟨rfl, rfl, rfl, rfl, rfl, trivial⟩) | (refine wp_zB rfl (by ((repeat' first | assumption | refine qset_ne rfl ?_ | refine qset_self (c0 := ?_) ?_ | refine qset_nf (by omega) ?_ | fail); done)) h40 (by decide) (by first | exact q1 | exact q3) ?_) | (refine wp_lB rfl (by ((repeat' first | assumption | refine qset_ne rfl ?_ | refine qset_self (c0 := ?_) ?_ | refine qset_nf (by omega) ?_ | fail); done)) h40 (by decide) q2 ?_) | (refine wp_zS rfl (by ((repeat' first | assumption | refine qset_ne rfl ?_ | refine qset_self (c0 := ?_) ?_ | refine qset_nf (by omega) ?_ | fail); done)) ha (by decide) bIe1 ?_) | (refine wp_zS rfl (by ((repeat' first | assumption | refine qset_ne rfl ?_ | refine qset_self (c0 := ?_) ?_ | refine qset_nf (by omega) ?_ | fail); done)) ha (by decide) rfl ?_) | (refine wp_lS rfl (by ((repeat' first | assumption | refine qset_ne rfl ?_ | refine qset_self (c0 := ?_) ?_ | refine qset_nf (by omega) ?_ | fail); done)) ha (by decide) ?_) | refine wp_ist rfl rfl rfl rfl ?_ | refine wp_lst rfl rfl rfl rfl ?_ | refine wp_iinc rfl rfl rfl rfl ?_ | refine wp_f rfl rfl rfl ?_ | refine wp_getf rfl (by ((repeat' first | assumption | refine qset_ne rfl ?_ | refine qset_self (c0 := ?_) ?_ | refine qset_nf (by omega) ?_ | fail); done)) rfl ?_ | refine wp_ast rfl rfl rfl rfl ?_ | refine wp_asN rfl rfl rfl rfl ?_ | refine wp_putf rfl (by ((repeat' first | assumption | refine qset_ne rfl ?_ | refine qset_self (c0 := ?_) ?_ | refine qset_nf (by omega) ?_ | fail); done)) (by exact Nat.le_of_ble_eq_true rfl) rfl ?_ | refine wp_iald rfl (by ((repeat' first | assumption | refine qset_ne rfl ?_ | refine qset_self (c0 := ?_) ?_ | refine qset_nf (by omega) ?_ | fail); done)) ?_ ?_ | refine wp_lald rfl (by ((repeat' first | assumption | refine qset_ne rfl ?_ | refine qset_self (c0 := ?_) ?_ | refine qset_nf (by omega) ?_ | fail); done)) ?_ ?_ | refine wp_zald rfl (by ((repeat' first | assumption | refine qset_ne rfl ?_ | refine qset_self (c0 := ?_) ?_ | refine qset_nf (by omega) ?_ | fail); done)) ?_ ?_ | refine wp_iast rfl (by ((repeat' first | assumption | refine qset_ne rfl ?_ | refine qset_self (c0 := ?_) ?_ | refine qset_nf (by omega) ?_ | fail); done)) ?_ ?_ | refine wp_last rfl (by ((repeat' first | assumption | refine qset_ne rfl ?_ | refine qset_self (c0 := ?_) ?_ | refine qset_nf (by omega) ?_ | fail); done)) ?_ ?_ | refine wp_alen rfl (by ((repeat' first | assumption | refine qset_ne rfl ?_ | refine qset_self (c0 := ?_) ?_ | refine qset_nf (by omega) ?_ | fail); done)) rfl ?_ | refine wp_zast rfl (by ((repeat' first | assumption | refine qset_ne rfl ?_ | refine qset_self (c0 := ?_) ?_ | refine qset_nf (by omega) ?_ | fail); done)) ?_ ?_ | refine wp_b rfl rfl (fun hc => absurd hc (by decide +kernel)) (fun _ => ?_) | refine wp_b rfl rfl (fun _ => ?_) (fun hc => absurd hc (by decide +kernel)) | refine wp_b rfl rfl (fun hc => ?_) (fun hc => ?_) | refine wp_v rfl rfl ?_ | refine ret_t ?_ | refine ret_f ?_ | fail
        | false =>
          rw [c1] at q3
          have g := go _ (tab_put (a := 40 * j + k) T (b := true) (c := false) (x := z &&& lOrg) rfl rfl c1.symm)
          repeat' first | (exact wp_sub g rfl ⟨rfl, rfl, rfl, rfl, rfl, trivial⟩) | (refine wp_zB rfl (by ((repeat' first | assumption | refine qset_ne rfl ?_ | refine qset_self (c0 := ?_) ?_ | refine qset_nf (by omega) ?_ | fail); done)) h40 (by decide) (by first | exact q1 | exact q3) ?_) | (refine wp_lB rfl (by ((repeat' first | assumption | refine qset_ne rfl ?_ | refine qset_self (c0 := ?_) ?_ | refine qset_nf (by omega) ?_ | fail); done)) h40 (by decide) q2 ?_) | (refine wp_zS rfl (by ((repeat' first | assumption | refine qset_ne rfl ?_ | refine qset_self (c0 := ?_) ?_ | refine qset_nf (by omega) ?_ | fail); done)) ha (by decide) bIe0 ?_) | (refine wp_zS rfl (by ((repeat' first | assumption | refine qset_ne rfl ?_ | refine qset_self (c0 := ?_) ?_ | refine qset_nf (by omega) ?_ | fail); done)) ha (by decide) rfl ?_) | (refine wp_lS rfl (by ((repeat' first | assumption | refine qset_ne rfl ?_ | refine qset_self (c0 := ?_) ?_ | refine qset_nf (by omega) ?_ | fail); done)) ha (by decide) ?_) | refine wp_ist rfl rfl rfl rfl ?_ | refine wp_lst rfl rfl rfl rfl ?_ | refine wp_iinc rfl rfl rfl rfl ?_ | refine wp_f rfl rfl rfl ?_ | refine wp_getf rfl (by ((repeat' first | assumption | refine qset_ne rfl ?_ | refine qset_self (c0 := ?_) ?_ | refine qset_nf (by omega) ?_ | fail); done)) rfl ?_ | refine wp_ast rfl rfl rfl rfl ?_ | refine wp_asN rfl rfl rfl rfl ?_ | refine wp_putf rfl (by ((repeat' first | assumption | refine qset_ne rfl ?_ | refine qset_self (c0 := ?_) ?_ | refine qset_nf (by omega) ?_ | fail); done)) (by exact Nat.le_of_ble_eq_true rfl) rfl ?_ | refine wp_iald rfl (by ((repeat' first | assumption | refine qset_ne rfl ?_ | refine qset_self (c0 := ?_) ?_ | refine qset_nf (by omega) ?_ | fail); done)) ?_ ?_ | refine wp_lald rfl (by ((repeat' first | assumption | refine qset_ne rfl ?_ | refine qset_self (c0 := ?_) ?_ | refine qset_nf (by omega) ?_ | fail); done)) ?_ ?_ | refine wp_zald rfl (by ((repeat' first | assumption | refine qset_ne rfl ?_ | refine qset_self (c0 := ?_) ?_ | refine qset_nf (by omega) ?_ | fail); done)) ?_ ?_ | refine wp_iast rfl (by ((repeat' first | assumption | refine qset_ne rfl ?_ | refine qset_self (c0 := ?_) ?_ | refine qset_nf (by omega) ?_ | fail); done)) ?_ ?_ | refine wp_last rfl (by ((repeat' first | assumption | refine qset_ne rfl ?_ | refine qset_self (c0 := ?_) ?_ | refine qset_nf (by omega) ?_ | fail); done)) ?_ ?_ | refine wp_alen rfl (by ((repeat' first | assumption | refine qset_ne rfl ?_ | refine qset_self (c0 := ?_) ?_ | refine qset_nf (by omega) ?_ | fail); done)) rfl ?_ | refine wp_zast rfl (by ((repeat' first | assumption | refine qset_ne rfl ?_ | refine qset_self (c0 := ?_) ?_ | refine qset_nf (by omega) ?_ | fail); done)) ?_ ?_ | refine wp_b rfl rfl (fun hc => absurd hc (by decide +kernel)) (fun _ => ?_) | refine wp_b rfl rfl (fun _ => ?_) (fun hc => absurd hc (by decide +kernel)) | refine wp_b rfl rfl (fun hc => ?_) (fun hc => ?_) | refine wp_v rfl rfl ?_ | refine ret_t ?_ | refine ret_f ?_ | fail
    rw [← at40] at K
    repeat' first | refine wp_Vip rfl rfl (by ((repeat' first | assumption | refine qset_ne rfl ?_ | refine qset_self (c0 := ?_) ?_ | refine qset_nf (by omega) ?_ | fail); done)) rfl (hlo) ?_ | (exact wp_sub K rfl ⟨rfl, rfl, rfl, rfl, rfl, rfl, trivial⟩) | refine wp_ist rfl rfl rfl rfl ?_ | refine wp_lst rfl rfl rfl rfl ?_ | refine wp_iinc rfl rfl rfl rfl ?_ | refine wp_f rfl rfl rfl ?_ | refine wp_getf rfl (by ((repeat' first | assumption | refine qset_ne rfl ?_ | refine qset_self (c0 := ?_) ?_ | refine qset_nf (by omega) ?_ | fail); done)) rfl ?_ | refine wp_ast rfl rfl rfl rfl ?_ | refine wp_asN rfl rfl rfl rfl ?_ | refine wp_putf rfl (by ((repeat' first | assumption | refine qset_ne rfl ?_ | refine qset_self (c0 := ?_) ?_ | refine qset_nf (by omega) ?_ | fail); done)) (by exact Nat.le_of_ble_eq_true rfl) rfl ?_ | refine wp_iald rfl (by ((repeat' first | assumption | refine qset_ne rfl ?_ | refine qset_self (c0 := ?_) ?_ | refine qset_nf (by omega) ?_ | fail); done)) ?_ ?_ | refine wp_lald rfl (by ((repeat' first | assumption | refine qset_ne rfl ?_ | refine qset_self (c0 := ?_) ?_ | refine qset_nf (by omega) ?_ | fail); done)) ?_ ?_ | refine wp_zald rfl (by ((repeat' first | assumption | refine qset_ne rfl ?_ | refine qset_self (c0 := ?_) ?_ | refine qset_nf (by omega) ?_ | fail); done)) ?_ ?_ | refine wp_iast rfl (by ((repeat' first | assumption | refine qset_ne rfl ?_ | refine qset_self (c0 := ?_) ?_ | refine qset_nf (by omega) ?_ | fail); done)) ?_ ?_ | refine wp_last rfl (by ((repeat' first | assumption | refine qset_ne rfl ?_ | refine qset_self (c0 := ?_) ?_ | refine qset_nf (by omega) ?_ | fail); done)) ?_ ?_ | refine wp_alen rfl (by ((repeat' first | assumption | refine qset_ne rfl ?_ | refine qset_self (c0 := ?_) ?_ | refine qset_nf (by omega) ?_ | fail); done)) rfl ?_ | refine wp_zast rfl (by ((repeat' first | assumption | refine qset_ne rfl ?_ | refine qset_self (c0 := ?_) ?_ | refine qset_nf (by omega) ?_ | fail); done)) ?_ ?_ | refine wp_b rfl rfl (fun hc => absurd hc (by decide +kernel)) (fun _ => ?_) | refine wp_b rfl rfl (fun _ => ?_) (fun hc => absurd hc (by decide +kernel)) | refine wp_c2y rfl (by omega) (by omega) (by first | (dsimp only [qn2]; omega) | exact rfl) ?_ | refine wp_c2n rfl (by omega) (by omega) (by dsimp only [qn2]; omega) ?_ | refine wp_c1y rfl (by omega) (by first | exact True.intro | (dsimp only [qn1]; omega)) ?_ | refine wp_c1n rfl (by omega) (by first | exact (fun z => z) | (dsimp only [qn1]; omega)) ?_ | refine wp_b rfl rfl (fun hc => ?_) (fun hc => ?_) | refine wp_v rfl rfl ?_ | refine ret_t ?_ | refine ret_f ?_ | fail
set_option maxHeartbeats 4000000 in
/-- the loop with a fault -/
theorem d_come {i j k : Nat} {b : Int32} (hk : k ≤ (fLocs (eFun E f)).length) (H : RSt h E f sn fd M w tv) (h0 : w ≠ 0) {Q : qH → Prop} (hQ : Q h) : wp sc (m_R_come, 38, [(4, .int (nI k)), (3, .int b), (2, .int (nI j)), (1, .int (nI i)), (0, .ref 21)], [], h) (rU Q) := by
  have hlo := c_R_locals sc h H
  have hl := H.len
  have e21 := H.1
  unfold rob at e21
  by_cases e : k = (fLocs (eFun E f)).length
  · repeat' first | refine wp_Vip rfl rfl (by ((repeat' first | assumption | refine qset_ne rfl ?_ | refine qset_self (c0 := ?_) ?_ | refine qset_nf (by omega) ?_ | fail); done)) rfl (hlo) ?_ | refine wp_ist rfl rfl rfl rfl ?_ | refine wp_lst rfl rfl rfl rfl ?_ | refine wp_iinc rfl rfl rfl rfl ?_ | refine wp_f rfl rfl rfl ?_ | refine wp_getf rfl (by ((repeat' first | assumption | refine qset_ne rfl ?_ | refine qset_self (c0 := ?_) ?_ | refine qset_nf (by omega) ?_ | fail); done)) rfl ?_ | refine wp_ast rfl rfl rfl rfl ?_ | refine wp_asN rfl rfl rfl rfl ?_ | refine wp_putf rfl (by ((repeat' first | assumption | refine qset_ne rfl ?_ | refine qset_self (c0 := ?_) ?_ | refine qset_nf (by omega) ?_ | fail); done)) (by exact Nat.le_of_ble_eq_true rfl) rfl ?_ | refine wp_iald rfl (by ((repeat' first | assumption | refine qset_ne rfl ?_ | refine qset_self (c0 := ?_) ?_ | refine qset_nf (by omega) ?_ | fail); done)) ?_ ?_ | refine wp_lald rfl (by ((repeat' first | assumption | refine qset_ne rfl ?_ | refine qset_self (c0 := ?_) ?_ | refine qset_nf (by omega) ?_ | fail); done)) ?_ ?_ | refine wp_zald rfl (by ((repeat' first | assumption | refine qset_ne rfl ?_ | refine qset_self (c0 := ?_) ?_ | refine qset_nf (by omega) ?_ | fail); done)) ?_ ?_ | refine wp_iast rfl (by ((repeat' first | assumption | refine qset_ne rfl ?_ | refine qset_self (c0 := ?_) ?_ | refine qset_nf (by omega) ?_ | fail); done)) ?_ ?_ | refine wp_last rfl (by ((repeat' first | assumption | refine qset_ne rfl ?_ | refine qset_self (c0 := ?_) ?_ | refine qset_nf (by omega) ?_ | fail); done)) ?_ ?_ | refine wp_alen rfl (by ((repeat' first | assumption | refine qset_ne rfl ?_ | refine qset_self (c0 := ?_) ?_ | refine qset_nf (by omega) ?_ | fail); done)) rfl ?_ | refine wp_zast rfl (by ((repeat' first | assumption | refine qset_ne rfl ?_ | refine qset_self (c0 := ?_) ?_ | refine qset_nf (by omega) ?_ | fail); done)) ?_ ?_ | refine wp_b rfl rfl (fun hc => absurd hc (by decide +kernel)) (fun _ => ?_) | refine wp_b rfl rfl (fun _ => ?_) (fun hc => absurd hc (by decide +kernel)) | refine wp_c2y rfl (by omega) (by omega) (by first | (dsimp only [qn2]; omega) | exact rfl) ?_ | refine wp_c2n rfl (by omega) (by omega) (by dsimp only [qn2]; omega) ?_ | refine wp_c1y rfl (by omega) (by first | exact True.intro | (dsimp only [qn1]; omega)) ?_ | refine wp_c1n rfl (by omega) (by first | exact (fun z => z) | (dsimp only [qn1]; omega)) ?_ | refine wp_b rfl rfl (fun hc => ?_) (fun hc => ?_) | refine wp_v rfl rfl ?_ | refine ret_t ?_ | refine ret_f ?_ | fail
    all_goals exact hQ
  · repeat' first | refine wp_Vip rfl rfl (by ((repeat' first | assumption | refine qset_ne rfl ?_ | refine qset_self (c0 := ?_) ?_ | refine qset_nf (by omega) ?_ | fail); done)) rfl (hlo) ?_ | refine wp_ist rfl rfl rfl rfl ?_ | refine wp_lst rfl rfl rfl rfl ?_ | refine wp_iinc rfl rfl rfl rfl ?_ | refine wp_f rfl rfl rfl ?_ | refine wp_getf rfl (by ((repeat' first | assumption | refine qset_ne rfl ?_ | refine qset_self (c0 := ?_) ?_ | refine qset_nf (by omega) ?_ | fail); done)) rfl ?_ | refine wp_ast rfl rfl rfl rfl ?_ | refine wp_asN rfl rfl rfl rfl ?_ | refine wp_putf rfl (by ((repeat' first | assumption | refine qset_ne rfl ?_ | refine qset_self (c0 := ?_) ?_ | refine qset_nf (by omega) ?_ | fail); done)) (by exact Nat.le_of_ble_eq_true rfl) rfl ?_ | refine wp_iald rfl (by ((repeat' first | assumption | refine qset_ne rfl ?_ | refine qset_self (c0 := ?_) ?_ | refine qset_nf (by omega) ?_ | fail); done)) ?_ ?_ | refine wp_lald rfl (by ((repeat' first | assumption | refine qset_ne rfl ?_ | refine qset_self (c0 := ?_) ?_ | refine qset_nf (by omega) ?_ | fail); done)) ?_ ?_ | refine wp_zald rfl (by ((repeat' first | assumption | refine qset_ne rfl ?_ | refine qset_self (c0 := ?_) ?_ | refine qset_nf (by omega) ?_ | fail); done)) ?_ ?_ | refine wp_iast rfl (by ((repeat' first | assumption | refine qset_ne rfl ?_ | refine qset_self (c0 := ?_) ?_ | refine qset_nf (by omega) ?_ | fail); done)) ?_ ?_ | refine wp_last rfl (by ((repeat' first | assumption | refine qset_ne rfl ?_ | refine qset_self (c0 := ?_) ?_ | refine qset_nf (by omega) ?_ | fail); done)) ?_ ?_ | refine wp_alen rfl (by ((repeat' first | assumption | refine qset_ne rfl ?_ | refine qset_self (c0 := ?_) ?_ | refine qset_nf (by omega) ?_ | fail); done)) rfl ?_ | refine wp_zast rfl (by ((repeat' first | assumption | refine qset_ne rfl ?_ | refine qset_self (c0 := ?_) ?_ | refine qset_nf (by omega) ?_ | fail); done)) ?_ ?_ | refine wp_b rfl rfl (fun hc => absurd hc (by decide +kernel)) (fun _ => ?_) | refine wp_b rfl rfl (fun _ => ?_) (fun hc => absurd hc (by decide +kernel)) | refine wp_c2y rfl (by omega) (by omega) (by first | (dsimp only [qn2]; omega) | exact rfl) ?_ | refine wp_c2n rfl (by omega) (by omega) (by dsimp only [qn2]; omega) ?_ | refine wp_c1y rfl (by omega) (by first | exact True.intro | (dsimp only [qn1]; omega)) ?_ | refine wp_c1n rfl (by omega) (by first | exact (fun z => z) | (dsimp only [qn1]; omega)) ?_ | refine wp_b rfl rfl (fun hc => ?_) (fun hc => ?_) | refine wp_v rfl rfl ?_ | refine ret_t ?_ | refine ret_f ?_ | fail
    all_goals exact hQ
set_option maxHeartbeats 4000000 in
/-- a later coming, from before -/
theorem l_comeB {i j : Nat} (hi : i < j) (hj : j < 256) {L : Nat → Option Int64} {th : Nat → Int32} {po : Nat → Int64} {wi : Nat → Int32} : ∀ m k, m + k = (fLocs (eFun E f)).length → ∀ h1 th1 po1 wi1, RSt h1 E f sn fd M 0 tv → RTab h1 th1 po1 wi1 → (∀ q, q < k → RAt th1 po1 wi1 (40 * j + q) (mt1 (L q) (M.2 q))) → (∀ q, k ≤ q → q < (fLocs (eFun E f)).length → RAt th1 po1 wi1 (40 * j + q) (L q)) →
    (∀ p, p < 40 * j ∨ 40 * j + 40 ≤ p → th1 p = th p ∧ po1 p = po p ∧ wi1 p = wi p) → qft h h1 → h1[37]? = h[37]? → h1[39]? = h[39]? → (∀ q, q < k → okMeet E (fTy (eFun E f) q) (L q) (M.2 q) = true) →
    wp sc (m_R_come, 38, [(4, .int (nI k)), (3, .int (nI 0)), (2, .int (nI j)), (1, .int (nI i)), (0, .ref 21)], [], h1) (rU fun h' => RSt h' E f sn fd M (if cDrops E (eFun E f) L M.2 = true then 0 else 9) tv ∧ (∃ th' po' wi', RTab h' th' po' wi' ∧ (cDrops E (eFun E f) L M.2 = true → ∀ q, q < (fLocs (eFun E f)).length → RAt th' po' wi' (40 * j + q) (mt1 (L q) (M.2 q))) ∧ ∀ p, p < 40 * j ∨ 40 * j + 40 ≤ p → th' p = th p ∧ po' p = po p ∧ wi' p = wi p) ∧ qft h h' ∧ h'[37]? = h[37]? ∧ h'[39]? = h[39]?) := by
  intro m
  induction m with
  | zero =>
    intro k hk h1 th1 po1 wi1 H T hq hr ho x1 y1 y2 hok
    have ek : k = (fLocs (eFun E f)).length := by omega
    subst ek
    have hlo := c_R_locals sc h1 H
    have hl := H.len
    have e21 := H.1
    unfold rob at e21
    have e : cDrops E (eFun E f) L M.2 = true := by
      unfold cDrops
      rw [List.all_eq_true]
      intro q hq
      exact hok q (List.mem_range.mp hq)
    rw [e]
    repeat' first | refine wp_Vip rfl rfl (by ((repeat' first | assumption | refine qset_ne rfl ?_ | refine qset_self (c0 := ?_) ?_ | refine qset_nf (by omega) ?_ | fail); done)) rfl (hlo) ?_ | refine wp_ist rfl rfl rfl rfl ?_ | refine wp_lst rfl rfl rfl rfl ?_ | refine wp_iinc rfl rfl rfl rfl ?_ | refine wp_f rfl rfl rfl ?_ | refine wp_getf rfl (by ((repeat' first | assumption | refine qset_ne rfl ?_ | refine qset_self (c0 := ?_) ?_ | refine qset_nf (by omega) ?_ | fail); done)) rfl ?_ | refine wp_ast rfl rfl rfl rfl ?_ | refine wp_asN rfl rfl rfl rfl ?_ | refine wp_putf rfl (by ((repeat' first | assumption | refine qset_ne rfl ?_ | refine qset_self (c0 := ?_) ?_ | refine qset_nf (by omega) ?_ | fail); done)) (by exact Nat.le_of_ble_eq_true rfl) rfl ?_ | refine wp_iald rfl (by ((repeat' first | assumption | refine qset_ne rfl ?_ | refine qset_self (c0 := ?_) ?_ | refine qset_nf (by omega) ?_ | fail); done)) ?_ ?_ | refine wp_lald rfl (by ((repeat' first | assumption | refine qset_ne rfl ?_ | refine qset_self (c0 := ?_) ?_ | refine qset_nf (by omega) ?_ | fail); done)) ?_ ?_ | refine wp_zald rfl (by ((repeat' first | assumption | refine qset_ne rfl ?_ | refine qset_self (c0 := ?_) ?_ | refine qset_nf (by omega) ?_ | fail); done)) ?_ ?_ | refine wp_iast rfl (by ((repeat' first | assumption | refine qset_ne rfl ?_ | refine qset_self (c0 := ?_) ?_ | refine qset_nf (by omega) ?_ | fail); done)) ?_ ?_ | refine wp_last rfl (by ((repeat' first | assumption | refine qset_ne rfl ?_ | refine qset_self (c0 := ?_) ?_ | refine qset_nf (by omega) ?_ | fail); done)) ?_ ?_ | refine wp_alen rfl (by ((repeat' first | assumption | refine qset_ne rfl ?_ | refine qset_self (c0 := ?_) ?_ | refine qset_nf (by omega) ?_ | fail); done)) rfl ?_ | refine wp_zast rfl (by ((repeat' first | assumption | refine qset_ne rfl ?_ | refine qset_self (c0 := ?_) ?_ | refine qset_nf (by omega) ?_ | fail); done)) ?_ ?_ | refine wp_b rfl rfl (fun hc => absurd hc (by decide +kernel)) (fun _ => ?_) | refine wp_b rfl rfl (fun _ => ?_) (fun hc => absurd hc (by decide +kernel)) | refine wp_c2y rfl (by omega) (by omega) (by first | (dsimp only [qn2]; omega) | exact rfl) ?_ | refine wp_c2n rfl (by omega) (by omega) (by dsimp only [qn2]; omega) ?_ | refine wp_c1y rfl (by omega) (by first | exact True.intro | (dsimp only [qn1]; omega)) ?_ | refine wp_c1n rfl (by omega) (by first | exact (fun z => z) | (dsimp only [qn1]; omega)) ?_ | refine wp_b rfl rfl (fun hc => ?_) (fun hc => ?_) | refine wp_v rfl rfl ?_ | refine ret_t ?_ | refine ret_f ?_ | fail
    exact ⟨H, ⟨th1, po1, wi1, T, fun _ => hq, ho⟩, x1, y1, y2⟩
  | succ m ih =>
    intro k hk h1 th1 po1 wi1 H T hq hr ho x1 y1 y2 hok
    have hlo := c_R_locals sc h1 H
    have hl := H.len
    have e21 := H.1
    unfold rob at e21
    have hkN : k < (fLocs (eFun E f)).length := by omega
    have ha : 40 * j + k < 10280 := by omega
    have hm := c_R_meet sc h1 ha hkN T (hr k (Nat.le_refl _) hkN) H
    have K : wp sc (m_R_come, 63, [(5, .int (nI (40 * j + k))), (4, .int (nI k)), (3, .int (nI 0)), (2, .int (nI j)), (1, .int (nI i)), (0, .ref 21)], [], h1) (rU fun h' => RSt h' E f sn fd M (if cDrops E (eFun E f) L M.2 = true then 0 else 9) tv ∧ (∃ th' po' wi', RTab h' th' po' wi' ∧ (cDrops E (eFun E f) L M.2 = true → ∀ q, q < (fLocs (eFun E f)).length → RAt th' po' wi' (40 * j + q) (mt1 (L q) (M.2 q))) ∧ ∀ p, p < 40 * j ∨ 40 * j + 40 ≤ p → th' p = th p ∧ po' p = po p ∧ wi' p = wi p) ∧ qft h h' ∧ h'[37]? = h[37]? ∧ h'[39]? = h[39]?) := by
      repeat' first | refine wp_Vu rfl rfl (by ((repeat' first | assumption | refine qset_ne rfl ?_ | refine qset_self (c0 := ?_) ?_ | refine qset_nf (by omega) ?_ | fail); done)) rfl (hm) (fun h2 Pq => ?_) | refine wp_ist rfl rfl rfl rfl ?_ | refine wp_lst rfl rfl rfl rfl ?_ | refine wp_iinc rfl rfl rfl rfl ?_ | refine wp_f rfl rfl rfl ?_ | refine wp_getf rfl (by ((repeat' first | assumption | refine qset_ne rfl ?_ | refine qset_self (c0 := ?_) ?_ | refine qset_nf (by omega) ?_ | fail); done)) rfl ?_ | refine wp_ast rfl rfl rfl rfl ?_ | refine wp_asN rfl rfl rfl rfl ?_ | refine wp_putf rfl (by ((repeat' first | assumption | refine qset_ne rfl ?_ | refine qset_self (c0 := ?_) ?_ | refine qset_nf (by omega) ?_ | fail); done)) (by exact Nat.le_of_ble_eq_true rfl) rfl ?_ | refine wp_iald rfl (by ((repeat' first | assumption | refine qset_ne rfl ?_ | refine qset_self (c0 := ?_) ?_ | refine qset_nf (by omega) ?_ | fail); done)) ?_ ?_ | refine wp_lald rfl (by ((repeat' first | assumption | refine qset_ne rfl ?_ | refine qset_self (c0 := ?_) ?_ | refine qset_nf (by omega) ?_ | fail); done)) ?_ ?_ | refine wp_zald rfl (by ((repeat' first | assumption | refine qset_ne rfl ?_ | refine qset_self (c0 := ?_) ?_ | refine qset_nf (by omega) ?_ | fail); done)) ?_ ?_ | refine wp_iast rfl (by ((repeat' first | assumption | refine qset_ne rfl ?_ | refine qset_self (c0 := ?_) ?_ | refine qset_nf (by omega) ?_ | fail); done)) ?_ ?_ | refine wp_last rfl (by ((repeat' first | assumption | refine qset_ne rfl ?_ | refine qset_self (c0 := ?_) ?_ | refine qset_nf (by omega) ?_ | fail); done)) ?_ ?_ | refine wp_alen rfl (by ((repeat' first | assumption | refine qset_ne rfl ?_ | refine qset_self (c0 := ?_) ?_ | refine qset_nf (by omega) ?_ | fail); done)) rfl ?_ | refine wp_zast rfl (by ((repeat' first | assumption | refine qset_ne rfl ?_ | refine qset_self (c0 := ?_) ?_ | refine qset_nf (by omega) ?_ | fail); done)) ?_ ?_ | refine wp_b rfl rfl (fun hc => absurd hc (by decide +kernel)) (fun _ => ?_) | refine wp_b rfl rfl (fun _ => ?_) (fun hc => absurd hc (by decide +kernel)) | refine wp_c2y rfl (by omega) (by omega) (by first | (dsimp only [qn2]; omega) | exact rfl) ?_ | refine wp_c2n rfl (by omega) (by omega) (by dsimp only [qn2]; omega) ?_ | refine wp_c1y rfl (by omega) (by first | exact True.intro | (dsimp only [qn1]; omega)) ?_ | refine wp_c1n rfl (by omega) (by first | exact (fun z => z) | (dsimp only [qn1]; omega)) ?_ | refine wp_b rfl rfl (fun hc => ?_) (fun hc => ?_) | refine wp_v rfl rfl ?_ | refine ret_t ?_ | refine ret_f ?_ | fail
      obtain ⟨⟨th', po', wi', T2, r2, s2⟩, H2, h3, x2, x3⟩ := Pq
      have x4 : qft h h2 := x1.tr ((qft.fx x2 (Or.inl ⟨rfl, rfl⟩)).tr (qft.fx x3 (by omega)))
      have z1 : h2[37]? = h[37]? := by rw [x3.2.2 _ (by omega), x2.2.2 _ (by omega)]; exact y1
      have z2 : h2[39]? = h[39]? := by rw [x3.2.2 _ (by omega), x2.2.2 _ (by omega)]; exact y2
      have so : ∀ p, p < 40 * j ∨ 40 * j + 40 ≤ p → th' p = th p ∧ po' p = po p ∧ wi' p = wi p := fun p hp => by
        obtain ⟨u1, u2, u3⟩ := s2 p (by omega)
        obtain ⟨v1, v2, v3⟩ := ho p hp
        exact ⟨u1.trans v1, u2.trans v2, u3.trans v3⟩
      refine wp_n rfl rfl ?_
      rw [nI_inc]
      by_cases g : okMeet E (fTy (eFun E f) k) (L k) (M.2 k) = true
      · rw [if_pos g] at H2
        refine wp_sub (ih (k + 1) (by omega) h2 th' po' wi' H2 T2 (fun q hqk => ?_) (fun q h1 h2 => ?_) so x4 z1 z2 (fun q hqk => ?_)) rfl ⟨rfl, rfl, rfl, rfl, rfl, trivial⟩
        · by_cases e : q = k
          · rw [e]; exact r2
          · obtain ⟨u1, u2, u3⟩ := s2 (40 * j + q) (by omega)
            obtain ⟨v1, v2, v3⟩ := hq q (by omega)
            exact ⟨u1.trans v1, u2.trans v2, u3.trans v3⟩
        · obtain ⟨u1, u2, u3⟩ := s2 (40 * j + q) (by omega)
          obtain ⟨v1, v2, v3⟩ := hr q (by omega) h2
          exact ⟨u1.trans v1, u2.trans v2, u3.trans v3⟩
        · by_cases e : q = k
          · rw [e]; exact g
          · exact hok q (by omega)
      · rw [if_neg g] at H2
        have e : cDrops E (eFun E f) L M.2 = false := by
          unfold cDrops
          rw [List.all_eq_false]
          exact ⟨k, List.mem_range.mpr hkN, g⟩
        refine wp_sub (d_come sc h2 (k := k + 1) (by omega) H2 (by decide) ?_) rfl ⟨rfl, rfl, rfl, rfl, rfl, trivial⟩
        rw [e]
        exact ⟨H2, ⟨th', po', wi', T2, fun z => absurd z (by decide), so⟩, x4, z1, z2⟩
    rw [← at40] at K
    repeat' first | refine wp_Vip rfl rfl (by ((repeat' first | assumption | refine qset_ne rfl ?_ | refine qset_self (c0 := ?_) ?_ | refine qset_nf (by omega) ?_ | fail); done)) rfl (hlo) ?_ | (exact wp_sub K rfl ⟨rfl, rfl, rfl, rfl, rfl, rfl, trivial⟩) | refine wp_ist rfl rfl rfl rfl ?_ | refine wp_lst rfl rfl rfl rfl ?_ | refine wp_iinc rfl rfl rfl rfl ?_ | refine wp_f rfl rfl rfl ?_ | refine wp_getf rfl (by ((repeat' first | assumption | refine qset_ne rfl ?_ | refine qset_self (c0 := ?_) ?_ | refine qset_nf (by omega) ?_ | fail); done)) rfl ?_ | refine wp_ast rfl rfl rfl rfl ?_ | refine wp_asN rfl rfl rfl rfl ?_ | refine wp_putf rfl (by ((repeat' first | assumption | refine qset_ne rfl ?_ | refine qset_self (c0 := ?_) ?_ | refine qset_nf (by omega) ?_ | fail); done)) (by exact Nat.le_of_ble_eq_true rfl) rfl ?_ | refine wp_iald rfl (by ((repeat' first | assumption | refine qset_ne rfl ?_ | refine qset_self (c0 := ?_) ?_ | refine qset_nf (by omega) ?_ | fail); done)) ?_ ?_ | refine wp_lald rfl (by ((repeat' first | assumption | refine qset_ne rfl ?_ | refine qset_self (c0 := ?_) ?_ | refine qset_nf (by omega) ?_ | fail); done)) ?_ ?_ | refine wp_zald rfl (by ((repeat' first | assumption | refine qset_ne rfl ?_ | refine qset_self (c0 := ?_) ?_ | refine qset_nf (by omega) ?_ | fail); done)) ?_ ?_ | refine wp_iast rfl (by ((repeat' first | assumption | refine qset_ne rfl ?_ | refine qset_self (c0 := ?_) ?_ | refine qset_nf (by omega) ?_ | fail); done)) ?_ ?_ | refine wp_last rfl (by ((repeat' first | assumption | refine qset_ne rfl ?_ | refine qset_self (c0 := ?_) ?_ | refine qset_nf (by omega) ?_ | fail); done)) ?_ ?_ | refine wp_alen rfl (by ((repeat' first | assumption | refine qset_ne rfl ?_ | refine qset_self (c0 := ?_) ?_ | refine qset_nf (by omega) ?_ | fail); done)) rfl ?_ | refine wp_zast rfl (by ((repeat' first | assumption | refine qset_ne rfl ?_ | refine qset_self (c0 := ?_) ?_ | refine qset_nf (by omega) ?_ | fail); done)) ?_ ?_ | refine wp_b rfl rfl (fun hc => absurd hc (by decide +kernel)) (fun _ => ?_) | refine wp_b rfl rfl (fun _ => ?_) (fun hc => absurd hc (by decide +kernel)) | refine wp_c2y rfl (by omega) (by omega) (by first | (dsimp only [qn2]; omega) | exact rfl) ?_ | refine wp_c2n rfl (by omega) (by omega) (by dsimp only [qn2]; omega) ?_ | refine wp_c1y rfl (by omega) (by first | exact True.intro | (dsimp only [qn1]; omega)) ?_ | refine wp_c1n rfl (by omega) (by first | exact (fun z => z) | (dsimp only [qn1]; omega)) ?_ | refine wp_b rfl rfl (fun hc => ?_) (fun hc => ?_) | refine wp_v rfl rfl ?_ | refine ret_t ?_ | refine ret_f ?_ | fail
set_option maxHeartbeats 4000000 in
/-- coming back -/
theorem l_comeC {i j : Nat} (hi : j ≤ i) (hj : i < 256) {L : Nat → Option Int64} {th : Nat → Int32} {po : Nat → Int64} {wi : Nat → Int32} (hr : ∀ q, q < (fLocs (eFun E f)).length → RAt th po wi (40 * j + q) (L q)) : ∀ m k, m + k = (fLocs (eFun E f)).length → ∀ h1, RSt h1 E f sn fd M 0 tv → RTab h1 th po wi → qfx 21 21 h h1 → (∀ q, q < k → okBack E (fTy (eFun E f) q) (L q) (M.2 q) = true) →
    wp sc (m_R_come, 38, [(4, .int (nI k)), (3, .int (nI 0)), (2, .int (nI j)), (1, .int (nI i)), (0, .ref 21)], [], h1) (rU fun h' => RSt h' E f sn fd M (if cFits E (eFun E f) L M.2 = true then 0 else 9) tv ∧ qfx 21 21 h h') := by
  intro m
  induction m with
  | zero =>
    intro k hk h1 H T x1 hok
    have ek : k = (fLocs (eFun E f)).length := by omega
    subst ek
    have hlo := c_R_locals sc h1 H
    have hl := H.len
    have e21 := H.1
    unfold rob at e21
    have e : cFits E (eFun E f) L M.2 = true := by
      unfold cFits
      rw [List.all_eq_true]
      intro q hq
      exact hok q (List.mem_range.mp hq)
    rw [e]
    repeat' first | refine wp_Vip rfl rfl (by ((repeat' first | assumption | refine qset_ne rfl ?_ | refine qset_self (c0 := ?_) ?_ | refine qset_nf (by omega) ?_ | fail); done)) rfl (hlo) ?_ | refine wp_ist rfl rfl rfl rfl ?_ | refine wp_lst rfl rfl rfl rfl ?_ | refine wp_iinc rfl rfl rfl rfl ?_ | refine wp_f rfl rfl rfl ?_ | refine wp_getf rfl (by ((repeat' first | assumption | refine qset_ne rfl ?_ | refine qset_self (c0 := ?_) ?_ | refine qset_nf (by omega) ?_ | fail); done)) rfl ?_ | refine wp_ast rfl rfl rfl rfl ?_ | refine wp_asN rfl rfl rfl rfl ?_ | refine wp_putf rfl (by ((repeat' first | assumption | refine qset_ne rfl ?_ | refine qset_self (c0 := ?_) ?_ | refine qset_nf (by omega) ?_ | fail); done)) (by exact Nat.le_of_ble_eq_true rfl) rfl ?_ | refine wp_iald rfl (by ((repeat' first | assumption | refine qset_ne rfl ?_ | refine qset_self (c0 := ?_) ?_ | refine qset_nf (by omega) ?_ | fail); done)) ?_ ?_ | refine wp_lald rfl (by ((repeat' first | assumption | refine qset_ne rfl ?_ | refine qset_self (c0 := ?_) ?_ | refine qset_nf (by omega) ?_ | fail); done)) ?_ ?_ | refine wp_zald rfl (by ((repeat' first | assumption | refine qset_ne rfl ?_ | refine qset_self (c0 := ?_) ?_ | refine qset_nf (by omega) ?_ | fail); done)) ?_ ?_ | refine wp_iast rfl (by ((repeat' first | assumption | refine qset_ne rfl ?_ | refine qset_self (c0 := ?_) ?_ | refine qset_nf (by omega) ?_ | fail); done)) ?_ ?_ | refine wp_last rfl (by ((repeat' first | assumption | refine qset_ne rfl ?_ | refine qset_self (c0 := ?_) ?_ | refine qset_nf (by omega) ?_ | fail); done)) ?_ ?_ | refine wp_alen rfl (by ((repeat' first | assumption | refine qset_ne rfl ?_ | refine qset_self (c0 := ?_) ?_ | refine qset_nf (by omega) ?_ | fail); done)) rfl ?_ | refine wp_zast rfl (by ((repeat' first | assumption | refine qset_ne rfl ?_ | refine qset_self (c0 := ?_) ?_ | refine qset_nf (by omega) ?_ | fail); done)) ?_ ?_ | refine wp_b rfl rfl (fun hc => absurd hc (by decide +kernel)) (fun _ => ?_) | refine wp_b rfl rfl (fun _ => ?_) (fun hc => absurd hc (by decide +kernel)) | refine wp_c2y rfl (by omega) (by omega) (by first | (dsimp only [qn2]; omega) | exact rfl) ?_ | refine wp_c2n rfl (by omega) (by omega) (by dsimp only [qn2]; omega) ?_ | refine wp_c1y rfl (by omega) (by first | exact True.intro | (dsimp only [qn1]; omega)) ?_ | refine wp_c1n rfl (by omega) (by first | exact (fun z => z) | (dsimp only [qn1]; omega)) ?_ | refine wp_b rfl rfl (fun hc => ?_) (fun hc => ?_) | refine wp_v rfl rfl ?_ | refine ret_t ?_ | refine ret_f ?_ | fail
    exact ⟨H, x1⟩
  | succ m ih =>
    intro k hk h1 H T x1 hok
    have hlo := c_R_locals sc h1 H
    have hl := H.len
    have e21 := H.1
    unfold rob at e21
    have hkN : k < (fLocs (eFun E f)).length := by omega
    have ha : 40 * j + k < 10280 := by omega
    have hm := c_R_back sc h1 ha hkN T (hr k hkN) H
    have K : wp sc (m_R_come, 63, [(5, .int (nI (40 * j + k))), (4, .int (nI k)), (3, .int (nI 0)), (2, .int (nI j)), (1, .int (nI i)), (0, .ref 21)], [], h1) (rU fun h' => RSt h' E f sn fd M (if cFits E (eFun E f) L M.2 = true then 0 else 9) tv ∧ qfx 21 21 h h') := by
      repeat' first | refine wp_Vu rfl rfl (by ((repeat' first | assumption | refine qset_ne rfl ?_ | refine qset_self (c0 := ?_) ?_ | refine qset_nf (by omega) ?_ | fail); done)) rfl (hm) (fun h2 Pq => ?_) | refine wp_ist rfl rfl rfl rfl ?_ | refine wp_lst rfl rfl rfl rfl ?_ | refine wp_iinc rfl rfl rfl rfl ?_ | refine wp_f rfl rfl rfl ?_ | refine wp_getf rfl (by ((repeat' first | assumption | refine qset_ne rfl ?_ | refine qset_self (c0 := ?_) ?_ | refine qset_nf (by omega) ?_ | fail); done)) rfl ?_ | refine wp_ast rfl rfl rfl rfl ?_ | refine wp_asN rfl rfl rfl rfl ?_ | refine wp_putf rfl (by ((repeat' first | assumption | refine qset_ne rfl ?_ | refine qset_self (c0 := ?_) ?_ | refine qset_nf (by omega) ?_ | fail); done)) (by exact Nat.le_of_ble_eq_true rfl) rfl ?_ | refine wp_iald rfl (by ((repeat' first | assumption | refine qset_ne rfl ?_ | refine qset_self (c0 := ?_) ?_ | refine qset_nf (by omega) ?_ | fail); done)) ?_ ?_ | refine wp_lald rfl (by ((repeat' first | assumption | refine qset_ne rfl ?_ | refine qset_self (c0 := ?_) ?_ | refine qset_nf (by omega) ?_ | fail); done)) ?_ ?_ | refine wp_zald rfl (by ((repeat' first | assumption | refine qset_ne rfl ?_ | refine qset_self (c0 := ?_) ?_ | refine qset_nf (by omega) ?_ | fail); done)) ?_ ?_ | refine wp_iast rfl (by ((repeat' first | assumption | refine qset_ne rfl ?_ | refine qset_self (c0 := ?_) ?_ | refine qset_nf (by omega) ?_ | fail); done)) ?_ ?_ | refine wp_last rfl (by ((repeat' first | assumption | refine qset_ne rfl ?_ | refine qset_self (c0 := ?_) ?_ | refine qset_nf (by omega) ?_ | fail); done)) ?_ ?_ | refine wp_alen rfl (by ((repeat' first | assumption | refine qset_ne rfl ?_ | refine qset_self (c0 := ?_) ?_ | refine qset_nf (by omega) ?_ | fail); done)) rfl ?_ | refine wp_zast rfl (by ((repeat' first | assumption | refine qset_ne rfl ?_ | refine qset_self (c0 := ?_) ?_ | refine qset_nf (by omega) ?_ | fail); done)) ?_ ?_ | refine wp_b rfl rfl (fun hc => absurd hc (by decide +kernel)) (fun _ => ?_) | refine wp_b rfl rfl (fun _ => ?_) (fun hc => absurd hc (by decide +kernel)) | refine wp_c2y rfl (by omega) (by omega) (by first | (dsimp only [qn2]; omega) | exact rfl) ?_ | refine wp_c2n rfl (by omega) (by omega) (by dsimp only [qn2]; omega) ?_ | refine wp_c1y rfl (by omega) (by first | exact True.intro | (dsimp only [qn1]; omega)) ?_ | refine wp_c1n rfl (by omega) (by first | exact (fun z => z) | (dsimp only [qn1]; omega)) ?_ | refine wp_b rfl rfl (fun hc => ?_) (fun hc => ?_) | refine wp_v rfl rfl ?_ | refine ret_t ?_ | refine ret_f ?_ | fail
      obtain ⟨H2, x2⟩ := Pq
      refine wp_n rfl rfl ?_
      rw [nI_inc]
      by_cases g : okBack E (fTy (eFun E f) k) (L k) (M.2 k) = true
      · rw [if_pos g] at H2
        refine wp_sub (ih (k + 1) (by omega) h2 H2 (T.fx x2 (by omega)) (x1.tr x2) (fun q hqk => ?_)) rfl ⟨rfl, rfl, rfl, rfl, rfl, trivial⟩
        by_cases e : q = k
        · rw [e]; exact g
        · exact hok q (by omega)
      · rw [if_neg g] at H2
        have e : cFits E (eFun E f) L M.2 = false := by
          unfold cFits
          rw [List.all_eq_false]
          exact ⟨k, List.mem_range.mpr hkN, g⟩
        refine wp_sub (d_come sc h2 (k := k + 1) (by omega) H2 (by decide) ?_) rfl ⟨rfl, rfl, rfl, rfl, rfl, trivial⟩
        rw [e]
        exact ⟨H2, x1.tr x2⟩
    rw [← at40] at K
    repeat' first | refine wp_Vip rfl rfl (by ((repeat' first | assumption | refine qset_ne rfl ?_ | refine qset_self (c0 := ?_) ?_ | refine qset_nf (by omega) ?_ | fail); done)) rfl (hlo) ?_ | (exact wp_sub K rfl ⟨rfl, rfl, rfl, rfl, rfl, rfl, trivial⟩) | refine wp_ist rfl rfl rfl rfl ?_ | refine wp_lst rfl rfl rfl rfl ?_ | refine wp_iinc rfl rfl rfl rfl ?_ | refine wp_f rfl rfl rfl ?_ | refine wp_getf rfl (by ((repeat' first | assumption | refine qset_ne rfl ?_ | refine qset_self (c0 := ?_) ?_ | refine qset_nf (by omega) ?_ | fail); done)) rfl ?_ | refine wp_ast rfl rfl rfl rfl ?_ | refine wp_asN rfl rfl rfl rfl ?_ | refine wp_putf rfl (by ((repeat' first | assumption | refine qset_ne rfl ?_ | refine qset_self (c0 := ?_) ?_ | refine qset_nf (by omega) ?_ | fail); done)) (by exact Nat.le_of_ble_eq_true rfl) rfl ?_ | refine wp_iald rfl (by ((repeat' first | assumption | refine qset_ne rfl ?_ | refine qset_self (c0 := ?_) ?_ | refine qset_nf (by omega) ?_ | fail); done)) ?_ ?_ | refine wp_lald rfl (by ((repeat' first | assumption | refine qset_ne rfl ?_ | refine qset_self (c0 := ?_) ?_ | refine qset_nf (by omega) ?_ | fail); done)) ?_ ?_ | refine wp_zald rfl (by ((repeat' first | assumption | refine qset_ne rfl ?_ | refine qset_self (c0 := ?_) ?_ | refine qset_nf (by omega) ?_ | fail); done)) ?_ ?_ | refine wp_iast rfl (by ((repeat' first | assumption | refine qset_ne rfl ?_ | refine qset_self (c0 := ?_) ?_ | refine qset_nf (by omega) ?_ | fail); done)) ?_ ?_ | refine wp_last rfl (by ((repeat' first | assumption | refine qset_ne rfl ?_ | refine qset_self (c0 := ?_) ?_ | refine qset_nf (by omega) ?_ | fail); done)) ?_ ?_ | refine wp_alen rfl (by ((repeat' first | assumption | refine qset_ne rfl ?_ | refine qset_self (c0 := ?_) ?_ | refine qset_nf (by omega) ?_ | fail); done)) rfl ?_ | refine wp_zast rfl (by ((repeat' first | assumption | refine qset_ne rfl ?_ | refine qset_self (c0 := ?_) ?_ | refine qset_nf (by omega) ?_ | fail); done)) ?_ ?_ | refine wp_b rfl rfl (fun hc => absurd hc (by decide +kernel)) (fun _ => ?_) | refine wp_b rfl rfl (fun _ => ?_) (fun hc => absurd hc (by decide +kernel)) | refine wp_c2y rfl (by omega) (by omega) (by first | (dsimp only [qn2]; omega) | exact rfl) ?_ | refine wp_c2n rfl (by omega) (by omega) (by dsimp only [qn2]; omega) ?_ | refine wp_c1y rfl (by omega) (by first | exact True.intro | (dsimp only [qn1]; omega)) ?_ | refine wp_c1n rfl (by omega) (by first | exact (fun z => z) | (dsimp only [qn1]; omega)) ?_ | refine wp_b rfl rfl (fun hc => ?_) (fun hc => ?_) | refine wp_v rfl rfl ?_ | refine ret_t ?_ | refine ret_f ?_ | fail
set_option maxHeartbeats 4000000 in
theorem mt1_ref {E : QE} {f : Nat} {L now : Nat → Option Int64} {k : Nat} (h1 : (L k).getD 0 = 0) (h2 : (now k).getD 0 = 0) : (cMeet L now k).getD 0 = 0 := by
  rw [(cMeet_D L now k).2, h1, h2]
  split <;> rfl
set_option maxHeartbeats 4000000 in
theorem c_R_come {i j : Nat} (hi : i < 256) (hj : j < 256) (hS : j ≤ i → (S.1 j).isSome = true) (H : RSt h E f sn fd M 0 tv) (HT : RTold h (eFun E f) S) : wp sc (m_R_come, 0, qargs 0 [.ref 21, .int (nI i), .int (nI j)], [], h)
    (rU fun h' => RSt h' E f sn fd M (cCome E (eFun E f) S i j M.2).1 tv ∧ RTraw h' ∧ ((cCome E (eFun E f) S i j M.2).1 = 0 → RTold h' (eFun E f) (cCome E (eFun E f) S i j M.2).2) ∧ qft h h') := by
  have hl := H.len
  have e21 := H.1
  unfold rob at e21
  have hN : (fLocs (eFun E f)).length ≤ 40 := by omega
  have HLoc := H.2.2.2.2.2.1
  obtain ⟨lt, lp, lw, _, _, _, lq⟩ := HLoc
  obtain ⟨cm, ht, th, po, wi, a1, a2, T, a4, a5, a6⟩ := id HT
  have x1 : qfx 37 37 h (h.set 37 (.inl (3, 257, .inl (upd cm j (bI true))))) := (by repeat' first | exact qfx.rf | refine qfx.sta ?_ (by ((repeat' first | assumption | refine qset_ne rfl ?_ | refine qset_self (c0 := ?_) ?_ | refine qset_nf (by omega) ?_ | fail); done)) (by omega) (by omega) | refine qfx.sto ?_ (by ((repeat' first | assumption | refine qset_ne rfl ?_ | refine qset_self (c0 := ?_) ?_ | refine qset_nf (by omega) ?_ | fail); done)) (by omega) (by omega) | fail)
  have H1 := H.tb x1 (by omega) (by omega)
  have T1 := T.fx x1 (by omega)
  have e37 : (h.set 37 (.inl (3, 257, .inl (upd cm j (bI true)))))[37]? = some (.inl (3, 257, .inl (upd cm j (bI true)))) := (by ((repeat' first | assumption | refine qset_ne rfl ?_ | refine qset_self (c0 := ?_) ?_ | refine qset_nf (by omega) ?_ | fail); done))
  have e39 : (h.set 37 (.inl (3, 257, .inl (upd cm j (bI true)))))[39]? = some (.inl (0, 257, .inl ht)) := (by ((repeat' first | assumption | refine qset_ne rfl ?_ | refine qset_self (c0 := ?_) ?_ | refine qset_nf (by omega) ?_ | fail); done))
  have hj2 : j < 257 := by omega
  have r4 := a4 j hj
  by_cases hji : j ≤ i
  · obtain ⟨L, hL⟩ := Option.isSome_iff_exists.mp (hS hji)
    have e : cCome E (eFun E f) S i j M.2 = (if cFits E (eFun E f) L M.2 = true then 0 else 9, S) := by
      unfold cCome
      rw [if_pos hji, hL]
      rfl
    rw [e]
    have K := l_comeC sc _ hji hi (L := L) (fun q hq => (a6 j L hj hL q hq).1) (fLocs (eFun E f)).length 0 rfl _ H1 T1 ⟨rfl, rfl, fun _ _ => rfl⟩ (fun q hq => absurd hq (Nat.not_lt_zero q))
    repeat' first | (refine wp_zS rfl (by ((repeat' first | assumption | refine qset_ne rfl ?_ | refine qset_self (c0 := ?_) ?_ | refine qset_nf (by omega) ?_ | fail); done)) hj2 (by decide) bIe1 ?_) | (refine wp_sub (K.mono fun v h' q => ?_) rfl ⟨rfl, rfl, rfl, rfl, rfl, trivial⟩) | refine wp_ist rfl rfl rfl rfl ?_ | refine wp_lst rfl rfl rfl rfl ?_ | refine wp_iinc rfl rfl rfl rfl ?_ | refine wp_f rfl rfl rfl ?_ | refine wp_getf rfl (by ((repeat' first | assumption | refine qset_ne rfl ?_ | refine qset_self (c0 := ?_) ?_ | refine qset_nf (by omega) ?_ | fail); done)) rfl ?_ | refine wp_ast rfl rfl rfl rfl ?_ | refine wp_asN rfl rfl rfl rfl ?_ | refine wp_putf rfl (by ((repeat' first | assumption | refine qset_ne rfl ?_ | refine qset_self (c0 := ?_) ?_ | refine qset_nf (by omega) ?_ | fail); done)) (by exact Nat.le_of_ble_eq_true rfl) rfl ?_ | refine wp_iald rfl (by ((repeat' first | assumption | refine qset_ne rfl ?_ | refine qset_self (c0 := ?_) ?_ | refine qset_nf (by omega) ?_ | fail); done)) ?_ ?_ | refine wp_lald rfl (by ((repeat' first | assumption | refine qset_ne rfl ?_ | refine qset_self (c0 := ?_) ?_ | refine qset_nf (by omega) ?_ | fail); done)) ?_ ?_ | refine wp_zald rfl (by ((repeat' first | assumption | refine qset_ne rfl ?_ | refine qset_self (c0 := ?_) ?_ | refine qset_nf (by omega) ?_ | fail); done)) ?_ ?_ | refine wp_iast rfl (by ((repeat' first | assumption | refine qset_ne rfl ?_ | refine qset_self (c0 := ?_) ?_ | refine qset_nf (by omega) ?_ | fail); done)) ?_ ?_ | refine wp_last rfl (by ((repeat' first | assumption | refine qset_ne rfl ?_ | refine qset_self (c0 := ?_) ?_ | refine qset_nf (by omega) ?_ | fail); done)) ?_ ?_ | refine wp_alen rfl (by ((repeat' first | assumption | refine qset_ne rfl ?_ | refine qset_self (c0 := ?_) ?_ | refine qset_nf (by omega) ?_ | fail); done)) rfl ?_ | refine wp_zast rfl (by ((repeat' first | assumption | refine qset_ne rfl ?_ | refine qset_self (c0 := ?_) ?_ | refine qset_nf (by omega) ?_ | fail); done)) ?_ ?_ | refine wp_b rfl rfl (fun hc => absurd hc (by decide +kernel)) (fun _ => ?_) | refine wp_b rfl rfl (fun _ => ?_) (fun hc => absurd hc (by decide +kernel)) | refine wp_c2y rfl (by omega) (by omega) (by first | (dsimp only [qn2]; omega) | exact rfl) ?_ | refine wp_c2n rfl (by omega) (by omega) (by dsimp only [qn2]; omega) ?_ | refine wp_c1y rfl (by omega) (by first | exact True.intro | (dsimp only [qn1]; omega)) ?_ | refine wp_c1n rfl (by omega) (by first | exact (fun z => z) | (dsimp only [qn1]; omega)) ?_ | refine wp_b rfl rfl (fun hc => ?_) (fun hc => ?_) | refine wp_v rfl rfl ?_ | refine ret_t ?_ | refine ret_f ?_ | fail
    unfold rU at q ⊢
    split at q
    · obtain ⟨q1, q2⟩ := q
      have hT2 : RTold h' (eFun E f) S := by
        refine ⟨upd cm j (bI true), ht, th, po, wi, q2.at (by omega) e37, q2.at (by omega) e39, T1.fx q2 (by omega), fun p hp => ?_, a5, a6⟩
        by_cases hpj : p = j
        · rw [hpj, upd_at, hL]; rfl
        · rw [upd_ne hpj]; exact a4 p hp
      exact ⟨q1, hT2.raw, fun _ => hT2, (qft.fx x1 (by omega)).tr (qft.fx q2 (by omega))⟩
    · exact q.elim
  · cases hL : S.1 j with
    | none =>
      have e : cCome E (eFun E f) S i j M.2 = (0, upS S j M.2) := by unfold cCome; rw [if_neg hji, hL]
      rw [e]
      rw [hL] at r4
      simp only [Option.isSome_none] at r4
      have K := l_comeA sc (i := i) (h.set 37 (.inl (3, 257, .inl (upd cm j (bI true))))) hj (th := th) (po := po) (wi := wi) (fLocs (eFun E f)).length 0 rfl _ th po wi H1 T1 (fun q hq => absurd hq (Nat.not_lt_zero q)) (fun _ _ => ⟨rfl, rfl, rfl⟩) ⟨rfl, rfl, fun _ _ => rfl⟩
      repeat' first | (refine wp_zB rfl (by ((repeat' first | assumption | refine qset_ne rfl ?_ | refine qset_self (c0 := ?_) ?_ | refine qset_nf (by omega) ?_ | fail); done)) hj2 (by decide) r4 ?_) | (refine wp_zS rfl (by ((repeat' first | assumption | refine qset_ne rfl ?_ | refine qset_self (c0 := ?_) ?_ | refine qset_nf (by omega) ?_ | fail); done)) hj2 (by decide) bIe1 ?_) | (refine wp_sub (K.mono fun v h' q => ?_) rfl ⟨rfl, rfl, rfl, rfl, rfl, trivial⟩) | refine wp_ist rfl rfl rfl rfl ?_ | refine wp_lst rfl rfl rfl rfl ?_ | refine wp_iinc rfl rfl rfl rfl ?_ | refine wp_f rfl rfl rfl ?_ | refine wp_getf rfl (by ((repeat' first | assumption | refine qset_ne rfl ?_ | refine qset_self (c0 := ?_) ?_ | refine qset_nf (by omega) ?_ | fail); done)) rfl ?_ | refine wp_ast rfl rfl rfl rfl ?_ | refine wp_asN rfl rfl rfl rfl ?_ | refine wp_putf rfl (by ((repeat' first | assumption | refine qset_ne rfl ?_ | refine qset_self (c0 := ?_) ?_ | refine qset_nf (by omega) ?_ | fail); done)) (by exact Nat.le_of_ble_eq_true rfl) rfl ?_ | refine wp_iald rfl (by ((repeat' first | assumption | refine qset_ne rfl ?_ | refine qset_self (c0 := ?_) ?_ | refine qset_nf (by omega) ?_ | fail); done)) ?_ ?_ | refine wp_lald rfl (by ((repeat' first | assumption | refine qset_ne rfl ?_ | refine qset_self (c0 := ?_) ?_ | refine qset_nf (by omega) ?_ | fail); done)) ?_ ?_ | refine wp_zald rfl (by ((repeat' first | assumption | refine qset_ne rfl ?_ | refine qset_self (c0 := ?_) ?_ | refine qset_nf (by omega) ?_ | fail); done)) ?_ ?_ | refine wp_iast rfl (by ((repeat' first | assumption | refine qset_ne rfl ?_ | refine qset_self (c0 := ?_) ?_ | refine qset_nf (by omega) ?_ | fail); done)) ?_ ?_ | refine wp_last rfl (by ((repeat' first | assumption | refine qset_ne rfl ?_ | refine qset_self (c0 := ?_) ?_ | refine qset_nf (by omega) ?_ | fail); done)) ?_ ?_ | refine wp_alen rfl (by ((repeat' first | assumption | refine qset_ne rfl ?_ | refine qset_self (c0 := ?_) ?_ | refine qset_nf (by omega) ?_ | fail); done)) rfl ?_ | refine wp_zast rfl (by ((repeat' first | assumption | refine qset_ne rfl ?_ | refine qset_self (c0 := ?_) ?_ | refine qset_nf (by omega) ?_ | fail); done)) ?_ ?_ | refine wp_b rfl rfl (fun hc => absurd hc (by decide +kernel)) (fun _ => ?_) | refine wp_b rfl rfl (fun _ => ?_) (fun hc => absurd hc (by decide +kernel)) | refine wp_c2y rfl (by omega) (by omega) (by first | (dsimp only [qn2]; omega) | exact rfl) ?_ | refine wp_c2n rfl (by omega) (by omega) (by dsimp only [qn2]; omega) ?_ | refine wp_c1y rfl (by omega) (by first | exact True.intro | (dsimp only [qn1]; omega)) ?_ | refine wp_c1n rfl (by omega) (by first | exact (fun z => z) | (dsimp only [qn1]; omega)) ?_ | refine wp_b rfl rfl (fun hc => ?_) (fun hc => ?_) | refine wp_v rfl rfl ?_ | refine ret_t ?_ | refine ret_f ?_ | fail
      unfold rU at q ⊢
      split at q
      · obtain ⟨q1, ⟨th', po', wi', T2, r2, s2⟩, q2⟩ := q
        have hT2 : RTold h' (eFun E f) (upS S j M.2) := by
          refine ⟨upd cm j (bI true), ht, th', po', wi', q2.at (by omega) e37, q2.at (by omega) e39, T2, fun p hp => ?_, a5, fun p L hp hpL k hk => ?_⟩
          · show upd cm j (bI true) p = bI ((if p = j then some M.2 else S.1 p)).isSome
            by_cases hpj : p = j
            · rw [hpj, upd_at, if_pos rfl]; rfl
            · rw [upd_ne hpj, if_neg hpj]; exact a4 p hp
          · have hpL : (if p = j then some M.2 else S.1 p) = some L := hpL
            by_cases hpj : p = j
            · rw [if_pos hpj] at hpL
              cases hpL
              rw [hpj]
              exact ⟨r2 k hk, (lq k hk).2.2.2⟩
            · rw [if_neg hpj] at hpL
              obtain ⟨⟨w1, w2, w3⟩, w4⟩ := a6 p L hp hpL k hk
              obtain ⟨u1, u2, u3⟩ := s2 (40 * p + k) (by omega)
              exact ⟨⟨u1.trans w1, u2.trans w2, u3.trans w3⟩, w4⟩
        exact ⟨q1, hT2.raw, fun _ => hT2, (qft.fx x1 (by omega)).tr (qft.fx q2 (by omega))⟩
      · exact q.elim
    | some L =>
      have e : cCome E (eFun E f) S i j M.2 = if cDrops E (eFun E f) L M.2 = true then (0, upS S j (cMeet L M.2)) else (9, S) := by unfold cCome; rw [if_neg hji, hL]
      rw [e]
      rw [hL] at r4
      simp only [Option.isSome_some] at r4
      have K := l_comeB sc (h.set 37 (.inl (3, 257, .inl (upd cm j (bI true))))) (show i < j by omega) hj (L := L) (th := th) (po := po) (wi := wi) (fLocs (eFun E f)).length 0 rfl _ th po wi H1 T1 (fun q hq => absurd hq (Nat.not_lt_zero q)) (fun q _ hq => (a6 j L hj hL q hq).1) (fun _ _ => ⟨rfl, rfl, rfl⟩) qft.rf rfl rfl (fun q hq => absurd hq (Nat.not_lt_zero q))
      repeat' first | (refine wp_zB rfl (by ((repeat' first | assumption | refine qset_ne rfl ?_ | refine qset_self (c0 := ?_) ?_ | refine qset_nf (by omega) ?_ | fail); done)) hj2 (by decide) r4 ?_) | (refine wp_zS rfl (by ((repeat' first | assumption | refine qset_ne rfl ?_ | refine qset_self (c0 := ?_) ?_ | refine qset_nf (by omega) ?_ | fail); done)) hj2 (by decide) bIe1 ?_) | (refine wp_sub (K.mono fun v h' q => ?_) rfl ⟨rfl, rfl, rfl, rfl, rfl, trivial⟩) | refine wp_ist rfl rfl rfl rfl ?_ | refine wp_lst rfl rfl rfl rfl ?_ | refine wp_iinc rfl rfl rfl rfl ?_ | refine wp_f rfl rfl rfl ?_ | refine wp_getf rfl (by ((repeat' first | assumption | refine qset_ne rfl ?_ | refine qset_self (c0 := ?_) ?_ | refine qset_nf (by omega) ?_ | fail); done)) rfl ?_ | refine wp_ast rfl rfl rfl rfl ?_ | refine wp_asN rfl rfl rfl rfl ?_ | refine wp_putf rfl (by ((repeat' first | assumption | refine qset_ne rfl ?_ | refine qset_self (c0 := ?_) ?_ | refine qset_nf (by omega) ?_ | fail); done)) (by exact Nat.le_of_ble_eq_true rfl) rfl ?_ | refine wp_iald rfl (by ((repeat' first | assumption | refine qset_ne rfl ?_ | refine qset_self (c0 := ?_) ?_ | refine qset_nf (by omega) ?_ | fail); done)) ?_ ?_ | refine wp_lald rfl (by ((repeat' first | assumption | refine qset_ne rfl ?_ | refine qset_self (c0 := ?_) ?_ | refine qset_nf (by omega) ?_ | fail); done)) ?_ ?_ | refine wp_zald rfl (by ((repeat' first | assumption | refine qset_ne rfl ?_ | refine qset_self (c0 := ?_) ?_ | refine qset_nf (by omega) ?_ | fail); done)) ?_ ?_ | refine wp_iast rfl (by ((repeat' first | assumption | refine qset_ne rfl ?_ | refine qset_self (c0 := ?_) ?_ | refine qset_nf (by omega) ?_ | fail); done)) ?_ ?_ | refine wp_last rfl (by ((repeat' first | assumption | refine qset_ne rfl ?_ | refine qset_self (c0 := ?_) ?_ | refine qset_nf (by omega) ?_ | fail); done)) ?_ ?_ | refine wp_alen rfl (by ((repeat' first | assumption | refine qset_ne rfl ?_ | refine qset_self (c0 := ?_) ?_ | refine qset_nf (by omega) ?_ | fail); done)) rfl ?_ | refine wp_zast rfl (by ((repeat' first | assumption | refine qset_ne rfl ?_ | refine qset_self (c0 := ?_) ?_ | refine qset_nf (by omega) ?_ | fail); done)) ?_ ?_ | refine wp_b rfl rfl (fun hc => absurd hc (by decide +kernel)) (fun _ => ?_) | refine wp_b rfl rfl (fun _ => ?_) (fun hc => absurd hc (by decide +kernel)) | refine wp_c2y rfl (by omega) (by omega) (by first | (dsimp only [qn2]; omega) | exact rfl) ?_ | refine wp_c2n rfl (by omega) (by omega) (by dsimp only [qn2]; omega) ?_ | refine wp_c1y rfl (by omega) (by first | exact True.intro | (dsimp only [qn1]; omega)) ?_ | refine wp_c1n rfl (by omega) (by first | exact (fun z => z) | (dsimp only [qn1]; omega)) ?_ | refine wp_b rfl rfl (fun hc => ?_) (fun hc => ?_) | refine wp_v rfl rfl ?_ | refine ret_t ?_ | refine ret_f ?_ | fail
      unfold rU at q ⊢
      split at q
      · obtain ⟨q1, ⟨th', po', wi', T2, r2, s2⟩, q2, z1, z2⟩ := q
        rw [e37] at z1
        rw [e39] at z2
        cases hd : cDrops E (eFun E f) L M.2 with
        | false =>
          rw [hd] at q1
          exact ⟨q1, ⟨_, _, _, _, _, z1, z2, T2⟩, fun z => absurd z (by show ¬ (9 : Nat) = 0; decide), (qft.fx x1 (by omega)).tr q2⟩
        | true =>
          rw [hd] at q1
          have hT2 : RTold h' (eFun E f) (upS S j (cMeet L M.2)) := by
            refine ⟨upd cm j (bI true), ht, th', po', wi', z1, z2, T2, fun p hp => ?_, a5, fun p L2 hp hpL k hk => ?_⟩
            · show upd cm j (bI true) p = bI ((if p = j then some (cMeet L M.2) else S.1 p)).isSome
              by_cases hpj : p = j
              · rw [hpj, upd_at, if_pos rfl]; rfl
              · rw [upd_ne hpj, if_neg hpj]; exact a4 p hp
            · have hpL : (if p = j then some (cMeet L M.2) else S.1 p) = some L2 := hpL
              by_cases hpj : p = j
              · rw [if_pos hpj] at hpL
                cases hpL
                rw [hpj]
                exact ⟨r2 hd k hk, fun hr => mt1_ref (E := E) (f := f) ((a6 j L hj hL k hk).2 hr) ((lq k hk).2.2.2 hr)⟩
              · rw [if_neg hpj] at hpL
                obtain ⟨⟨w1, w2, w3⟩, w4⟩ := a6 p L2 hp hpL k hk
                obtain ⟨u1, u2, u3⟩ := s2 (40 * p + k) (by omega)
                exact ⟨⟨u1.trans w1, u2.trans w2, u3.trans w3⟩, w4⟩
          exact ⟨q1, hT2.raw, fun _ => hT2, (qft.fx x1 (by omega)).tr q2⟩
      · exact q.elim
end RU1
