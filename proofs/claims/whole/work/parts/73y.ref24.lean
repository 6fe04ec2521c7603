/-! The reference: check. -/
section RX1
variable (sc : Nat × (Nat → Int32)) (h : qH) {E : QE} {f : Nat} {sn fd : Int32} {K : List QV} {S : QS} {tv : QV}
set_option maxHeartbeats 4000000 in
theorem lNext_suc {E : QE} {F : QF} {i : Nat} {S : QS} {M : QM} {k : Nat} (h : (S.1 k).isSome = true) : ((lNext E F i S M).2.1.1 k).isSome = true := lNext_mono h
set_option maxHeartbeats 4000000 in
theorem lStep_come {E : QE} {F : QF} {i : Nat} {S : QS} {K : List QV} (hw : (lStep E F i S K).1 = 0) (hS : ∀ j, j < i → (S.1 j).isSome = true) (j : Nat) (hj : j < i + 1) : ((lStep E F i S K).2.1.1 j).isSome = true := by
  cases hSi : S.1 i with
  | none =>
    rw [lStep_none hSi] at hw
    exact absurd hw (by show ¬ 10 = 0; decide)
  | some L =>
    have hSj : (S.1 j).isSome = true := by
      by_cases e : j = i
      · rw [e, hSi]; rfl
      · exact hS j (by omega)
    cases hq : (fCode F)[i]? with
    | none =>
      have e : lStep E F i S K = (10, S, []) := by unfold lStep; rw [hSi, hq]
      rw [e] at hw
      exact absurd hw (by show ¬ 10 = 0; decide)
    | some q =>
      rw [lStep_some hSi hq]
      split
      · exact hSj
      · split
        · split
          · exact lGo_mono (S := lEnter S i K.length) hSj
          · exact hSj
        · exact hSj
/-- what the reference holds of the face -/
def snOf (R : Option (Nat × QS)) : Int32 := match R with
  | some (g, _) => nI g
  | none => -nI 1
def fdOf (Pq : Option Nat) : Int32 := match Pq with
  | some p => nI p
  | none => -nI 2
def RfAt (h : qH) (T : QT) : Prop := RfB h T.1 (snOf T.2.2) (fdOf T.2.1) ∧ ∀ g S, T.2.2 = some (g, S) → g < T.1.2.2.length ∧ RTold h (eFun T.1 g) S
/-- the answer of a look at f -/
def RChk (h0 : qH) (E : QE) (f : Nat) (R : Nat × Nat × QS) (r : Int32) (h : qH) : Prop := r = -nI R.1 ∧ RfAt h (E, if R.1 = 0 then (none, some (f, R.2.2)) else (some R.2.1, none)) ∧ qfR h0 h
set_option maxHeartbeats 4000000 in
theorem l_Rcheck : ∀ m i, m + i = (fCode (eFun E f)).length → ∀ h1 S K tv, RLK h1 E f (-nI 1) (-nI 2) K S tv → (∀ j, j < i → (S.1 j).isSome = true) → qfR h h1 → wp sc (m_R_check, 42, [(2, .int (nI i)), (1, .int (nI f)), (0, .ref 21)], [], h1) (rI (RChk h E f (lLoop E (eFun E f) m i S K))) := by
  intro m
  induction m with
  | zero =>
    intro i hi h1 S K tv H hS x1
    have hl := H.1.len
    have ei : i = (fCode (eFun E f)).length := by omega
    subst ei
    obtain ⟨H1, hK, HK, HR, HT, HL⟩ := id H
    have e21 := H1.1
    obtain ⟨fFl, fT, fG, fM, fTT, fGT, fMT, fMn, fO, fX, fY, ⟨a1, a2, a3, a4⟩, ⟨b1, b2, b3⟩, ⟨z1, z2, z3, z4⟩, ⟨d1, d2, d3, d4, d5⟩, g1, g2, g3, g4⟩ := H1.2.1.F H1.2.2.2.1
    have x2 : qfx 21 21 h1 (h1.set 21 (rob E f (nI f) (-nI 2) K.length 0 tv)) := by
      unfold rob at e21 ⊢
      exact (by repeat' first | exact qfx.rf | refine qfx.sta ?_ (by ((repeat' first | assumption | refine qset_ne rfl ?_ | refine qset_self (c0 := ?_) ?_ | refine qset_nf (by omega) ?_ | fail); done)) (by omega) (by omega) | refine qfx.sto ?_ (by ((repeat' first | assumption | refine qset_ne rfl ?_ | refine qset_self (c0 := ?_) ?_ | refine qset_nf (by omega) ?_ | fail); done)) (by omega) (by omega) | fail)
    have e3 : (h1.set 21 (rob E f (nI f) (-nI 2) K.length 0 tv))[21]? = some (rob E f (nI f) (-nI 2) K.length 0 tv) := qset_self e21
    have R : RChk h E f (0, (fCode (eFun E f)).length, S) (-nI 0) (h1.set 21 (rob E f (nI f) (-nI 2) K.length 0 tv)) := by
      refine ⟨rfl, ⟨⟨⟨_, _, _, _, e3⟩, H1.2.1.sm fun p h1 h2 => x2.2.2 p (by omega), H1.2.2.1, (HK.sm fun p h1 h2 => x2.2.2 p (by omega)).raw, HR.at fun p h1 h2 => x2.2.2 p (by omega), (HT.fx x2 (by omega)).raw, (HL.at (x2.2.2 _ (by omega))).raw⟩, fun g S2 hg => ?_⟩, x1.tr (qfR.fx x2 (by omega) (by omega))⟩
      have hg : some (f, S) = some (g, S2) := hg
      cases hg
      exact ⟨H1.2.2.2.1, HT.fx x2 (by omega)⟩
    unfold rob at e21 R
    repeat' first | (refine wp_iB rfl z1 (show f < 64 by omega) (by decide) d5 ?_) | refine wp_ist rfl rfl rfl rfl ?_ | refine wp_lst rfl rfl rfl rfl ?_ | refine wp_iinc rfl rfl rfl rfl ?_ | refine wp_f rfl rfl rfl ?_ | refine wp_getf rfl (by ((repeat' first | assumption | refine qset_ne rfl ?_ | refine qset_self (c0 := ?_) ?_ | refine qset_nf (by omega) ?_ | fail); done)) rfl ?_ | refine wp_ast rfl rfl rfl rfl ?_ | refine wp_asN rfl rfl rfl rfl ?_ | refine wp_putf rfl (by ((repeat' first | assumption | refine qset_ne rfl ?_ | refine qset_self (c0 := ?_) ?_ | refine qset_nf (by omega) ?_ | fail); done)) (by exact Nat.le_of_ble_eq_true rfl) rfl ?_ | refine wp_iald rfl (by ((repeat' first | assumption | refine qset_ne rfl ?_ | refine qset_self (c0 := ?_) ?_ | refine qset_nf (by omega) ?_ | fail); done)) ?_ ?_ | refine wp_lald rfl (by ((repeat' first | assumption | refine qset_ne rfl ?_ | refine qset_self (c0 := ?_) ?_ | refine qset_nf (by omega) ?_ | fail); done)) ?_ ?_ | refine wp_zald rfl (by ((repeat' first | assumption | refine qset_ne rfl ?_ | refine qset_self (c0 := ?_) ?_ | refine qset_nf (by omega) ?_ | fail); done)) ?_ ?_ | refine wp_iast rfl (by ((repeat' first | assumption | refine qset_ne rfl ?_ | refine qset_self (c0 := ?_) ?_ | refine qset_nf (by omega) ?_ | fail); done)) ?_ ?_ | refine wp_last rfl (by ((repeat' first | assumption | refine qset_ne rfl ?_ | refine qset_self (c0 := ?_) ?_ | refine qset_nf (by omega) ?_ | fail); done)) ?_ ?_ | refine wp_alen rfl (by ((repeat' first | assumption | refine qset_ne rfl ?_ | refine qset_self (c0 := ?_) ?_ | refine qset_nf (by omega) ?_ | fail); done)) rfl ?_ | refine wp_zast rfl (by ((repeat' first | assumption | refine qset_ne rfl ?_ | refine qset_self (c0 := ?_) ?_ | refine qset_nf (by omega) ?_ | fail); done)) ?_ ?_ | refine wp_b rfl rfl (fun hc => absurd hc (by decide +kernel)) (fun _ => ?_) | refine wp_b rfl rfl (fun _ => ?_) (fun hc => absurd hc (by decide +kernel)) | refine wp_c2y rfl (by omega) (by omega) (by first | (dsimp only [qn2]; omega) | exact rfl) ?_ | refine wp_c2n rfl (by omega) (by omega) (by dsimp only [qn2]; omega) ?_ | refine wp_c1y rfl (by omega) (by first | exact True.intro | (dsimp only [qn1]; omega)) ?_ | refine wp_c1n rfl (by omega) (by first | exact (fun z => z) | (dsimp only [qn1]; omega)) ?_ | refine wp_b rfl rfl (fun hc => ?_) (fun hc => ?_) | refine wp_v rfl rfl ?_ | refine ret_t ?_ | refine ret_f ?_ | fail
    exact R
  | succ m ih =>
    intro i hi h1 S K tv H hS x1
    have hl := H.1.len
    obtain ⟨H1, hK, HK, HR, HT, HL⟩ := id H
    have e21 := H1.1
    unfold rob at e21
    obtain ⟨fFl, fT, fG, fM, fTT, fGT, fMT, fMn, fO, fX, fY, ⟨a1, a2, a3, a4⟩, ⟨b1, b2, b3⟩, ⟨z1, z2, z3, z4⟩, ⟨d1, d2, d3, d4, d5⟩, g1, g2, g3, g4⟩ := H1.2.1.F H1.2.2.2.1
    have hk := c_R_look (i := i) sc h1 (by omega) hS H
    repeat' first | (refine wp_iB rfl z1 (show f < 64 by omega) (by decide) d5 ?_) | refine wp_Vu rfl rfl (by ((repeat' first | assumption | refine qset_ne rfl ?_ | refine qset_self (c0 := ?_) ?_ | refine qset_nf (by omega) ?_ | fail); done)) rfl (hk) (fun h2 Pq => ?_) | refine wp_ist rfl rfl rfl rfl ?_ | refine wp_lst rfl rfl rfl rfl ?_ | refine wp_iinc rfl rfl rfl rfl ?_ | refine wp_f rfl rfl rfl ?_ | refine wp_getf rfl (by ((repeat' first | assumption | refine qset_ne rfl ?_ | refine qset_self (c0 := ?_) ?_ | refine qset_nf (by omega) ?_ | fail); done)) rfl ?_ | refine wp_ast rfl rfl rfl rfl ?_ | refine wp_asN rfl rfl rfl rfl ?_ | refine wp_putf rfl (by ((repeat' first | assumption | refine qset_ne rfl ?_ | refine qset_self (c0 := ?_) ?_ | refine qset_nf (by omega) ?_ | fail); done)) (by exact Nat.le_of_ble_eq_true rfl) rfl ?_ | refine wp_iald rfl (by ((repeat' first | assumption | refine qset_ne rfl ?_ | refine qset_self (c0 := ?_) ?_ | refine qset_nf (by omega) ?_ | fail); done)) ?_ ?_ | refine wp_lald rfl (by ((repeat' first | assumption | refine qset_ne rfl ?_ | refine qset_self (c0 := ?_) ?_ | refine qset_nf (by omega) ?_ | fail); done)) ?_ ?_ | refine wp_zald rfl (by ((repeat' first | assumption | refine qset_ne rfl ?_ | refine qset_self (c0 := ?_) ?_ | refine qset_nf (by omega) ?_ | fail); done)) ?_ ?_ | refine wp_iast rfl (by ((repeat' first | assumption | refine qset_ne rfl ?_ | refine qset_self (c0 := ?_) ?_ | refine qset_nf (by omega) ?_ | fail); done)) ?_ ?_ | refine wp_last rfl (by ((repeat' first | assumption | refine qset_ne rfl ?_ | refine qset_self (c0 := ?_) ?_ | refine qset_nf (by omega) ?_ | fail); done)) ?_ ?_ | refine wp_alen rfl (by ((repeat' first | assumption | refine qset_ne rfl ?_ | refine qset_self (c0 := ?_) ?_ | refine qset_nf (by omega) ?_ | fail); done)) rfl ?_ | refine wp_zast rfl (by ((repeat' first | assumption | refine qset_ne rfl ?_ | refine qset_self (c0 := ?_) ?_ | refine qset_nf (by omega) ?_ | fail); done)) ?_ ?_ | refine wp_b rfl rfl (fun hc => absurd hc (by decide +kernel)) (fun _ => ?_) | refine wp_b rfl rfl (fun _ => ?_) (fun hc => absurd hc (by decide +kernel)) | refine wp_c2y rfl (by omega) (by omega) (by first | (dsimp only [qn2]; omega) | exact rfl) ?_ | refine wp_c2n rfl (by omega) (by omega) (by dsimp only [qn2]; omega) ?_ | refine wp_c1y rfl (by omega) (by first | exact True.intro | (dsimp only [qn1]; omega)) ?_ | refine wp_c1n rfl (by omega) (by first | exact (fun z => z) | (dsimp only [qn1]; omega)) ?_ | refine wp_b rfl rfl (fun hc => ?_) (fun hc => ?_) | refine wp_v rfl rfl ?_ | refine ret_t ?_ | refine ret_f ?_ | fail
    obtain ⟨⟨n, tv2, P1⟩, P2, P3, P4, P5, P6, P7⟩ := Pq
    have e22 := P1.1
    by_cases hw : (lStep E (eFun E f) i S K).1 = 0
    · obtain ⟨tv3, H3⟩ := P6 hw
      rw [hw] at P1 e22
      have e : lLoop E (eFun E f) (m + 1) i S K = lLoop E (eFun E f) m (i + 1) (lStep E (eFun E f) i S K).2.1 (lStep E (eFun E f) i S K).2.2 := by
        show (if (lStep E (eFun E f) i S K).1 = 0 then _ else _) = _
        rw [if_pos hw]
      rw [e]
      have hS2 : ∀ j, j < i + 1 → ((lStep E (eFun E f) i S K).2.1.1 j).isSome = true := fun j hj => lStep_come hw hS j hj
      have Kh := ih (i + 1) (by omega) h2 _ _ tv3 H3 hS2 (x1.tr P7)
      unfold rob at e22
      repeat' first | refine wp_ist rfl rfl rfl rfl ?_ | refine wp_lst rfl rfl rfl rfl ?_ | refine wp_iinc rfl rfl rfl rfl ?_ | refine wp_f rfl rfl rfl ?_ | refine wp_getf rfl (by ((repeat' first | assumption | refine qset_ne rfl ?_ | refine qset_self (c0 := ?_) ?_ | refine qset_nf (by omega) ?_ | fail); done)) rfl ?_ | refine wp_ast rfl rfl rfl rfl ?_ | refine wp_asN rfl rfl rfl rfl ?_ | refine wp_putf rfl (by ((repeat' first | assumption | refine qset_ne rfl ?_ | refine qset_self (c0 := ?_) ?_ | refine qset_nf (by omega) ?_ | fail); done)) (by exact Nat.le_of_ble_eq_true rfl) rfl ?_ | refine wp_iald rfl (by ((repeat' first | assumption | refine qset_ne rfl ?_ | refine qset_self (c0 := ?_) ?_ | refine qset_nf (by omega) ?_ | fail); done)) ?_ ?_ | refine wp_lald rfl (by ((repeat' first | assumption | refine qset_ne rfl ?_ | refine qset_self (c0 := ?_) ?_ | refine qset_nf (by omega) ?_ | fail); done)) ?_ ?_ | refine wp_zald rfl (by ((repeat' first | assumption | refine qset_ne rfl ?_ | refine qset_self (c0 := ?_) ?_ | refine qset_nf (by omega) ?_ | fail); done)) ?_ ?_ | refine wp_iast rfl (by ((repeat' first | assumption | refine qset_ne rfl ?_ | refine qset_self (c0 := ?_) ?_ | refine qset_nf (by omega) ?_ | fail); done)) ?_ ?_ | refine wp_last rfl (by ((repeat' first | assumption | refine qset_ne rfl ?_ | refine qset_self (c0 := ?_) ?_ | refine qset_nf (by omega) ?_ | fail); done)) ?_ ?_ | refine wp_alen rfl (by ((repeat' first | assumption | refine qset_ne rfl ?_ | refine qset_self (c0 := ?_) ?_ | refine qset_nf (by omega) ?_ | fail); done)) rfl ?_ | refine wp_zast rfl (by ((repeat' first | assumption | refine qset_ne rfl ?_ | refine qset_self (c0 := ?_) ?_ | refine qset_nf (by omega) ?_ | fail); done)) ?_ ?_ | refine wp_b rfl rfl (fun hc => absurd hc (by decide +kernel)) (fun _ => ?_) | refine wp_b rfl rfl (fun _ => ?_) (fun hc => absurd hc (by decide +kernel)) | refine wp_c2y rfl (by omega) (by omega) (by first | (dsimp only [qn2]; omega) | exact rfl) ?_ | refine wp_c2n rfl (by omega) (by omega) (by dsimp only [qn2]; omega) ?_ | refine wp_c1y rfl (by omega) (by first | exact True.intro | (dsimp only [qn1]; omega)) ?_ | refine wp_c1n rfl (by omega) (by first | exact (fun z => z) | (dsimp only [qn1]; omega)) ?_ | refine wp_b rfl rfl (fun hc => ?_) (fun hc => ?_) | refine wp_v rfl rfl ?_ | refine ret_t ?_ | refine ret_f ?_ | fail
      refine wp_n rfl rfl ?_
      rw [nI_inc]
      exact wp_sub Kh rfl ⟨rfl, rfl, rfl, trivial⟩
    · have e : lLoop E (eFun E f) (m + 1) i S K = ((lStep E (eFun E f) i S K).1, i, (lStep E (eFun E f) i S K).2.1) := by
        show (if (lStep E (eFun E f) i S K).1 = 0 then _ else _) = _
        rw [if_neg hw]
      rw [e]
      have hlt := P1.2.2.2.2.2
      obtain ⟨w, ew⟩ : ∃ w, (lStep E (eFun E f) i S K).1 = w := ⟨_, rfl⟩
      rw [ew] at hw hlt P1 e22 ⊢
      have x3 : qfx 21 21 h2 (h2.set 21 (rob E f (-nI 1) (nI i) n w tv2)) := by
        unfold rob at e22 ⊢
        exact (by repeat' first | exact qfx.rf | refine qfx.sta ?_ (by ((repeat' first | assumption | refine qset_ne rfl ?_ | refine qset_self (c0 := ?_) ?_ | refine qset_nf (by omega) ?_ | fail); done)) (by omega) (by omega) | refine qfx.sto ?_ (by ((repeat' first | assumption | refine qset_ne rfl ?_ | refine qset_self (c0 := ?_) ?_ | refine qset_nf (by omega) ?_ | fail); done)) (by omega) (by omega) | fail)
      have e3 : (h2.set 21 (rob E f (-nI 1) (nI i) n w tv2))[21]? = some (rob E f (-nI 1) (nI i) n w tv2) := qset_self e22
      have R : RChk h E f (w, i, (lStep E (eFun E f) i S K).2.1) (-nI w) (h2.set 21 (rob E f (-nI 1) (nI i) n w tv2)) := by
        refine ⟨rfl, ?_, (x1.tr P7).tr (qfR.fx x3 (by omega) (by omega))⟩
        show RfAt _ (E, if w = 0 then _ else _)
        rw [if_neg hw]
        refine ⟨⟨⟨_, _, _, _, e3⟩, P1.2.1.sm fun p h1 h2 => x3.2.2 p (by omega), P1.2.2.1, ?_, P3.at fun p h1 h2 => x3.2.2 p (by omega), ?_, ?_⟩, fun g S2 hg => by cases hg⟩
        · obtain ⟨ty, og, is, q1, q2, q3⟩ := P2
          exact ⟨ty, og, is, x3.at (by omega) q1, x3.at (by omega) q2, x3.at (by omega) q3⟩
        · obtain ⟨cm, ht, th, po, wi, q1, q2, q3⟩ := P4
          exact ⟨cm, ht, th, po, wi, x3.at (by omega) q1, x3.at (by omega) q2, q3.fx x3 (by omega)⟩
        · obtain ⟨led, q1⟩ := P5
          exact ⟨led, x3.at (by omega) q1⟩
      unfold rob at e22 R
      obtain ⟨fFl, fT, fG, fM, fTT, fGT, fMT, fMn, fO, fX, fY, ⟨a1, a2, a3, a4⟩, ⟨b1, b2, b3⟩, ⟨z1, z2, z3, z4⟩, ⟨d1, d2, d3, d4, d5⟩, g1, g2, g3, g4⟩ := P1.2.1.F P1.2.2.2.1
      repeat' first | refine wp_ist rfl rfl rfl rfl ?_ | refine wp_lst rfl rfl rfl rfl ?_ | refine wp_iinc rfl rfl rfl rfl ?_ | refine wp_f rfl rfl rfl ?_ | refine wp_getf rfl (by ((repeat' first | assumption | refine qset_ne rfl ?_ | refine qset_self (c0 := ?_) ?_ | refine qset_nf (by omega) ?_ | fail); done)) rfl ?_ | refine wp_ast rfl rfl rfl rfl ?_ | refine wp_asN rfl rfl rfl rfl ?_ | refine wp_putf rfl (by ((repeat' first | assumption | refine qset_ne rfl ?_ | refine qset_self (c0 := ?_) ?_ | refine qset_nf (by omega) ?_ | fail); done)) (by exact Nat.le_of_ble_eq_true rfl) rfl ?_ | refine wp_iald rfl (by ((repeat' first | assumption | refine qset_ne rfl ?_ | refine qset_self (c0 := ?_) ?_ | refine qset_nf (by omega) ?_ | fail); done)) ?_ ?_ | refine wp_lald rfl (by ((repeat' first | assumption | refine qset_ne rfl ?_ | refine qset_self (c0 := ?_) ?_ | refine qset_nf (by omega) ?_ | fail); done)) ?_ ?_ | refine wp_zald rfl (by ((repeat' first | assumption | refine qset_ne rfl ?_ | refine qset_self (c0 := ?_) ?_ | refine qset_nf (by omega) ?_ | fail); done)) ?_ ?_ | refine wp_iast rfl (by ((repeat' first | assumption | refine qset_ne rfl ?_ | refine qset_self (c0 := ?_) ?_ | refine qset_nf (by omega) ?_ | fail); done)) ?_ ?_ | refine wp_last rfl (by ((repeat' first | assumption | refine qset_ne rfl ?_ | refine qset_self (c0 := ?_) ?_ | refine qset_nf (by omega) ?_ | fail); done)) ?_ ?_ | refine wp_alen rfl (by ((repeat' first | assumption | refine qset_ne rfl ?_ | refine qset_self (c0 := ?_) ?_ | refine qset_nf (by omega) ?_ | fail); done)) rfl ?_ | refine wp_zast rfl (by ((repeat' first | assumption | refine qset_ne rfl ?_ | refine qset_self (c0 := ?_) ?_ | refine qset_nf (by omega) ?_ | fail); done)) ?_ ?_ | refine wp_b rfl rfl (fun hc => absurd hc (by decide +kernel)) (fun _ => ?_) | refine wp_b rfl rfl (fun _ => ?_) (fun hc => absurd hc (by decide +kernel)) | refine wp_c2y rfl (by omega) (by omega) (by first | (dsimp only [qn2]; omega) | exact rfl) ?_ | refine wp_c2n rfl (by omega) (by omega) (by dsimp only [qn2]; omega) ?_ | refine wp_c1y rfl (by omega) (by first | exact True.intro | (dsimp only [qn1]; omega)) ?_ | refine wp_c1n rfl (by omega) (by first | exact (fun z => z) | (dsimp only [qn1]; omega)) ?_ | refine wp_v rfl rfl ?_ | refine ret_t ?_ | refine ret_f ?_ | fail
      refine wp_n rfl rfl ?_
      rw [nI_inc]
      by_cases hn : i + 1 < (fCode (eFun E f)).length
      · repeat' first | (refine wp_iB rfl (by ((repeat' first | assumption | refine qset_ne rfl ?_ | refine qset_self (c0 := ?_) ?_ | refine qset_nf (by omega) ?_ | fail); done)) (show f < 64 by omega) (by decide) d5 ?_) | refine wp_ist rfl rfl rfl rfl ?_ | refine wp_lst rfl rfl rfl rfl ?_ | refine wp_iinc rfl rfl rfl rfl ?_ | refine wp_f rfl rfl rfl ?_ | refine wp_getf rfl (by ((repeat' first | assumption | refine qset_ne rfl ?_ | refine qset_self (c0 := ?_) ?_ | refine qset_nf (by omega) ?_ | fail); done)) rfl ?_ | refine wp_ast rfl rfl rfl rfl ?_ | refine wp_asN rfl rfl rfl rfl ?_ | refine wp_putf rfl (by ((repeat' first | assumption | refine qset_ne rfl ?_ | refine qset_self (c0 := ?_) ?_ | refine qset_nf (by omega) ?_ | fail); done)) (by exact Nat.le_of_ble_eq_true rfl) rfl ?_ | refine wp_iald rfl (by ((repeat' first | assumption | refine qset_ne rfl ?_ | refine qset_self (c0 := ?_) ?_ | refine qset_nf (by omega) ?_ | fail); done)) ?_ ?_ | refine wp_lald rfl (by ((repeat' first | assumption | refine qset_ne rfl ?_ | refine qset_self (c0 := ?_) ?_ | refine qset_nf (by omega) ?_ | fail); done)) ?_ ?_ | refine wp_zald rfl (by ((repeat' first | assumption | refine qset_ne rfl ?_ | refine qset_self (c0 := ?_) ?_ | refine qset_nf (by omega) ?_ | fail); done)) ?_ ?_ | refine wp_iast rfl (by ((repeat' first | assumption | refine qset_ne rfl ?_ | refine qset_self (c0 := ?_) ?_ | refine qset_nf (by omega) ?_ | fail); done)) ?_ ?_ | refine wp_last rfl (by ((repeat' first | assumption | refine qset_ne rfl ?_ | refine qset_self (c0 := ?_) ?_ | refine qset_nf (by omega) ?_ | fail); done)) ?_ ?_ | refine wp_alen rfl (by ((repeat' first | assumption | refine qset_ne rfl ?_ | refine qset_self (c0 := ?_) ?_ | refine qset_nf (by omega) ?_ | fail); done)) rfl ?_ | refine wp_zast rfl (by ((repeat' first | assumption | refine qset_ne rfl ?_ | refine qset_self (c0 := ?_) ?_ | refine qset_nf (by omega) ?_ | fail); done)) ?_ ?_ | refine wp_b rfl rfl (fun hc => absurd hc (by decide +kernel)) (fun _ => ?_) | refine wp_b rfl rfl (fun _ => ?_) (fun hc => absurd hc (by decide +kernel)) | refine wp_c2y rfl (by omega) (by omega) (by first | (dsimp only [qn2]; omega) | exact rfl) ?_ | refine wp_c2n rfl (by omega) (by omega) (by dsimp only [qn2]; omega) ?_ | refine wp_c1y rfl (by omega) (by first | exact True.intro | (dsimp only [qn1]; omega)) ?_ | refine wp_c1n rfl (by omega) (by first | exact (fun z => z) | (dsimp only [qn1]; omega)) ?_ | refine wp_b rfl rfl (fun hc => ?_) (fun hc => ?_) | refine wp_v rfl rfl ?_ | refine ret_t ?_ | refine ret_f ?_ | fail
        exact R
      · repeat' first | (refine wp_iB rfl (by ((repeat' first | assumption | refine qset_ne rfl ?_ | refine qset_self (c0 := ?_) ?_ | refine qset_nf (by omega) ?_ | fail); done)) (show f < 64 by omega) (by decide) d5 ?_) | refine wp_ist rfl rfl rfl rfl ?_ | refine wp_lst rfl rfl rfl rfl ?_ | refine wp_iinc rfl rfl rfl rfl ?_ | refine wp_f rfl rfl rfl ?_ | refine wp_getf rfl (by ((repeat' first | assumption | refine qset_ne rfl ?_ | refine qset_self (c0 := ?_) ?_ | refine qset_nf (by omega) ?_ | fail); done)) rfl ?_ | refine wp_ast rfl rfl rfl rfl ?_ | refine wp_asN rfl rfl rfl rfl ?_ | refine wp_putf rfl (by ((repeat' first | assumption | refine qset_ne rfl ?_ | refine qset_self (c0 := ?_) ?_ | refine qset_nf (by omega) ?_ | fail); done)) (by exact Nat.le_of_ble_eq_true rfl) rfl ?_ | refine wp_iald rfl (by ((repeat' first | assumption | refine qset_ne rfl ?_ | refine qset_self (c0 := ?_) ?_ | refine qset_nf (by omega) ?_ | fail); done)) ?_ ?_ | refine wp_lald rfl (by ((repeat' first | assumption | refine qset_ne rfl ?_ | refine qset_self (c0 := ?_) ?_ | refine qset_nf (by omega) ?_ | fail); done)) ?_ ?_ | refine wp_zald rfl (by ((repeat' first | assumption | refine qset_ne rfl ?_ | refine qset_self (c0 := ?_) ?_ | refine qset_nf (by omega) ?_ | fail); done)) ?_ ?_ | refine wp_iast rfl (by ((repeat' first | assumption | refine qset_ne rfl ?_ | refine qset_self (c0 := ?_) ?_ | refine qset_nf (by omega) ?_ | fail); done)) ?_ ?_ | refine wp_last rfl (by ((repeat' first | assumption | refine qset_ne rfl ?_ | refine qset_self (c0 := ?_) ?_ | refine qset_nf (by omega) ?_ | fail); done)) ?_ ?_ | refine wp_alen rfl (by ((repeat' first | assumption | refine qset_ne rfl ?_ | refine qset_self (c0 := ?_) ?_ | refine qset_nf (by omega) ?_ | fail); done)) rfl ?_ | refine wp_zast rfl (by ((repeat' first | assumption | refine qset_ne rfl ?_ | refine qset_self (c0 := ?_) ?_ | refine qset_nf (by omega) ?_ | fail); done)) ?_ ?_ | refine wp_b rfl rfl (fun hc => absurd hc (by decide +kernel)) (fun _ => ?_) | refine wp_b rfl rfl (fun _ => ?_) (fun hc => absurd hc (by decide +kernel)) | refine wp_c2y rfl (by omega) (by omega) (by first | (dsimp only [qn2]; omega) | exact rfl) ?_ | refine wp_c2n rfl (by omega) (by omega) (by dsimp only [qn2]; omega) ?_ | refine wp_c1y rfl (by omega) (by first | exact True.intro | (dsimp only [qn1]; omega)) ?_ | refine wp_c1n rfl (by omega) (by first | exact (fun z => z) | (dsimp only [qn1]; omega)) ?_ | refine wp_b rfl rfl (fun hc => ?_) (fun hc => ?_) | refine wp_v rfl rfl ?_ | refine ret_t ?_ | refine ret_f ?_ | fail
        exact R
end RX1
