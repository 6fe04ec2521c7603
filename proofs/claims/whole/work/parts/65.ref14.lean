/-! The reference: call. -/
def wv (w : Nat) (b : Bool) : Nat := if w ≠ 0 then w else if b then 0 else 6
set_option maxHeartbeats 4000000 in
theorem wv_need (w : Nat) (b g : Bool) : (if g = false ∧ wv w b = 0 then 6 else wv w b) = wv w (b && g) := by
  unfold wv
  by_cases hw : w = 0
  · subst hw
    cases b <;> cases g <;> rfl
  · simp only [if_pos hw]
    rw [if_neg (fun z => hw z.2)]
set_option maxHeartbeats 4000000 in
theorem res_any {F : QF} {M : QM} : mAny F M false lRes = (List.range 15).any fun i => mAny F M false (lbit (48 + i)) := by
  have key : ∀ z : Int64, (z &&& lRes &&& lOrg != 0) = (List.range 15).any fun i => lb z (48 + i) := by
    intro z
    rw [Bool.eq_iff_iff, lb_org, List.any_eq_true]
    have hr : ∀ k, k < 63 → lb lRes k = decide (48 ≤ k) := by decide +kernel
    constructor
    · rintro ⟨k, hk, h1, h2⟩
      rw [hr k hk, decide_eq_true_eq] at h2
      exact ⟨k - 48, List.mem_range.mpr (by omega), by rw [show 48 + (k - 48) = k by omega]; exact h1⟩
    · rintro ⟨i, hi, h1⟩
      have hi := List.mem_range.mp hi
      exact ⟨48 + i, by omega, h1, by rw [hr _ (by omega)]; simp⟩
  rw [Bool.eq_iff_iff, any_iff, List.any_eq_true]
  constructor
  · rintro (⟨v, hv, h1, h2⟩ | ⟨j, z, hj, hz, h1, h2⟩)
    · rw [key, List.any_eq_true] at h2
      obtain ⟨i, hi, h3⟩ := h2
      exact ⟨i, hi, any_iff.mpr (Or.inl ⟨v, hv, h1, by rw [org_bit (by have := List.mem_range.mp hi; omega)]; exact h3⟩)⟩
    · rw [key, List.any_eq_true] at h2
      obtain ⟨i, hi, h3⟩ := h2
      exact ⟨i, hi, any_iff.mpr (Or.inr ⟨j, z, hj, hz, h1, by rw [org_bit (by have := List.mem_range.mp hi; omega)]; exact h3⟩)⟩
  · rintro ⟨i, hi, h⟩
    have hi' := List.mem_range.mp hi
    rcases any_iff.mp h with ⟨v, hv, h1, h2⟩ | ⟨j, z, hj, hz, h1, h2⟩
    · rw [org_bit (by omega)] at h2
      exact Or.inl ⟨v, hv, h1, by rw [key, List.any_eq_true]; exact ⟨i, hi, h2⟩⟩
    · rw [org_bit (by omega)] at h2
      exact Or.inr ⟨j, z, hj, hz, h1, by rw [key, List.any_eq_true]; exact ⟨i, hi, h2⟩⟩
set_option maxHeartbeats 4000000 in
theorem res_sh {z : Int64} : ((z &&& lOrg).toUInt64 >>> ((nI 48).toInt64.toUInt64 &&& Int64.toUInt64 63)).toInt64 = 0 ↔ z &&& lRes = 0 := by
  obtain ⟨n, hn, e⟩ := wb_of (z &&& lOrg)
  have h2 : z &&& lRes = lN n &&& lRes := by
    rw [← e, and_res]
  rw [h2, e, wb_shr hn (by decide), lN_0 (by have : n / 2 ^ 48 ≤ n := Nat.div_le_self _ _; omega)]
  have h63 : n < 2 ^ 63 := by
    have e2 : lN n &&& lOrg = lN n := by
      rw [← e, Int64.and_assoc, show lOrg &&& lOrg = lOrg by decide]
    have e3 : lN n &&& lOrg = lN (n % 2 ^ 63) := wb_mask (k := 63) hn (by decide)
    rw [e3] at e2
    have e4 := congrArg (fun x : Int64 => x.toBitVec.toNat) e2
    have e5 : (lN (n % 2 ^ 63)).toBitVec.toNat = n % 2 ^ 63 := wb_tn (by omega)
    have e6 : (lN n).toBitVec.toNat = n := wb_tn hn
    rw [e5, e6] at e4
    omega
  rw [lb_z]
  have hr : ∀ k, k < 64 → lb lRes k = decide (48 ≤ k ∧ k < 63) := by decide +kernel
  have hb : ∀ k, lb (lN n) k = n.testBit k := by
    intro k
    unfold lb
    rw [wb_tb, BitVec.getLsbD_ofNat]
    by_cases hk : k < 64
    · simp [hk]
    · rw [Nat.testBit_lt_two_pow (Nat.lt_of_lt_of_le hn (Nat.pow_le_pow_right (by decide) (by omega)))]
      simp
  constructor
  · intro h k hk
    rw [lb_and, hr k hk, hb k]
    by_cases hk2 : 48 ≤ k
    · have : n < 2 ^ k := Nat.lt_of_lt_of_le (by omega) (Nat.pow_le_pow_right (by decide) hk2 : 2 ^ 48 ≤ 2 ^ k)
      rw [Nat.testBit_lt_two_pow this, Bool.false_and]
    · rw [decide_eq_false (fun z => hk2 z.1), Bool.and_false]
  · intro h
    have hlt : n < 2 ^ 48 := by
      apply Nat.lt_pow_two_of_testBit
      intro i hi
      by_cases hi2 : i < 63
      · have := h i (by omega)
        rw [lb_and, hr i (by omega), hb i, decide_eq_true ⟨hi, hi2⟩, Bool.and_true] at this
        exact this
      · exact Nat.testBit_lt_two_pow (Nat.lt_of_lt_of_le h63 (Nat.pow_le_pow_right (by decide) (by omega)))
    omega
def argOk (F : QF) (M : QM) (T : List Nat) (ms : List Int64) (k : Nat) : Bool := !twr (T.getD k 0) || (mSole F M (ms.getD k 0) && (List.range T.length).all fun j => j == k || (ms.getD j 0 &&& ms.getD k 0 &&& lOrg == 0))
set_option maxHeartbeats 4000000 in
theorem argsSole_ok {F : QF} {M : QM} {T : List Nat} {ms : List Int64} : mArgsSole F M T ms = (List.range T.length).all (argOk F M T ms) := rfl
section RO1
variable (sc : Nat × (Nat → Int32)) (h : qH) {E : QE} {f : Nat} {sn fd : Int32} {M : QM} {w : Nat} {tv : QV}
set_option maxHeartbeats 4000000 in
theorem RSt.tk {h : qH} {E : QE} {f : Nat} {sn fd : Int32} {M : QM} {w : Nat} {tv : QV} (H : RSt h E f sn fd M w tv) {g : Nat} (hg : g < E.2.2.length) : ∃ (fT : Nat → Int32) (fTT : Nat → Int64), h[27]? = some (.inl (0, 64, .inl fT)) ∧ fT g = nI (fTakes (eFun E g)).length ∧ h[30]? = some (.inl (1, 512, .inr (.inl fTT))) ∧ (∀ j, j < (fTakes (eFun E g)).length → fTT (8 * g + j) = lN ((fTakes (eFun E g)).getD j 0)) ∧ (fTakes (eFun E g)).length ≤ 8 ∧ g < 64 ∧ ∀ j, j < (fTakes (eFun E g)).length → ttype E.1.length ((fTakes (eFun E g)).getD j 0) = true := by
  obtain ⟨fFl, fT, fG, fM, fTT, fGT, fMT, fMn, fO, fX, fY, ⟨a1, a2, a3, a4⟩, ⟨b1, b2, b3⟩, _, ⟨d1, d2, d3, d4, d5⟩, g1, g2, g3, g4⟩ := H.2.1.F hg
  have hV := H.2.2.1
  have hF := hV.2.2.2.2.2 _ (eFun_mem hg)
  have h3 := hV.2.2.1
  exact ⟨fT, fTT, a2, d2, b1, g1, hF.2.1, by omega, fun j hj => by rw [getD_at hj]; exact hF.2.2.2.2.2.1 _ (List.getElem_mem hj)⟩
set_option maxHeartbeats 4000000 in
theorem RSt.flg2 {h : qH} {E : QE} {f : Nat} {sn fd : Int32} {M : QM} {w : Nat} {tv : QV} (H : RSt h E f sn fd M w tv) {g : Nat} (hg : g < E.2.2.length) : ∃ fFl : Nat → Int32, h[26]? = some (.inl (0, 64, .inl fFl)) ∧ (fFl g = nI (eFun E g).1 ∧ qcc1 .eq (nI (eFun E g).1 &&& nI 4) = !fRes (eFun E g)) ∧ fFl f = nI (eFun E f).1 ∧ qcc1 .eq (nI (eFun E f).1 &&& nI 4) = !fRes (eFun E f) := by
  obtain ⟨fA, fC, fF, fE, fFl, fT, fG, fM, fTT, fGT, fMT, fMn, fO, fX, fY, _, ⟨a1, _⟩, _, _, _, _, c⟩ := H.2.1
  have hV := H.2.2.1
  have e : ∀ g, g < E.2.2.length → fFl g = nI (eFun E g).1 ∧ qcc1 .eq (nI (eFun E g).1 &&& nI 4) = !fRes (eFun E g) := by
    intro g hg
    have e : eFun E g = E.2.2[g] := by unfold eFun; rw [List.getElem?_eq_getElem hg]; rfl
    refine ⟨by rw [e]; exact (c g _ (List.getElem?_eq_getElem hg)).1.1, flag4 _ (hV.2.2.2.2.2 _ (eFun_mem hg)).1⟩
  exact ⟨fFl, a1, e g hg, e f H.2.2.2.1⟩
set_option maxHeartbeats 4000000 in
theorem d_callT {g : Nat} {bs : Int32} (hg : g < E.2.2.length) (H : RSt h E f sn fd M w tv) (h0 : w ≠ 0) : ∀ m, m ≤ (fTakes (eFun E g)).length → wp sc (m_R_call, 19, [(4, .int (nI m + Int32.ofInt (-1))), (3, .int bs), (2, .int (nI (fTakes (eFun E g)).length)), (1, .int (nI g)), (0, .ref 21)], [], h) (rU fun h' => h' = h) := by
  have hl := H.len
  have e21 := H.1
  unfold rob at e21
  obtain ⟨fT, fTT, k1, k2, k3, k4, k5, k6, k7⟩ := H.tk hg
  intro m
  induction m with
  | zero =>
    intro hm
    repeat' first | refine wp_ist rfl rfl rfl rfl ?_ | refine wp_lst rfl rfl rfl rfl ?_ | refine wp_iinc rfl rfl rfl rfl ?_ | refine wp_f rfl rfl rfl ?_ | refine wp_getf rfl (by ((repeat' first | assumption | refine qset_ne rfl ?_ | refine qset_self (c0 := ?_) ?_ | refine qset_nf (by omega) ?_ | fail); done)) rfl ?_ | refine wp_ast rfl rfl rfl rfl ?_ | refine wp_asN rfl rfl rfl rfl ?_ | refine wp_putf rfl (by ((repeat' first | assumption | refine qset_ne rfl ?_ | refine qset_self (c0 := ?_) ?_ | refine qset_nf (by omega) ?_ | fail); done)) (by exact Nat.le_of_ble_eq_true rfl) rfl ?_ | refine wp_iald rfl (by ((repeat' first | assumption | refine qset_ne rfl ?_ | refine qset_self (c0 := ?_) ?_ | refine qset_nf (by omega) ?_ | fail); done)) ?_ ?_ | refine wp_lald rfl (by ((repeat' first | assumption | refine qset_ne rfl ?_ | refine qset_self (c0 := ?_) ?_ | refine qset_nf (by omega) ?_ | fail); done)) ?_ ?_ | refine wp_zald rfl (by ((repeat' first | assumption | refine qset_ne rfl ?_ | refine qset_self (c0 := ?_) ?_ | refine qset_nf (by omega) ?_ | fail); done)) ?_ ?_ | refine wp_iast rfl (by ((repeat' first | assumption | refine qset_ne rfl ?_ | refine qset_self (c0 := ?_) ?_ | refine qset_nf (by omega) ?_ | fail); done)) ?_ ?_ | refine wp_last rfl (by ((repeat' first | assumption | refine qset_ne rfl ?_ | refine qset_self (c0 := ?_) ?_ | refine qset_nf (by omega) ?_ | fail); done)) ?_ ?_ | refine wp_alen rfl (by ((repeat' first | assumption | refine qset_ne rfl ?_ | refine qset_self (c0 := ?_) ?_ | refine qset_nf (by omega) ?_ | fail); done)) rfl ?_ | refine wp_zast rfl (by ((repeat' first | assumption | refine qset_ne rfl ?_ | refine qset_self (c0 := ?_) ?_ | refine qset_nf (by omega) ?_ | fail); done)) ?_ ?_ | refine wp_b rfl rfl (fun hc => absurd hc (by decide +kernel)) (fun _ => ?_) | refine wp_b rfl rfl (fun _ => ?_) (fun hc => absurd hc (by decide +kernel)) | refine wp_c2y rfl (by omega) (by omega) (by dsimp only [qn2]; omega) ?_ | refine wp_c2n rfl (by omega) (by omega) (by dsimp only [qn2]; omega) ?_ | refine wp_c1y rfl (by omega) (by first | exact True.intro | (dsimp only [qn1]; omega)) ?_ | refine wp_c1n rfl (by omega) (by first | exact (fun z => z) | (dsimp only [qn1]; omega)) ?_ | refine wp_b rfl rfl (fun hc => ?_) (fun hc => ?_) | refine wp_v rfl rfl ?_ | refine ret_t ?_ | refine ret_f ?_ | fail
    rfl
  | succ m ih =>
    intro hm
    have ei : nI 8 * nI g + nI m = nI (8 * g + m) := by rw [pk_mul, nI_add]
    rw [nI_dec]
    repeat' first | refine wp_ist rfl rfl rfl rfl ?_ | refine wp_lst rfl rfl rfl rfl ?_ | refine wp_iinc rfl rfl rfl rfl ?_ | refine wp_f rfl rfl rfl ?_ | refine wp_getf rfl (by ((repeat' first | assumption | refine qset_ne rfl ?_ | refine qset_self (c0 := ?_) ?_ | refine qset_nf (by omega) ?_ | fail); done)) rfl ?_ | refine wp_ast rfl rfl rfl rfl ?_ | refine wp_asN rfl rfl rfl rfl ?_ | refine wp_putf rfl (by ((repeat' first | assumption | refine qset_ne rfl ?_ | refine qset_self (c0 := ?_) ?_ | refine qset_nf (by omega) ?_ | fail); done)) (by exact Nat.le_of_ble_eq_true rfl) rfl ?_ | refine wp_iald rfl (by ((repeat' first | assumption | refine qset_ne rfl ?_ | refine qset_self (c0 := ?_) ?_ | refine qset_nf (by omega) ?_ | fail); done)) ?_ ?_ | refine wp_lald rfl (by ((repeat' first | assumption | refine qset_ne rfl ?_ | refine qset_self (c0 := ?_) ?_ | refine qset_nf (by omega) ?_ | fail); done)) ?_ ?_ | refine wp_zald rfl (by ((repeat' first | assumption | refine qset_ne rfl ?_ | refine qset_self (c0 := ?_) ?_ | refine qset_nf (by omega) ?_ | fail); done)) ?_ ?_ | refine wp_iast rfl (by ((repeat' first | assumption | refine qset_ne rfl ?_ | refine qset_self (c0 := ?_) ?_ | refine qset_nf (by omega) ?_ | fail); done)) ?_ ?_ | refine wp_last rfl (by ((repeat' first | assumption | refine qset_ne rfl ?_ | refine qset_self (c0 := ?_) ?_ | refine qset_nf (by omega) ?_ | fail); done)) ?_ ?_ | refine wp_alen rfl (by ((repeat' first | assumption | refine qset_ne rfl ?_ | refine qset_self (c0 := ?_) ?_ | refine qset_nf (by omega) ?_ | fail); done)) rfl ?_ | refine wp_zast rfl (by ((repeat' first | assumption | refine qset_ne rfl ?_ | refine qset_self (c0 := ?_) ?_ | refine qset_nf (by omega) ?_ | fail); done)) ?_ ?_ | refine wp_b rfl rfl (fun hc => absurd hc (by decide +kernel)) (fun _ => ?_) | refine wp_b rfl rfl (fun _ => ?_) (fun hc => absurd hc (by decide +kernel)) | refine wp_c2y rfl (by omega) (by omega) (by dsimp only [qn2]; omega) ?_ | refine wp_c2n rfl (by omega) (by omega) (by dsimp only [qn2]; omega) ?_ | refine wp_c1y rfl (by omega) (by first | exact True.intro | (dsimp only [qn1]; omega)) ?_ | refine wp_c1n rfl (by omega) (by first | exact (fun z => z) | (dsimp only [qn1]; omega)) ?_ | refine wp_v rfl rfl ?_ | refine ret_t ?_ | refine ret_f ?_ | fail
    · rw [ei]; exact qin_nI (by omega) (by omega)
    · repeat' first | refine wp_Vup rfl rfl (by ((repeat' first | assumption | refine qset_ne rfl ?_ | refine qset_self (c0 := ?_) ?_ | refine qset_nf (by omega) ?_ | fail); done)) rfl (d_R_take_ sc h H h0 _) ?_ | refine wp_ist rfl rfl rfl rfl ?_ | refine wp_lst rfl rfl rfl rfl ?_ | refine wp_iinc rfl rfl rfl rfl ?_ | refine wp_f rfl rfl rfl ?_ | refine wp_getf rfl (by ((repeat' first | assumption | refine qset_ne rfl ?_ | refine qset_self (c0 := ?_) ?_ | refine qset_nf (by omega) ?_ | fail); done)) rfl ?_ | refine wp_ast rfl rfl rfl rfl ?_ | refine wp_asN rfl rfl rfl rfl ?_ | refine wp_putf rfl (by ((repeat' first | assumption | refine qset_ne rfl ?_ | refine qset_self (c0 := ?_) ?_ | refine qset_nf (by omega) ?_ | fail); done)) (by exact Nat.le_of_ble_eq_true rfl) rfl ?_ | refine wp_iald rfl (by ((repeat' first | assumption | refine qset_ne rfl ?_ | refine qset_self (c0 := ?_) ?_ | refine qset_nf (by omega) ?_ | fail); done)) ?_ ?_ | refine wp_lald rfl (by ((repeat' first | assumption | refine qset_ne rfl ?_ | refine qset_self (c0 := ?_) ?_ | refine qset_nf (by omega) ?_ | fail); done)) ?_ ?_ | refine wp_zald rfl (by ((repeat' first | assumption | refine qset_ne rfl ?_ | refine qset_self (c0 := ?_) ?_ | refine qset_nf (by omega) ?_ | fail); done)) ?_ ?_ | refine wp_iast rfl (by ((repeat' first | assumption | refine qset_ne rfl ?_ | refine qset_self (c0 := ?_) ?_ | refine qset_nf (by omega) ?_ | fail); done)) ?_ ?_ | refine wp_last rfl (by ((repeat' first | assumption | refine qset_ne rfl ?_ | refine qset_self (c0 := ?_) ?_ | refine qset_nf (by omega) ?_ | fail); done)) ?_ ?_ | refine wp_alen rfl (by ((repeat' first | assumption | refine qset_ne rfl ?_ | refine qset_self (c0 := ?_) ?_ | refine qset_nf (by omega) ?_ | fail); done)) rfl ?_ | refine wp_zast rfl (by ((repeat' first | assumption | refine qset_ne rfl ?_ | refine qset_self (c0 := ?_) ?_ | refine qset_nf (by omega) ?_ | fail); done)) ?_ ?_ | refine wp_b rfl rfl (fun hc => absurd hc (by decide +kernel)) (fun _ => ?_) | refine wp_b rfl rfl (fun _ => ?_) (fun hc => absurd hc (by decide +kernel)) | refine wp_b rfl rfl (fun hc => ?_) (fun hc => ?_) | refine wp_v rfl rfl ?_ | refine ret_t ?_ | refine ret_f ?_ | fail
      refine wp_n rfl rfl ?_
      exact wp_sub (ih (by omega)) rfl ⟨rfl, rfl, rfl, rfl, rfl, trivial⟩
set_option maxHeartbeats 4000000 in
theorem l_callT {g : Nat} {bs : Int32} {ty og : Nat → Int64} {M0 : QM} {fA : List Int64 → QM → QR} (hg : g < E.2.2.length)
    (hok : ∀ h1 M1 tv1 ms, mArgs M0 (fTakes (eFun E g)).reverse [] = (0, ms, M1) → RSt h1 E f sn fd M1 0 tv1 → h1[43]? = some (.inl (1, 200, .inr (.inl ty))) → h1[44]? = some (.inl (1, 200, .inr (.inl og))) → M0.1.length = M1.1.length + (fTakes (eFun E g)).length → (∀ j, j < (fTakes (eFun E g)).length → ty (M1.1.length + j) = lN ((fTakes (eFun E g)).getD j 0) ∧ og (M1.1.length + j) = ms.getD j 0 &&& lOrg) → qfx 21 21 h h1 →
      wp sc (m_R_call, 46, [(3, .int bs), (2, .int (nI (fTakes (eFun E g)).length)), (1, .int (nI g)), (0, .ref 21)], [], h1) (rU (ROP h E f sn fd (fA ms M1)))) :
    ∀ m, m ≤ (fTakes (eFun E g)).length → ∀ h1 M1 tv1 acc, RSt h1 E f sn fd M1 0 tv1 → h1[43]? = some (.inl (1, 200, .inr (.inl ty))) → h1[44]? = some (.inl (1, 200, .inr (.inl og))) → qfx 21 21 h h1 → mArgs M0 (fTakes (eFun E g)).reverse [] = mArgs M1 ((fTakes (eFun E g)).take m).reverse acc → M0.1.length = M1.1.length + ((fTakes (eFun E g)).length - m) →
      (∀ j, m ≤ j → j < (fTakes (eFun E g)).length → ty (M1.1.length + (j - m)) = lN ((fTakes (eFun E g)).getD j 0) ∧ og (M1.1.length + (j - m)) = acc.getD (j - m) 0 &&& lOrg) →
      wp sc (m_R_call, 19, [(4, .int (nI m + Int32.ofInt (-1))), (3, .int bs), (2, .int (nI (fTakes (eFun E g)).length)), (1, .int (nI g)), (0, .ref 21)], [], h1) (rU (ROP h E f sn fd (mTakeArgs M0 fA (fTakes (eFun E g)).reverse []))) := by
  intro m
  induction m with
  | zero =>
    intro hm h1 M1 tv1 acc H k1 k2 x1 em hlen hj
    have e0 : mArgs M0 (fTakes (eFun E g)).reverse [] = (0, acc, M1) := em
    have eR : mTakeArgs M0 fA (fTakes (eFun E g)).reverse [] = fA acc M1 := by
      rw [mArgs_eq, e0]
      rfl
    rw [eR]
    have K := hok h1 M1 tv1 acc e0 H k1 k2 hlen (fun j hj2 => hj j (Nat.zero_le _) hj2) x1
    repeat' first | (refine wp_sub K rfl ⟨rfl, rfl, rfl, rfl, trivial⟩) | refine wp_ist rfl rfl rfl rfl ?_ | refine wp_lst rfl rfl rfl rfl ?_ | refine wp_iinc rfl rfl rfl rfl ?_ | refine wp_f rfl rfl rfl ?_ | refine wp_getf rfl (by ((repeat' first | assumption | refine qset_ne rfl ?_ | refine qset_self (c0 := ?_) ?_ | refine qset_nf (by omega) ?_ | fail); done)) rfl ?_ | refine wp_ast rfl rfl rfl rfl ?_ | refine wp_asN rfl rfl rfl rfl ?_ | refine wp_putf rfl (by ((repeat' first | assumption | refine qset_ne rfl ?_ | refine qset_self (c0 := ?_) ?_ | refine qset_nf (by omega) ?_ | fail); done)) (by exact Nat.le_of_ble_eq_true rfl) rfl ?_ | refine wp_iald rfl (by ((repeat' first | assumption | refine qset_ne rfl ?_ | refine qset_self (c0 := ?_) ?_ | refine qset_nf (by omega) ?_ | fail); done)) ?_ ?_ | refine wp_lald rfl (by ((repeat' first | assumption | refine qset_ne rfl ?_ | refine qset_self (c0 := ?_) ?_ | refine qset_nf (by omega) ?_ | fail); done)) ?_ ?_ | refine wp_zald rfl (by ((repeat' first | assumption | refine qset_ne rfl ?_ | refine qset_self (c0 := ?_) ?_ | refine qset_nf (by omega) ?_ | fail); done)) ?_ ?_ | refine wp_iast rfl (by ((repeat' first | assumption | refine qset_ne rfl ?_ | refine qset_self (c0 := ?_) ?_ | refine qset_nf (by omega) ?_ | fail); done)) ?_ ?_ | refine wp_last rfl (by ((repeat' first | assumption | refine qset_ne rfl ?_ | refine qset_self (c0 := ?_) ?_ | refine qset_nf (by omega) ?_ | fail); done)) ?_ ?_ | refine wp_alen rfl (by ((repeat' first | assumption | refine qset_ne rfl ?_ | refine qset_self (c0 := ?_) ?_ | refine qset_nf (by omega) ?_ | fail); done)) rfl ?_ | refine wp_zast rfl (by ((repeat' first | assumption | refine qset_ne rfl ?_ | refine qset_self (c0 := ?_) ?_ | refine qset_nf (by omega) ?_ | fail); done)) ?_ ?_ | refine wp_b rfl rfl (fun hc => absurd hc (by decide +kernel)) (fun _ => ?_) | refine wp_b rfl rfl (fun _ => ?_) (fun hc => absurd hc (by decide +kernel)) | refine wp_c2y rfl (by omega) (by omega) (by dsimp only [qn2]; omega) ?_ | refine wp_c2n rfl (by omega) (by omega) (by dsimp only [qn2]; omega) ?_ | refine wp_c1y rfl (by omega) (by first | exact True.intro | (dsimp only [qn1]; omega)) ?_ | refine wp_c1n rfl (by omega) (by first | exact (fun z => z) | (dsimp only [qn1]; omega)) ?_ | refine wp_b rfl rfl (fun hc => ?_) (fun hc => ?_) | refine wp_v rfl rfl ?_ | refine ret_t ?_ | refine ret_f ?_ | fail
  | succ m ih =>
    intro hm h1 M1 tv1 acc H k1 k2 x1 em hlen hj
    have hl := H.len
    have e1 := H.1
    unfold rob at e1
    obtain ⟨fT, fTT, j1, j2, j3, j4, j5, j6, j7⟩ := H.tk hg
    have ei : nI 8 * nI g + nI m = nI (8 * g + m) := by rw [pk_mul, nI_add]
    have htl := ttype_lt hl.1 (j7 m (by omega))
    rw [take_rev (by omega)] at em
    rw [nI_dec]
    repeat' first | refine wp_ist rfl rfl rfl rfl ?_ | refine wp_lst rfl rfl rfl rfl ?_ | refine wp_iinc rfl rfl rfl rfl ?_ | refine wp_f rfl rfl rfl ?_ | refine wp_getf rfl (by ((repeat' first | assumption | refine qset_ne rfl ?_ | refine qset_self (c0 := ?_) ?_ | refine qset_nf (by omega) ?_ | fail); done)) rfl ?_ | refine wp_ast rfl rfl rfl rfl ?_ | refine wp_asN rfl rfl rfl rfl ?_ | refine wp_putf rfl (by ((repeat' first | assumption | refine qset_ne rfl ?_ | refine qset_self (c0 := ?_) ?_ | refine qset_nf (by omega) ?_ | fail); done)) (by exact Nat.le_of_ble_eq_true rfl) rfl ?_ | refine wp_iald rfl (by ((repeat' first | assumption | refine qset_ne rfl ?_ | refine qset_self (c0 := ?_) ?_ | refine qset_nf (by omega) ?_ | fail); done)) ?_ ?_ | refine wp_lald rfl (by ((repeat' first | assumption | refine qset_ne rfl ?_ | refine qset_self (c0 := ?_) ?_ | refine qset_nf (by omega) ?_ | fail); done)) ?_ ?_ | refine wp_zald rfl (by ((repeat' first | assumption | refine qset_ne rfl ?_ | refine qset_self (c0 := ?_) ?_ | refine qset_nf (by omega) ?_ | fail); done)) ?_ ?_ | refine wp_iast rfl (by ((repeat' first | assumption | refine qset_ne rfl ?_ | refine qset_self (c0 := ?_) ?_ | refine qset_nf (by omega) ?_ | fail); done)) ?_ ?_ | refine wp_last rfl (by ((repeat' first | assumption | refine qset_ne rfl ?_ | refine qset_self (c0 := ?_) ?_ | refine qset_nf (by omega) ?_ | fail); done)) ?_ ?_ | refine wp_alen rfl (by ((repeat' first | assumption | refine qset_ne rfl ?_ | refine qset_self (c0 := ?_) ?_ | refine qset_nf (by omega) ?_ | fail); done)) rfl ?_ | refine wp_zast rfl (by ((repeat' first | assumption | refine qset_ne rfl ?_ | refine qset_self (c0 := ?_) ?_ | refine qset_nf (by omega) ?_ | fail); done)) ?_ ?_ | refine wp_b rfl rfl (fun hc => absurd hc (by decide +kernel)) (fun _ => ?_) | refine wp_b rfl rfl (fun _ => ?_) (fun hc => absurd hc (by decide +kernel)) | refine wp_c2y rfl (by omega) (by omega) (by dsimp only [qn2]; omega) ?_ | refine wp_c2n rfl (by omega) (by omega) (by dsimp only [qn2]; omega) ?_ | refine wp_c1y rfl (by omega) (by first | exact True.intro | (dsimp only [qn1]; omega)) ?_ | refine wp_c1n rfl (by omega) (by first | exact (fun z => z) | (dsimp only [qn1]; omega)) ?_ | refine wp_v rfl rfl ?_ | refine ret_t ?_ | refine ret_f ?_ | fail
    · rw [ei]; exact qin_nI (by omega) (by omega)
    · rw [ei, nI_clamp (show 8 * g + m < 2 ^ 31 by omega), j4 m (by omega)]
      cases hM : M1.1 with
      | nil =>
        rw [mArgs_nil hM] at em
        have t0 := c_R_take_0 sc h1 H hM ((fTakes (eFun E g)).getD m 0)
        repeat' first | refine wp_Vu rfl rfl (by ((repeat' first | assumption | refine qset_ne rfl ?_ | refine qset_self (c0 := ?_) ?_ | refine qset_nf (by omega) ?_ | fail); done)) rfl (t0) (fun h2 P => ?_) | refine wp_ist rfl rfl rfl rfl ?_ | refine wp_lst rfl rfl rfl rfl ?_ | refine wp_iinc rfl rfl rfl rfl ?_ | refine wp_f rfl rfl rfl ?_ | refine wp_getf rfl (by ((repeat' first | assumption | refine qset_ne rfl ?_ | refine qset_self (c0 := ?_) ?_ | refine qset_nf (by omega) ?_ | fail); done)) rfl ?_ | refine wp_ast rfl rfl rfl rfl ?_ | refine wp_asN rfl rfl rfl rfl ?_ | refine wp_putf rfl (by ((repeat' first | assumption | refine qset_ne rfl ?_ | refine qset_self (c0 := ?_) ?_ | refine qset_nf (by omega) ?_ | fail); done)) (by exact Nat.le_of_ble_eq_true rfl) rfl ?_ | refine wp_iald rfl (by ((repeat' first | assumption | refine qset_ne rfl ?_ | refine qset_self (c0 := ?_) ?_ | refine qset_nf (by omega) ?_ | fail); done)) ?_ ?_ | refine wp_lald rfl (by ((repeat' first | assumption | refine qset_ne rfl ?_ | refine qset_self (c0 := ?_) ?_ | refine qset_nf (by omega) ?_ | fail); done)) ?_ ?_ | refine wp_zald rfl (by ((repeat' first | assumption | refine qset_ne rfl ?_ | refine qset_self (c0 := ?_) ?_ | refine qset_nf (by omega) ?_ | fail); done)) ?_ ?_ | refine wp_iast rfl (by ((repeat' first | assumption | refine qset_ne rfl ?_ | refine qset_self (c0 := ?_) ?_ | refine qset_nf (by omega) ?_ | fail); done)) ?_ ?_ | refine wp_last rfl (by ((repeat' first | assumption | refine qset_ne rfl ?_ | refine qset_self (c0 := ?_) ?_ | refine qset_nf (by omega) ?_ | fail); done)) ?_ ?_ | refine wp_alen rfl (by ((repeat' first | assumption | refine qset_ne rfl ?_ | refine qset_self (c0 := ?_) ?_ | refine qset_nf (by omega) ?_ | fail); done)) rfl ?_ | refine wp_zast rfl (by ((repeat' first | assumption | refine qset_ne rfl ?_ | refine qset_self (c0 := ?_) ?_ | refine qset_nf (by omega) ?_ | fail); done)) ?_ ?_ | refine wp_b rfl rfl (fun hc => absurd hc (by decide +kernel)) (fun _ => ?_) | refine wp_b rfl rfl (fun _ => ?_) (fun hc => absurd hc (by decide +kernel)) | refine wp_b rfl rfl (fun hc => ?_) (fun hc => ?_) | refine wp_v rfl rfl ?_ | refine ret_t ?_ | refine ret_f ?_ | fail
        refine wp_n rfl rfl ?_
        have eR : mTakeArgs M0 fA (fTakes (eFun E g)).reverse [] = (1, M1) := by
          rw [mArgs_eq, em]
          rfl
        rw [eR]
        exact rU_dead (wp_sub (d_callT (bs := bs) sc h2 hg P.1 (by decide) m (by omega)) rfl ⟨rfl, rfl, rfl, rfl, rfl, trivial⟩) (ROP.no P.1 (qfr.fx (x1.tr P.2) (by omega)) (by decide))
      | cons v r =>
        rw [mArgs_cons hM] at em
        have hvat : ty r.length = lN v.1 ∧ og r.length = v.2 &&& lOrg := by
          obtain ⟨ty0, og0, is0, p1, p2, p3, p4⟩ := H.2.2.2.2.1
          rw [k1] at p1
          rw [k2] at p2
          cases p1
          cases p2
          rw [hM] at p4
          exact ⟨p4.1.1, p4.1.2.1⟩
        have t0 := c_R_take_ (n := (fTakes (eFun E g)).getD m 0) sc h1 H hM (by omega)
        by_cases hv : v.1 = (fTakes (eFun E g)).getD m 0
        · rw [if_pos hv] at t0 em
          repeat' first | refine wp_Vu rfl rfl (by ((repeat' first | assumption | refine qset_ne rfl ?_ | refine qset_self (c0 := ?_) ?_ | refine qset_nf (by omega) ?_ | fail); done)) rfl (t0) (fun h2 P => ?_) | refine wp_ist rfl rfl rfl rfl ?_ | refine wp_lst rfl rfl rfl rfl ?_ | refine wp_iinc rfl rfl rfl rfl ?_ | refine wp_f rfl rfl rfl ?_ | refine wp_getf rfl (by ((repeat' first | assumption | refine qset_ne rfl ?_ | refine qset_self (c0 := ?_) ?_ | refine qset_nf (by omega) ?_ | fail); done)) rfl ?_ | refine wp_ast rfl rfl rfl rfl ?_ | refine wp_asN rfl rfl rfl rfl ?_ | refine wp_putf rfl (by ((repeat' first | assumption | refine qset_ne rfl ?_ | refine qset_self (c0 := ?_) ?_ | refine qset_nf (by omega) ?_ | fail); done)) (by exact Nat.le_of_ble_eq_true rfl) rfl ?_ | refine wp_iald rfl (by ((repeat' first | assumption | refine qset_ne rfl ?_ | refine qset_self (c0 := ?_) ?_ | refine qset_nf (by omega) ?_ | fail); done)) ?_ ?_ | refine wp_lald rfl (by ((repeat' first | assumption | refine qset_ne rfl ?_ | refine qset_self (c0 := ?_) ?_ | refine qset_nf (by omega) ?_ | fail); done)) ?_ ?_ | refine wp_zald rfl (by ((repeat' first | assumption | refine qset_ne rfl ?_ | refine qset_self (c0 := ?_) ?_ | refine qset_nf (by omega) ?_ | fail); done)) ?_ ?_ | refine wp_iast rfl (by ((repeat' first | assumption | refine qset_ne rfl ?_ | refine qset_self (c0 := ?_) ?_ | refine qset_nf (by omega) ?_ | fail); done)) ?_ ?_ | refine wp_last rfl (by ((repeat' first | assumption | refine qset_ne rfl ?_ | refine qset_self (c0 := ?_) ?_ | refine qset_nf (by omega) ?_ | fail); done)) ?_ ?_ | refine wp_alen rfl (by ((repeat' first | assumption | refine qset_ne rfl ?_ | refine qset_self (c0 := ?_) ?_ | refine qset_nf (by omega) ?_ | fail); done)) rfl ?_ | refine wp_zast rfl (by ((repeat' first | assumption | refine qset_ne rfl ?_ | refine qset_self (c0 := ?_) ?_ | refine qset_nf (by omega) ?_ | fail); done)) ?_ ?_ | refine wp_b rfl rfl (fun hc => absurd hc (by decide +kernel)) (fun _ => ?_) | refine wp_b rfl rfl (fun _ => ?_) (fun hc => absurd hc (by decide +kernel)) | refine wp_b rfl rfl (fun hc => ?_) (fun hc => ?_) | refine wp_v rfl rfl ?_ | refine ret_t ?_ | refine ret_f ?_ | fail
          obtain ⟨p1, p2, p3⟩ := P
          refine wp_n rfl rfl ?_
          refine wp_sub (ih (by omega) h2 (r, M1.2) v (v.2 :: acc) p1 (p3.at (by omega) k1) (p3.at (by omega) k2) (x1.tr p3) em ?_ fun j hj1 hj2 => ?_) rfl ⟨rfl, rfl, rfl, rfl, rfl, trivial⟩
          · show M0.1.length = r.length + _
            rw [hlen, hM, List.length_cons]
            omega
          · by_cases hjm : j = m
            · subst hjm
              rw [Nat.sub_self, Nat.add_zero]
              exact ⟨by rw [hvat.1, hv], hvat.2⟩
            · have := hj j (by omega) hj2
              rw [hM, List.length_cons] at this
              rw [show r.length + 1 + (j - (m + 1)) = r.length + (j - m) by omega] at this
              rw [show j - m = j - (m + 1) + 1 by omega] at this ⊢
              exact this
        · rw [if_neg hv] at t0 em
          repeat' first | refine wp_Vu rfl rfl (by ((repeat' first | assumption | refine qset_ne rfl ?_ | refine qset_self (c0 := ?_) ?_ | refine qset_nf (by omega) ?_ | fail); done)) rfl (t0) (fun h2 P => ?_) | refine wp_ist rfl rfl rfl rfl ?_ | refine wp_lst rfl rfl rfl rfl ?_ | refine wp_iinc rfl rfl rfl rfl ?_ | refine wp_f rfl rfl rfl ?_ | refine wp_getf rfl (by ((repeat' first | assumption | refine qset_ne rfl ?_ | refine qset_self (c0 := ?_) ?_ | refine qset_nf (by omega) ?_ | fail); done)) rfl ?_ | refine wp_ast rfl rfl rfl rfl ?_ | refine wp_asN rfl rfl rfl rfl ?_ | refine wp_putf rfl (by ((repeat' first | assumption | refine qset_ne rfl ?_ | refine qset_self (c0 := ?_) ?_ | refine qset_nf (by omega) ?_ | fail); done)) (by exact Nat.le_of_ble_eq_true rfl) rfl ?_ | refine wp_iald rfl (by ((repeat' first | assumption | refine qset_ne rfl ?_ | refine qset_self (c0 := ?_) ?_ | refine qset_nf (by omega) ?_ | fail); done)) ?_ ?_ | refine wp_lald rfl (by ((repeat' first | assumption | refine qset_ne rfl ?_ | refine qset_self (c0 := ?_) ?_ | refine qset_nf (by omega) ?_ | fail); done)) ?_ ?_ | refine wp_zald rfl (by ((repeat' first | assumption | refine qset_ne rfl ?_ | refine qset_self (c0 := ?_) ?_ | refine qset_nf (by omega) ?_ | fail); done)) ?_ ?_ | refine wp_iast rfl (by ((repeat' first | assumption | refine qset_ne rfl ?_ | refine qset_self (c0 := ?_) ?_ | refine qset_nf (by omega) ?_ | fail); done)) ?_ ?_ | refine wp_last rfl (by ((repeat' first | assumption | refine qset_ne rfl ?_ | refine qset_self (c0 := ?_) ?_ | refine qset_nf (by omega) ?_ | fail); done)) ?_ ?_ | refine wp_alen rfl (by ((repeat' first | assumption | refine qset_ne rfl ?_ | refine qset_self (c0 := ?_) ?_ | refine qset_nf (by omega) ?_ | fail); done)) rfl ?_ | refine wp_zast rfl (by ((repeat' first | assumption | refine qset_ne rfl ?_ | refine qset_self (c0 := ?_) ?_ | refine qset_nf (by omega) ?_ | fail); done)) ?_ ?_ | refine wp_b rfl rfl (fun hc => absurd hc (by decide +kernel)) (fun _ => ?_) | refine wp_b rfl rfl (fun _ => ?_) (fun hc => absurd hc (by decide +kernel)) | refine wp_b rfl rfl (fun hc => ?_) (fun hc => ?_) | refine wp_v rfl rfl ?_ | refine ret_t ?_ | refine ret_f ?_ | fail
          obtain ⟨p1, p2, p3⟩ := P
          refine wp_n rfl rfl ?_
          have eR : mTakeArgs M0 fA (fTakes (eFun E g)).reverse [] = (3, (r, M1.2)) := by
            rw [mArgs_eq, em]
            rfl
          rw [eR]
          exact rU_dead (wp_sub (d_callT (bs := bs) sc h2 hg p1 (by decide) m (by omega)) rfl ⟨rfl, rfl, rfl, rfl, rfl, trivial⟩) (ROP.no p1 (qfr.fx (x1.tr p3) (by omega)) (by decide))
end RO1
