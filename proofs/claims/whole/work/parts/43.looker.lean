/-! Looking, as mathematics; class Looker: arrive, goOn. -/
def fLed (F : QF) (i : Nat) : Bool := (fCode F).any fun q => decide (1 < q.1 ∧ q.1 < 5 ∧ q.2.1 = nI i)
def lNext (E : QE) (F : QF) (i : Nat) (S : QS) (M : QM) : Nat × QS × List QV :=
  if i + 1 < (fCode F).length then ((cCome E F S i (i + 1) M.2).1, (cCome E F S i (i + 1) M.2).2, M.1) else (11, S, [])
def lGo (E : QE) (F : QF) (i o : Nat) (a : Int32) (S : QS) (M : QM) : Nat × QS × List QV :=
  if o = 1 ∨ o = 45 then (0, S, [])
  else if 1 < o ∧ o < 5 then
    if (cCome E F S i a.toNatClampNeg M.2).1 = 0 then
      if o = 2 then (0, (cCome E F S i a.toNatClampNeg M.2).2, []) else lNext E F i (cCome E F S i a.toNatClampNeg M.2).2 M
    else ((cCome E F S i a.toNatClampNeg M.2).1, (cCome E F S i a.toNatClampNeg M.2).2, [])
  else lNext E F i S M
def lEnter (S : QS) (i n : Nat) : QS := (S.1, fun j => if j = i then some n else S.2 j)
/-- at instruction i: S what is told, K the stack with which one comes from before -/
def lStep (E : QE) (F : QF) (i : Nat) (S : QS) (K : List QV) : Nat × QS × List QV :=
  match S.1 i, (fCode F)[i]? with
  | some L, some q =>
    if (fLed F i && !K.isEmpty) = true then (8, S, []) else if oNamed E F q.1 q.2.1 q.2.2 = true then
      if (oDo E F (K, L) q.1 q.2.1.toNatClampNeg q.2.2.toNatClampNeg).1 = 0 then
        lGo E F i q.1 q.2.1 (lEnter S i K.length) (oDo E F (K, L) q.1 q.2.1.toNatClampNeg q.2.2.toNatClampNeg).2
      else ((oDo E F (K, L) q.1 q.2.1.toNatClampNeg q.2.2.toNatClampNeg).1, S, [])
    else (16, S, [])
  | _, _ => (10, S, [])
def lLoop (E : QE) (F : QF) : Nat → Nat → QS → List QV → Nat × Nat × QS
  | 0, i, S, _ => (0, i, S)
  | n + 1, i, S, K => if (lStep E F i S K).1 = 0 then lLoop E F n (i + 1) (lStep E F i S K).2.1 (lStep E F i S K).2.2 else ((lStep E F i S K).1, i, (lStep E F i S K).2.1)
def lStart (F : QF) : QS := upS (fun _ => none, fun _ => none) 0 (lBeg F (fTakes F).length)
/-- LOOKING at F: why (0: taken), where, what is told -/
def lLook (E : QE) (F : QF) : Nat × Nat × QS := lLoop E F (fCode F).length 0 (lStart F) []
set_option maxHeartbeats 4000000 in
theorem lt_any {M : QM} {f : QV → QM → QR} (h : ∀ v M, (f v M).1 < 100) : (mTakeAny M f).1 < 100 := by
  unfold mTakeAny
  split
  · exact (by decide : 1 < 100)
  · exact h _ _
set_option maxHeartbeats 4000000 in
theorem lt_take {M : QM} {t : Nat} {f : QV → QM → QR} (h : ∀ v M, (f v M).1 < 100) : (mTake M t f).1 < 100 := lt_any fun v M => by
  show (if v.1 = t then f v M else (3, M)).1 < 100
  split
  · exact h _ _
  · exact (by decide : 3 < 100)
set_option maxHeartbeats 4000000 in
theorem lt_ref {M : QM} {w : Bool} {t : Nat} {f : QV → QM → QR} (h : ∀ v M, (f v M).1 < 100) : (mTakeRef M w t f).1 < 100 := lt_any fun v M => by
  show (if (!tref v.1 || (t != 0 && tinner v.1 != t)) = true then ((3, M) : QR) else if (w && !twr v.1) = true then (7, M) else f v M).1 < 100
  split
  · exact (by decide : 3 < 100)
  · split
    · exact (by decide : 7 < 100)
    · exact h _ _
set_option maxHeartbeats 4000000 in
theorem lt_put {M : QM} {v : QV} : (mPut M v).1 < 100 := by
  unfold mPut
  split
  · exact (by decide : 2 < 100)
  · exact (by decide : 0 < 100)
set_option maxHeartbeats 4000000 in
theorem lt_if {b : Bool} {w : Nat} {M : QM} {f : QR} (hw : w < 100) (hf : f.1 < 100) : (mIf b w M f).1 < 100 := by
  unfold mIf
  split
  · exact hf
  · exact hw
set_option maxHeartbeats 4000000 in
theorem lt_then {R : QR} {f : QM → QR} (hR : R.1 < 100) (hf : ∀ M, (f M).1 < 100) : (mThen R f).1 < 100 := by
  unfold mThen
  split
  · exact hf _
  · exact hR
set_option maxHeartbeats 4000000 in
theorem lt_takeAll : ∀ (ts : List Nat) (M : QM), (mTakeAll M ts).1 < 100
  | [], M => (by decide : 0 < 100)
  | t :: ts, M => lt_take fun _ M => lt_takeAll ts M
set_option maxHeartbeats 4000000 in
theorem lt_putAll : ∀ (vs : List QV) (M : QM), (mPutAll M vs).1 < 100
  | [], M => (by decide : 0 < 100)
  | v :: vs, M => by
    show (if (mPut M v).1 = 0 then mPutAll (mPut M v).2 vs else mPut M v).1 < 100
    split
    · exact lt_putAll vs _
    · exact lt_put
set_option maxHeartbeats 4000000 in
theorem lt_args {f : List Int64 → QM → QR} (h : ∀ ms M, (f ms M).1 < 100) : ∀ (ts : List Nat) (acc : List Int64) (M : QM), (mTakeArgs M f ts acc).1 < 100
  | [], acc, M => h _ _
  | t :: ts, acc, M => lt_take fun v M => lt_args h ts (v.2 :: acc) M
set_option maxHeartbeats 4000000 in
theorem oLocal_lt (E : QE) (F : QF) (M : QM) (o a : Nat) : (oLocal E F M o a).1 < 100 := by
  unfold oLocal
  try dsimp only
  repeat' first | exact lt_put | exact lt_takeAll _ _ | exact lt_putAll _ _ | refine lt_args (fun ms M => ?_) _ _ _ | refine lt_any fun v M => ?_ | refine lt_take fun v M => ?_ | refine lt_ref fun v M => ?_ | refine lt_if (by decide) ?_ | refine lt_then ?_ fun M => ?_ | exact Nat.le_of_ble_eq_true rfl | split | fail
set_option maxHeartbeats 4000000 in
theorem oReference_lt (E : QE) (F : QF) (M : QM) (o a b : Nat) : (oReference E F M o a b).1 < 100 := by
  unfold oReference
  repeat' first | exact lt_put | exact lt_takeAll _ _ | exact lt_putAll _ _ | refine lt_args (fun ms M => ?_) _ _ _ | refine lt_any fun v M => ?_ | refine lt_take fun v M => ?_ | refine lt_ref fun v M => ?_ | refine lt_if (by decide) ?_ | refine lt_then ?_ fun M => ?_ | exact Nat.le_of_ble_eq_true rfl | split | fail
set_option maxHeartbeats 4000000 in
theorem oPack_lt (E : QE) (M : QM) (o a : Nat) : (oPack E M o a).1 < 100 := by
  unfold oPack
  repeat' first | exact lt_put | exact lt_takeAll _ _ | exact lt_putAll _ _ | refine lt_args (fun ms M => ?_) _ _ _ | refine lt_any fun v M => ?_ | refine lt_take fun v M => ?_ | refine lt_ref fun v M => ?_ | refine lt_if (by decide) ?_ | refine lt_then ?_ fun M => ?_ | exact Nat.le_of_ble_eq_true rfl | split | fail
set_option maxHeartbeats 4000000 in
theorem oCall_lt (E : QE) (F : QF) (M : QM) (a : Nat) : (oCall E F M a).1 < 100 := by
  rw [oCall_eq]
  refine lt_args (fun ms M => ?_) _ _ _
  unfold oCallK
  repeat' first | exact lt_put | exact lt_takeAll _ _ | exact lt_putAll _ _ | refine lt_args (fun ms M => ?_) _ _ _ | refine lt_any fun v M => ?_ | refine lt_take fun v M => ?_ | refine lt_ref fun v M => ?_ | refine lt_if (by decide) ?_ | refine lt_then ?_ fun M => ?_ | exact Nat.le_of_ble_eq_true rfl | split | fail
set_option maxHeartbeats 4000000 in
theorem oNumbers_lt (E : QE) (M : QM) (o : Nat) : (oNumbers E M o).1 < 100 := by
  unfold oNumbers
  repeat' first | exact lt_put | exact lt_takeAll _ _ | exact lt_putAll _ _ | refine lt_args (fun ms M => ?_) _ _ _ | refine lt_any fun v M => ?_ | refine lt_take fun v M => ?_ | refine lt_ref fun v M => ?_ | refine lt_if (by decide) ?_ | refine lt_then ?_ fun M => ?_ | exact Nat.le_of_ble_eq_true rfl | split | fail
set_option maxHeartbeats 4000000 in
theorem oResource_lt (E : QE) (F : QF) (M : QM) (o a : Nat) : (oResource E F M o a).1 < 100 := by
  unfold oResource
  try dsimp only
  repeat' first | exact lt_put | exact lt_takeAll _ _ | exact lt_putAll _ _ | refine lt_args (fun ms M => ?_) _ _ _ | refine lt_any fun v M => ?_ | refine lt_take fun v M => ?_ | refine lt_ref fun v M => ?_ | refine lt_if (by decide) ?_ | refine lt_then ?_ fun M => ?_ | exact Nat.le_of_ble_eq_true rfl | split | fail
set_option maxHeartbeats 4000000 in
theorem oVector_lt (E : QE) (F : QF) (M : QM) (o a b : Nat) : (oVector E F M o a b).1 < 100 := by
  unfold oVector
  try dsimp only
  repeat' first | exact lt_put | exact lt_takeAll _ _ | exact lt_putAll _ _ | refine lt_args (fun ms M => ?_) _ _ _ | refine lt_any fun v M => ?_ | refine lt_take fun v M => ?_ | refine lt_ref fun v M => ?_ | refine lt_if (by decide) ?_ | refine lt_then ?_ fun M => ?_ | exact Nat.le_of_ble_eq_true rfl | split | fail
set_option maxHeartbeats 4000000 in
theorem oSteer_lt (E : QE) (F : QF) (M : QM) (o : Nat) : (oSteer E F M o).1 < 100 := by
  unfold oSteer oLeave
  repeat' first | exact lt_put | exact lt_takeAll _ _ | exact lt_putAll _ _ | refine lt_args (fun ms M => ?_) _ _ _ | refine lt_any fun v M => ?_ | refine lt_take fun v M => ?_ | refine lt_ref fun v M => ?_ | refine lt_if (by decide) ?_ | refine lt_then ?_ fun M => ?_ | exact Nat.le_of_ble_eq_true rfl | split | fail
set_option maxHeartbeats 4000000 in
theorem oConst_lt (M : QM) (o : Nat) : (oConst M o).1 < 100 := by
  unfold oConst
  repeat' first | exact lt_put | exact lt_takeAll _ _ | exact lt_putAll _ _ | refine lt_args (fun ms M => ?_) _ _ _ | refine lt_any fun v M => ?_ | refine lt_take fun v M => ?_ | refine lt_ref fun v M => ?_ | refine lt_if (by decide) ?_ | refine lt_then ?_ fun M => ?_ | exact Nat.le_of_ble_eq_true rfl | split | fail
set_option maxHeartbeats 4000000 in
theorem oDo_lt (E : QE) (F : QF) (M : QM) (o a b : Nat) : (oDo E F M o a b).1 < 100 := by
  unfold oDo
  repeat' split
  · exact oSteer_lt _ _ _ _
  · exact oConst_lt _ _
  · exact oLocal_lt _ _ _ _ _
  · exact oReference_lt _ _ _ _ _ _
  · exact oPack_lt _ _ _ _
  · exact oCall_lt _ _ _ _
  · exact oNumbers_lt _ _ _
  · exact oResource_lt _ _ _ _ _
  · exact oVector_lt _ _ _ _ _ _
set_option maxHeartbeats 4000000 in
theorem cCome_mono {E : QE} {F : QF} {S : QS} {i j : Nat} {now : Nat → Option Int64} {k : Nat} (h : (S.1 k).isSome = true) : ((cCome E F S i j now).2.1 k).isSome = true := by
  unfold cCome
  split
  · exact h
  · split
    · show ((if k = j then some now else S.1 k) : Option _).isSome = true
      split
      · rfl
      · exact h
    · split
      · show ((if k = j then some _ else S.1 k) : Option _).isSome = true
        split
        · rfl
        · exact h
      · exact h
set_option maxHeartbeats 4000000 in
theorem cCome_lt {E : QE} {F : QF} {S : QS} {i j : Nat} {now : Nat → Option Int64} : (cCome E F S i j now).1 < 10 := by
  unfold cCome
  split
  · show (if cFits E F ((S.1 j).getD fun _ => none) now = true then 0 else 9) < 10
    split
    · decide
    · decide
  · split
    · exact (by decide : 0 < 10)
    · split
      · exact (by decide : 0 < 10)
      · exact (by decide : 9 < 10)
def LKS (h : qH) (sa fa : Nat → Nat) (E : QE) (c : Nat) (F : QF) (M : QM) (S : QS) (cfb : Bool) : Prop :=
  MS0 h sa fa E c F M ∧ h[6]? = some (.inr (3, [.ref 1, .ref 13, .ref 7, .ref 12, .ref c, .int (bI cfb), .int (nI 0), .int (-nI 2)])) ∧ StsAt h (fLocs F).length S ∧ ∃ f : Nat → Int32, h[12]? = some (.inl (3, 256, .inl f)) ∧ ∀ i, i < (fCode F).length → f i = bI (fLed F i)
set_option maxHeartbeats 4000000 in
theorem MS0.fx1 {lo hi c : Nat} {h h' : qH} {sa fa : Nat → Nat} {E : QE} {F : QF} {M : QM} (H : MS0 h sa fa E c F M) (x : qfx lo hi h h') (h1 : 6 ≤ lo) (h2 : hi ≤ 12) : MS0 h' sa fa E c F M := by
  obtain ⟨a1, a2, a3, ⟨⟨cv, xv, yv, a4⟩, g, a5⟩, ⟨tt, tm, a6⟩, a7⟩ := H
  exact ⟨a1.fx x h1 (by omega), a2.fx x (by omega), a3, ⟨⟨cv, xv, yv, x.at (by omega) a4⟩, g, x.at (by omega) a5⟩, ⟨tt, tm, a6.fx x (by omega)⟩, a7.fx x (by omega)⟩
set_option maxHeartbeats 4000000 in
theorem MS0.stk {h h' : qH} {sa fa : Nat → Nat} {E : QE} {c : Nat} {F : QF} {M : QM} (H : MS0 h sa fa E c F M) (x : qfx 14 17 h h') {l : List QV} {tt tm : Int64} (s : StkAt h' l tt tm) : MS0 h' sa fa E c F (l, M.2) := by
  obtain ⟨a1, a2, a3, ⟨⟨cv, xv, yv, a4⟩, g, a5⟩, a6, a7⟩ := H
  exact ⟨a1.fx x (by omega) (by omega), a2.fx x (by omega), a3, ⟨⟨cv, xv, yv, x.at (by omega) a4⟩, g, x.at (by omega) a5⟩, ⟨tt, tm, s⟩, a7.fx x (by omega)⟩
set_option maxHeartbeats 4000000 in
theorem MS0.loc {h h' : qH} {sa fa : Nat → Nat} {E : QE} {c : Nat} {F : QF} {M : QM} (H : MS0 h sa fa E c F M) (x : qfx 18 19 h h') {loc : Nat → Option Int64} (s : LocAt h' E F loc) : MS0 h' sa fa E c F (M.1, loc) := by
  obtain ⟨a1, a2, a3, ⟨⟨cv, xv, yv, a4⟩, g, a5⟩, ⟨tt, tm, a6⟩, a7⟩ := H
  exact ⟨a1.fx x (by omega) (by omega), a2.fx x (by omega), a3, ⟨⟨cv, xv, yv, x.at (by omega) a4⟩, g, x.at (by omega) a5⟩, ⟨tt, tm, a6.fx x (by omega)⟩, s⟩
section K2
variable (sc : Nat × (Nat → Int32)) (h : qH) {sa fa : Nat → Nat} {E : QE} {c : Nat} {F : QF} {M : QM} {S : QS} {cfb : Bool}
set_option maxHeartbeats 4000000 in
theorem c_Op_branches {o : Nat} (ho : o < 60) : wp sc (m_Op_branches, 0, qargs 0 [.int (nI o)], [], h) (rI (pI (bI (decide (1 < o ∧ o < 5))) h)) := by
  repeat' first | refine wp_ist rfl rfl rfl rfl ?_ | refine wp_lst rfl rfl rfl rfl ?_ | refine wp_iinc rfl rfl rfl rfl ?_ | refine wp_f rfl rfl rfl ?_ | refine wp_getf rfl (by repeat' first | assumption | refine qset_ne rfl ?_ | refine qset_self (c0 := ?_) ?_ | refine qset_nf (by omega) ?_ | fail) rfl ?_ | refine wp_ast rfl rfl rfl rfl ?_ | refine wp_asN rfl rfl rfl rfl ?_ | refine wp_putf rfl (by repeat' first | assumption | refine qset_ne rfl ?_ | refine qset_self (c0 := ?_) ?_ | refine qset_nf (by omega) ?_ | fail) (by exact Nat.le_of_ble_eq_true rfl) rfl ?_ | refine wp_iald rfl (by repeat' first | assumption | refine qset_ne rfl ?_ | refine qset_self (c0 := ?_) ?_ | refine qset_nf (by omega) ?_ | fail) ?_ ?_ | refine wp_lald rfl (by repeat' first | assumption | refine qset_ne rfl ?_ | refine qset_self (c0 := ?_) ?_ | refine qset_nf (by omega) ?_ | fail) ?_ ?_ | refine wp_zald rfl (by repeat' first | assumption | refine qset_ne rfl ?_ | refine qset_self (c0 := ?_) ?_ | refine qset_nf (by omega) ?_ | fail) ?_ ?_ | refine wp_iast rfl (by repeat' first | assumption | refine qset_ne rfl ?_ | refine qset_self (c0 := ?_) ?_ | refine qset_nf (by omega) ?_ | fail) ?_ ?_ | refine wp_last rfl (by repeat' first | assumption | refine qset_ne rfl ?_ | refine qset_self (c0 := ?_) ?_ | refine qset_nf (by omega) ?_ | fail) ?_ ?_ | refine wp_alen rfl (by repeat' first | assumption | refine qset_ne rfl ?_ | refine qset_self (c0 := ?_) ?_ | refine qset_nf (by omega) ?_ | fail) rfl ?_ | refine wp_zast rfl (by repeat' first | assumption | refine qset_ne rfl ?_ | refine qset_self (c0 := ?_) ?_ | refine qset_nf (by omega) ?_ | fail) ?_ ?_ | refine wp_b rfl rfl (fun hc => absurd hc (by decide +kernel)) (fun _ => ?_) | refine wp_b rfl rfl (fun _ => ?_) (fun hc => absurd hc (by decide +kernel)) | refine wp_b rfl rfl (fun hc => ?_) (fun hc => ?_) | refine wp_v rfl rfl ?_ | refine ret_t ?_ | refine ret_f ?_ | fail
  all_goals (try simp (disch := omega) only [c2_eq, c2_ne, c2_lt, c2_ge, c2_gt, c2_le, c1_eq, c1_ne, c1_lt, c1_le, c1_gt, c1_ge, lg_le, lg_lt, lg_ge, lg_gt, lg_eq, lg_ne, bI_eq, bI_ne, qlc_0, qlc_2, qlc_3, qlc_4, qlc_5, qlc_7, qlc_8, qlc_9, qlc_10, qlc_11, qlc_12, qlc_14, lN_eq0, lN_leN, lN_ltN, lN_eqN, decide_eq_true_eq, decide_eq_false_iff_not, Bool.not_eq_true', Bool.not_eq_false'] at *)
  all_goals omega
set_option maxHeartbeats 4000000 in
theorem l_nm1 {i o : Nat} (g : 1 < o ∧ o < 5) {x y : Int32} (hi : (fCode F)[i]? = some (o, x, y)) {v5 v6 v7 : Value} (e6 : h[6]? = some (.inr (3, [.ref 1, .ref 13, .ref 7, .ref 12, .ref c, v5, v6, v7]))) (HL : LdAt h sa fa E) (HC : CdAt h c F) : wp sc (m_Looker_areOperandsNamed, 23, [(5, .int y), (4, .int x), (3, .int (nI o)), (2, .int (nI i)), (1, .ref c), (0, .ref 6)], [], h) (rI (pI (bI (oNamed E F o x y)) h)) := by
  have hE := E_len HL
  have hE2 := E_len2 HL
  obtain ⟨TL, v2, v4, e1⟩ := HL.el
  have hE3 : E.2.1.length ≤ 32 := by obtain ⟨_, _, _, z, _⟩ := TL; exact z
  have hl := HC.lens
  obtain ⟨f1, f2, f3, b1, b2, b3, b4, b5, b6, b7, b8, b9, b10⟩ := id HC
  obtain ⟨p1, p2, p3, p4⟩ := b10 i _ hi
  simp only at p1 p2 p3 p4
  have hil : i < (fCode F).length := (List.getElem?_eq_some_iff.mp hi).1
  obtain ⟨tf, t1, t2⟩ := id TL
  have hN : oNamed E F o x y = oNamed E F o x y := rfl
  have e : oNamed E F o x y = (decide (0 ≤ x) && decide (x < nI (fCode F).length)) := by rw [oNamed_eq, if_pos g]
  have hb := c_Op_branches sc h p4
  rw [decide_eq_true g] at hb
  rw [e]
  repeat' first | refine wp_Sip rfl rfl rfl (hb) ?_ | refine wp_Vip rfl rfl (by repeat' first | assumption | refine qset_ne rfl ?_ | refine qset_self (c0 := ?_) ?_ | refine qset_nf (by omega) ?_ | fail) rfl (c_Code_hasInstruction sc h HC x) ?_ | (refine wp_retz rfl rfl (bI_bit _) ?_) | refine wp_ist rfl rfl rfl rfl ?_ | refine wp_lst rfl rfl rfl rfl ?_ | refine wp_iinc rfl rfl rfl rfl ?_ | refine wp_f rfl rfl rfl ?_ | refine wp_getf rfl (by repeat' first | assumption | refine qset_ne rfl ?_ | refine qset_self (c0 := ?_) ?_ | refine qset_nf (by omega) ?_ | fail) rfl ?_ | refine wp_ast rfl rfl rfl rfl ?_ | refine wp_asN rfl rfl rfl rfl ?_ | refine wp_putf rfl (by repeat' first | assumption | refine qset_ne rfl ?_ | refine qset_self (c0 := ?_) ?_ | refine qset_nf (by omega) ?_ | fail) (by exact Nat.le_of_ble_eq_true rfl) rfl ?_ | refine wp_iald rfl (by repeat' first | assumption | refine qset_ne rfl ?_ | refine qset_self (c0 := ?_) ?_ | refine qset_nf (by omega) ?_ | fail) ?_ ?_ | refine wp_lald rfl (by repeat' first | assumption | refine qset_ne rfl ?_ | refine qset_self (c0 := ?_) ?_ | refine qset_nf (by omega) ?_ | fail) ?_ ?_ | refine wp_zald rfl (by repeat' first | assumption | refine qset_ne rfl ?_ | refine qset_self (c0 := ?_) ?_ | refine qset_nf (by omega) ?_ | fail) ?_ ?_ | refine wp_iast rfl (by repeat' first | assumption | refine qset_ne rfl ?_ | refine qset_self (c0 := ?_) ?_ | refine qset_nf (by omega) ?_ | fail) ?_ ?_ | refine wp_last rfl (by repeat' first | assumption | refine qset_ne rfl ?_ | refine qset_self (c0 := ?_) ?_ | refine qset_nf (by omega) ?_ | fail) ?_ ?_ | refine wp_alen rfl (by repeat' first | assumption | refine qset_ne rfl ?_ | refine qset_self (c0 := ?_) ?_ | refine qset_nf (by omega) ?_ | fail) rfl ?_ | refine wp_zast rfl (by repeat' first | assumption | refine qset_ne rfl ?_ | refine qset_self (c0 := ?_) ?_ | refine qset_nf (by omega) ?_ | fail) ?_ ?_ | refine wp_b rfl rfl (fun hc => absurd hc (by decide +kernel)) (fun _ => ?_) | refine wp_b rfl rfl (fun _ => ?_) (fun hc => absurd hc (by decide +kernel)) | refine wp_b rfl rfl (fun hc => ?_) (fun hc => ?_) | refine wp_v rfl rfl ?_ | refine ret_t ?_ | refine ret_f ?_ | fail
  exact ⟨rfl, rfl⟩
set_option maxHeartbeats 4000000 in
theorem l_nm2 {i o : Nat} (g : 10 < o ∧ o < 16) {x y : Int32} (hi : (fCode F)[i]? = some (o, x, y)) {v5 v6 v7 : Value} (e6 : h[6]? = some (.inr (3, [.ref 1, .ref 13, .ref 7, .ref 12, .ref c, v5, v6, v7]))) (HL : LdAt h sa fa E) (HC : CdAt h c F) : wp sc (m_Looker_areOperandsNamed, 23, [(5, .int y), (4, .int x), (3, .int (nI o)), (2, .int (nI i)), (1, .ref c), (0, .ref 6)], [], h) (rI (pI (bI (oNamed E F o x y)) h)) := by
  have hE := E_len HL
  have hE2 := E_len2 HL
  obtain ⟨TL, v2, v4, e1⟩ := HL.el
  have hE3 : E.2.1.length ≤ 32 := by obtain ⟨_, _, _, z, _⟩ := TL; exact z
  have hl := HC.lens
  obtain ⟨f1, f2, f3, b1, b2, b3, b4, b5, b6, b7, b8, b9, b10⟩ := id HC
  obtain ⟨p1, p2, p3, p4⟩ := b10 i _ hi
  simp only at p1 p2 p3 p4
  have hil : i < (fCode F).length := (List.getElem?_eq_some_iff.mp hi).1
  obtain ⟨tf, t1, t2⟩ := id TL
  have hN : oNamed E F o x y = oNamed E F o x y := rfl
  have e : oNamed E F o x y = (decide (0 ≤ x) && decide (x < nI (fLocs F).length)) := by rw [oNamed_eq, if_neg (by omega), if_pos g]
  have hb := c_Op_branches sc h p4
  rw [decide_eq_false (by omega)] at hb
  rw [e]
  repeat' first | refine wp_Sip rfl rfl rfl (hb) ?_ | refine wp_Vip rfl rfl (by repeat' first | assumption | refine qset_ne rfl ?_ | refine qset_self (c0 := ?_) ?_ | refine qset_nf (by omega) ?_ | fail) rfl (c_Code_hasLocal sc h HC x) ?_ | (refine wp_retz rfl rfl (bI_bit _) ?_) | refine wp_ist rfl rfl rfl rfl ?_ | refine wp_lst rfl rfl rfl rfl ?_ | refine wp_iinc rfl rfl rfl rfl ?_ | refine wp_f rfl rfl rfl ?_ | refine wp_getf rfl (by repeat' first | assumption | refine qset_ne rfl ?_ | refine qset_self (c0 := ?_) ?_ | refine qset_nf (by omega) ?_ | fail) rfl ?_ | refine wp_ast rfl rfl rfl rfl ?_ | refine wp_asN rfl rfl rfl rfl ?_ | refine wp_putf rfl (by repeat' first | assumption | refine qset_ne rfl ?_ | refine qset_self (c0 := ?_) ?_ | refine qset_nf (by omega) ?_ | fail) (by exact Nat.le_of_ble_eq_true rfl) rfl ?_ | refine wp_iald rfl (by repeat' first | assumption | refine qset_ne rfl ?_ | refine qset_self (c0 := ?_) ?_ | refine qset_nf (by omega) ?_ | fail) ?_ ?_ | refine wp_lald rfl (by repeat' first | assumption | refine qset_ne rfl ?_ | refine qset_self (c0 := ?_) ?_ | refine qset_nf (by omega) ?_ | fail) ?_ ?_ | refine wp_zald rfl (by repeat' first | assumption | refine qset_ne rfl ?_ | refine qset_self (c0 := ?_) ?_ | refine qset_nf (by omega) ?_ | fail) ?_ ?_ | refine wp_iast rfl (by repeat' first | assumption | refine qset_ne rfl ?_ | refine qset_self (c0 := ?_) ?_ | refine qset_nf (by omega) ?_ | fail) ?_ ?_ | refine wp_last rfl (by repeat' first | assumption | refine qset_ne rfl ?_ | refine qset_self (c0 := ?_) ?_ | refine qset_nf (by omega) ?_ | fail) ?_ ?_ | refine wp_alen rfl (by repeat' first | assumption | refine qset_ne rfl ?_ | refine qset_self (c0 := ?_) ?_ | refine qset_nf (by omega) ?_ | fail) rfl ?_ | refine wp_zast rfl (by repeat' first | assumption | refine qset_ne rfl ?_ | refine qset_self (c0 := ?_) ?_ | refine qset_nf (by omega) ?_ | fail) ?_ ?_ | refine wp_b rfl rfl (fun hc => absurd hc (by decide +kernel)) (fun _ => ?_) | refine wp_b rfl rfl (fun _ => ?_) (fun hc => absurd hc (by decide +kernel)) | refine wp_c2y rfl (by omega) (by omega) (by dsimp only [qn2]; omega) ?_ | refine wp_c2n rfl (by omega) (by omega) (by dsimp only [qn2]; omega) ?_ | refine wp_c1y rfl (by omega) (by first | exact True.intro | (dsimp only [qn1]; omega)) ?_ | refine wp_c1n rfl (by omega) (by first | exact (fun z => z) | (dsimp only [qn1]; omega)) ?_ | refine wp_b rfl rfl (fun hc => ?_) (fun hc => ?_) | refine wp_v rfl rfl ?_ | refine ret_t ?_ | refine ret_f ?_ | fail
  exact ⟨rfl, rfl⟩
set_option maxHeartbeats 4000000 in
theorem l_nm3 {i o : Nat} (g : o = 16 ∨ o = 17) {x y : Int32} (hi : (fCode F)[i]? = some (o, x, y)) {v5 v6 v7 : Value} (e6 : h[6]? = some (.inr (3, [.ref 1, .ref 13, .ref 7, .ref 12, .ref c, v5, v6, v7]))) (HL : LdAt h sa fa E) (HC : CdAt h c F) : wp sc (m_Looker_areOperandsNamed, 23, [(5, .int y), (4, .int x), (3, .int (nI o)), (2, .int (nI i)), (1, .ref c), (0, .ref 6)], [], h) (rI (pI (bI (oNamed E F o x y)) h)) := by
  have hE := E_len HL
  have hE2 := E_len2 HL
  obtain ⟨TL, v2, v4, e1⟩ := HL.el
  have hE3 : E.2.1.length ≤ 32 := by obtain ⟨_, _, _, z, _⟩ := TL; exact z
  have hl := HC.lens
  obtain ⟨f1, f2, f3, b1, b2, b3, b4, b5, b6, b7, b8, b9, b10⟩ := id HC
  obtain ⟨p1, p2, p3, p4⟩ := b10 i _ hi
  simp only at p1 p2 p3 p4
  have hil : i < (fCode F).length := (List.getElem?_eq_some_iff.mp hi).1
  obtain ⟨tf, t1, t2⟩ := id TL
  have hN : oNamed E F o x y = oNamed E F o x y := rfl
  have e : oNamed E F o x y = ((decide (0 ≤ x) && decide (x < nI E.1.length)) && (decide (0 ≤ y) && decide (y < nI (eFields E x.toNatClampNeg).length))) := by rw [oNamed_eq, if_neg (by omega), if_neg (by omega), if_pos g]
  have hb := c_Op_branches sc h p4
  rw [decide_eq_false (by omega)] at hb
  rw [e]
  rcases g with rfl | rfl
  all_goals
    repeat' first | refine wp_Sip rfl rfl rfl (hb) ?_ | refine wp_Vip rfl rfl (by repeat' first | assumption | refine qset_ne rfl ?_ | refine qset_self (c0 := ?_) ?_ | refine qset_nf (by omega) ?_ | fail) rfl (c_Ledger_hasField sc h HL x y) ?_ | (refine wp_retz rfl rfl (bI_bit _) ?_) | refine wp_ist rfl rfl rfl rfl ?_ | refine wp_lst rfl rfl rfl rfl ?_ | refine wp_iinc rfl rfl rfl rfl ?_ | refine wp_f rfl rfl rfl ?_ | refine wp_getf rfl (by repeat' first | assumption | refine qset_ne rfl ?_ | refine qset_self (c0 := ?_) ?_ | refine qset_nf (by omega) ?_ | fail) rfl ?_ | refine wp_ast rfl rfl rfl rfl ?_ | refine wp_asN rfl rfl rfl rfl ?_ | refine wp_putf rfl (by repeat' first | assumption | refine qset_ne rfl ?_ | refine qset_self (c0 := ?_) ?_ | refine qset_nf (by omega) ?_ | fail) (by exact Nat.le_of_ble_eq_true rfl) rfl ?_ | refine wp_iald rfl (by repeat' first | assumption | refine qset_ne rfl ?_ | refine qset_self (c0 := ?_) ?_ | refine qset_nf (by omega) ?_ | fail) ?_ ?_ | refine wp_lald rfl (by repeat' first | assumption | refine qset_ne rfl ?_ | refine qset_self (c0 := ?_) ?_ | refine qset_nf (by omega) ?_ | fail) ?_ ?_ | refine wp_zald rfl (by repeat' first | assumption | refine qset_ne rfl ?_ | refine qset_self (c0 := ?_) ?_ | refine qset_nf (by omega) ?_ | fail) ?_ ?_ | refine wp_iast rfl (by repeat' first | assumption | refine qset_ne rfl ?_ | refine qset_self (c0 := ?_) ?_ | refine qset_nf (by omega) ?_ | fail) ?_ ?_ | refine wp_last rfl (by repeat' first | assumption | refine qset_ne rfl ?_ | refine qset_self (c0 := ?_) ?_ | refine qset_nf (by omega) ?_ | fail) ?_ ?_ | refine wp_alen rfl (by repeat' first | assumption | refine qset_ne rfl ?_ | refine qset_self (c0 := ?_) ?_ | refine qset_nf (by omega) ?_ | fail) rfl ?_ | refine wp_zast rfl (by repeat' first | assumption | refine qset_ne rfl ?_ | refine qset_self (c0 := ?_) ?_ | refine qset_nf (by omega) ?_ | fail) ?_ ?_ | refine wp_b rfl rfl (fun hc => absurd hc (by decide +kernel)) (fun _ => ?_) | refine wp_b rfl rfl (fun _ => ?_) (fun hc => absurd hc (by decide +kernel)) | refine wp_b rfl rfl (fun hc => ?_) (fun hc => ?_) | refine wp_v rfl rfl ?_ | refine ret_t ?_ | refine ret_f ?_ | fail
    exact ⟨rfl, rfl⟩
set_option maxHeartbeats 4000000 in
theorem l_nm4 {i o : Nat} (g : o = 21 ∨ o = 22 ∨ (46 < o ∧ o < 52)) {x y : Int32} (hi : (fCode F)[i]? = some (o, x, y)) {v5 v6 v7 : Value} (e6 : h[6]? = some (.inr (3, [.ref 1, .ref 13, .ref 7, .ref 12, .ref c, v5, v6, v7]))) (HL : LdAt h sa fa E) (HC : CdAt h c F) : wp sc (m_Looker_areOperandsNamed, 23, [(5, .int y), (4, .int x), (3, .int (nI o)), (2, .int (nI i)), (1, .ref c), (0, .ref 6)], [], h) (rI (pI (bI (oNamed E F o x y)) h)) := by
  have hE := E_len HL
  have hE2 := E_len2 HL
  obtain ⟨TL, v2, v4, e1⟩ := HL.el
  have hE3 : E.2.1.length ≤ 32 := by obtain ⟨_, _, _, z, _⟩ := TL; exact z
  have hl := HC.lens
  obtain ⟨f1, f2, f3, b1, b2, b3, b4, b5, b6, b7, b8, b9, b10⟩ := id HC
  obtain ⟨p1, p2, p3, p4⟩ := b10 i _ hi
  simp only at p1 p2 p3 p4
  have hil : i < (fCode F).length := (List.getElem?_eq_some_iff.mp hi).1
  obtain ⟨tf, t1, t2⟩ := id TL
  have hN : oNamed E F o x y = oNamed E F o x y := rfl
  have e : oNamed E F o x y = (decide (0 ≤ x) && decide (x < nI E.1.length)) := by rw [oNamed_eq, if_neg (by omega), if_neg (by omega), if_neg (by omega), if_pos g]
  have hb := c_Op_branches sc h p4
  rw [decide_eq_false (by omega)] at hb
  have hs := c_Ledger_structureAt sc h HL x
  rw [e]
  rcases g with g | g | g
  all_goals
    rcases pk_ix x (show E.1.length < 2 ^ 31 by omega) with hx | hx | ⟨k, hk, rfl⟩
    · rw [ixN_n (Or.inl (by simpa [qcc1] using hx))] at hs
      have e2 : (decide (0 ≤ x) && decide (x < nI E.1.length)) = false := by simp [Int32.not_le.mpr hx]
      rw [e2]
      repeat' first | refine wp_Sip rfl rfl rfl (hb) ?_ | refine wp_Vop rfl rfl (by repeat' first | assumption | refine qset_ne rfl ?_ | refine qset_self (c0 := ?_) ?_ | refine qset_nf (by omega) ?_ | fail) rfl (hs) ?_ | refine wp_ist rfl rfl rfl rfl ?_ | refine wp_lst rfl rfl rfl rfl ?_ | refine wp_iinc rfl rfl rfl rfl ?_ | refine wp_f rfl rfl rfl ?_ | refine wp_getf rfl (by repeat' first | assumption | refine qset_ne rfl ?_ | refine qset_self (c0 := ?_) ?_ | refine qset_nf (by omega) ?_ | fail) rfl ?_ | refine wp_ast rfl rfl rfl rfl ?_ | refine wp_asN rfl rfl rfl rfl ?_ | refine wp_putf rfl (by repeat' first | assumption | refine qset_ne rfl ?_ | refine qset_self (c0 := ?_) ?_ | refine qset_nf (by omega) ?_ | fail) (by exact Nat.le_of_ble_eq_true rfl) rfl ?_ | refine wp_iald rfl (by repeat' first | assumption | refine qset_ne rfl ?_ | refine qset_self (c0 := ?_) ?_ | refine qset_nf (by omega) ?_ | fail) ?_ ?_ | refine wp_lald rfl (by repeat' first | assumption | refine qset_ne rfl ?_ | refine qset_self (c0 := ?_) ?_ | refine qset_nf (by omega) ?_ | fail) ?_ ?_ | refine wp_zald rfl (by repeat' first | assumption | refine qset_ne rfl ?_ | refine qset_self (c0 := ?_) ?_ | refine qset_nf (by omega) ?_ | fail) ?_ ?_ | refine wp_iast rfl (by repeat' first | assumption | refine qset_ne rfl ?_ | refine qset_self (c0 := ?_) ?_ | refine qset_nf (by omega) ?_ | fail) ?_ ?_ | refine wp_last rfl (by repeat' first | assumption | refine qset_ne rfl ?_ | refine qset_self (c0 := ?_) ?_ | refine qset_nf (by omega) ?_ | fail) ?_ ?_ | refine wp_alen rfl (by repeat' first | assumption | refine qset_ne rfl ?_ | refine qset_self (c0 := ?_) ?_ | refine qset_nf (by omega) ?_ | fail) rfl ?_ | refine wp_zast rfl (by repeat' first | assumption | refine qset_ne rfl ?_ | refine qset_self (c0 := ?_) ?_ | refine qset_nf (by omega) ?_ | fail) ?_ ?_ | refine wp_b rfl rfl (fun hc => absurd hc (by decide +kernel)) (fun _ => ?_) | refine wp_b rfl rfl (fun _ => ?_) (fun hc => absurd hc (by decide +kernel)) | refine wp_c2y rfl (by omega) (by omega) (by dsimp only [qn2]; omega) ?_ | refine wp_c2n rfl (by omega) (by omega) (by dsimp only [qn2]; omega) ?_ | refine wp_c1y rfl (by omega) (by first | exact True.intro | (dsimp only [qn1]; omega)) ?_ | refine wp_c1n rfl (by omega) (by first | exact (fun z => z) | (dsimp only [qn1]; omega)) ?_ | refine wp_b rfl rfl (fun hc => ?_) (fun hc => ?_) | refine wp_v rfl rfl ?_ | refine ret_t ?_ | refine ret_f ?_ | fail
      all_goals rfl
    · rw [ixN_n (Or.inr (by simpa [qcc2] using hx))] at hs
      have e2 : (decide (0 ≤ x) && decide (x < nI E.1.length)) = false := by simp [Int32.not_lt.mpr hx]
      rw [e2]
      repeat' first | refine wp_Sip rfl rfl rfl (hb) ?_ | refine wp_Vop rfl rfl (by repeat' first | assumption | refine qset_ne rfl ?_ | refine qset_self (c0 := ?_) ?_ | refine qset_nf (by omega) ?_ | fail) rfl (hs) ?_ | refine wp_ist rfl rfl rfl rfl ?_ | refine wp_lst rfl rfl rfl rfl ?_ | refine wp_iinc rfl rfl rfl rfl ?_ | refine wp_f rfl rfl rfl ?_ | refine wp_getf rfl (by repeat' first | assumption | refine qset_ne rfl ?_ | refine qset_self (c0 := ?_) ?_ | refine qset_nf (by omega) ?_ | fail) rfl ?_ | refine wp_ast rfl rfl rfl rfl ?_ | refine wp_asN rfl rfl rfl rfl ?_ | refine wp_putf rfl (by repeat' first | assumption | refine qset_ne rfl ?_ | refine qset_self (c0 := ?_) ?_ | refine qset_nf (by omega) ?_ | fail) (by exact Nat.le_of_ble_eq_true rfl) rfl ?_ | refine wp_iald rfl (by repeat' first | assumption | refine qset_ne rfl ?_ | refine qset_self (c0 := ?_) ?_ | refine qset_nf (by omega) ?_ | fail) ?_ ?_ | refine wp_lald rfl (by repeat' first | assumption | refine qset_ne rfl ?_ | refine qset_self (c0 := ?_) ?_ | refine qset_nf (by omega) ?_ | fail) ?_ ?_ | refine wp_zald rfl (by repeat' first | assumption | refine qset_ne rfl ?_ | refine qset_self (c0 := ?_) ?_ | refine qset_nf (by omega) ?_ | fail) ?_ ?_ | refine wp_iast rfl (by repeat' first | assumption | refine qset_ne rfl ?_ | refine qset_self (c0 := ?_) ?_ | refine qset_nf (by omega) ?_ | fail) ?_ ?_ | refine wp_last rfl (by repeat' first | assumption | refine qset_ne rfl ?_ | refine qset_self (c0 := ?_) ?_ | refine qset_nf (by omega) ?_ | fail) ?_ ?_ | refine wp_alen rfl (by repeat' first | assumption | refine qset_ne rfl ?_ | refine qset_self (c0 := ?_) ?_ | refine qset_nf (by omega) ?_ | fail) rfl ?_ | refine wp_zast rfl (by repeat' first | assumption | refine qset_ne rfl ?_ | refine qset_self (c0 := ?_) ?_ | refine qset_nf (by omega) ?_ | fail) ?_ ?_ | refine wp_b rfl rfl (fun hc => absurd hc (by decide +kernel)) (fun _ => ?_) | refine wp_b rfl rfl (fun _ => ?_) (fun hc => absurd hc (by decide +kernel)) | refine wp_c2y rfl (by omega) (by omega) (by dsimp only [qn2]; omega) ?_ | refine wp_c2n rfl (by omega) (by omega) (by dsimp only [qn2]; omega) ?_ | refine wp_c1y rfl (by omega) (by first | exact True.intro | (dsimp only [qn1]; omega)) ?_ | refine wp_c1n rfl (by omega) (by first | exact (fun z => z) | (dsimp only [qn1]; omega)) ?_ | refine wp_b rfl rfl (fun hc => ?_) (fun hc => ?_) | refine wp_v rfl rfl ?_ | refine ret_t ?_ | refine ret_f ?_ | fail
      all_goals rfl
    · rw [ixN_k hk (by omega)] at hs
      have e2 : (decide (0 ≤ nI k) && decide (nI k < nI E.1.length)) = true := by
        rw [Bool.and_eq_true, decide_eq_true_eq, decide_eq_true_eq]
        exact ⟨nI_pos' (by omega), nI_lt hk (by omega)⟩
      rw [e2]
      repeat' first | refine wp_Sip rfl rfl rfl (hb) ?_ | refine wp_Vop rfl rfl (by repeat' first | assumption | refine qset_ne rfl ?_ | refine qset_self (c0 := ?_) ?_ | refine qset_nf (by omega) ?_ | fail) rfl (hs) ?_ | refine wp_ist rfl rfl rfl rfl ?_ | refine wp_lst rfl rfl rfl rfl ?_ | refine wp_iinc rfl rfl rfl rfl ?_ | refine wp_f rfl rfl rfl ?_ | refine wp_getf rfl (by repeat' first | assumption | refine qset_ne rfl ?_ | refine qset_self (c0 := ?_) ?_ | refine qset_nf (by omega) ?_ | fail) rfl ?_ | refine wp_ast rfl rfl rfl rfl ?_ | refine wp_asN rfl rfl rfl rfl ?_ | refine wp_putf rfl (by repeat' first | assumption | refine qset_ne rfl ?_ | refine qset_self (c0 := ?_) ?_ | refine qset_nf (by omega) ?_ | fail) (by exact Nat.le_of_ble_eq_true rfl) rfl ?_ | refine wp_iald rfl (by repeat' first | assumption | refine qset_ne rfl ?_ | refine qset_self (c0 := ?_) ?_ | refine qset_nf (by omega) ?_ | fail) ?_ ?_ | refine wp_lald rfl (by repeat' first | assumption | refine qset_ne rfl ?_ | refine qset_self (c0 := ?_) ?_ | refine qset_nf (by omega) ?_ | fail) ?_ ?_ | refine wp_zald rfl (by repeat' first | assumption | refine qset_ne rfl ?_ | refine qset_self (c0 := ?_) ?_ | refine qset_nf (by omega) ?_ | fail) ?_ ?_ | refine wp_iast rfl (by repeat' first | assumption | refine qset_ne rfl ?_ | refine qset_self (c0 := ?_) ?_ | refine qset_nf (by omega) ?_ | fail) ?_ ?_ | refine wp_last rfl (by repeat' first | assumption | refine qset_ne rfl ?_ | refine qset_self (c0 := ?_) ?_ | refine qset_nf (by omega) ?_ | fail) ?_ ?_ | refine wp_alen rfl (by repeat' first | assumption | refine qset_ne rfl ?_ | refine qset_self (c0 := ?_) ?_ | refine qset_nf (by omega) ?_ | fail) rfl ?_ | refine wp_zast rfl (by repeat' first | assumption | refine qset_ne rfl ?_ | refine qset_self (c0 := ?_) ?_ | refine qset_nf (by omega) ?_ | fail) ?_ ?_ | refine wp_b rfl rfl (fun hc => absurd hc (by decide +kernel)) (fun _ => ?_) | refine wp_b rfl rfl (fun _ => ?_) (fun hc => absurd hc (by decide +kernel)) | refine wp_c2y rfl (by omega) (by omega) (by dsimp only [qn2]; omega) ?_ | refine wp_c2n rfl (by omega) (by omega) (by dsimp only [qn2]; omega) ?_ | refine wp_c1y rfl (by omega) (by first | exact True.intro | (dsimp only [qn1]; omega)) ?_ | refine wp_c1n rfl (by omega) (by first | exact (fun z => z) | (dsimp only [qn1]; omega)) ?_ | refine wp_b rfl rfl (fun hc => ?_) (fun hc => ?_) | refine wp_v rfl rfl ?_ | refine ret_t ?_ | refine ret_f ?_ | fail
      all_goals rfl
set_option maxHeartbeats 4000000 in
theorem l_nm5 {i o : Nat} (g : o = 23) {x y : Int32} (hi : (fCode F)[i]? = some (o, x, y)) {v5 v6 v7 : Value} (e6 : h[6]? = some (.inr (3, [.ref 1, .ref 13, .ref 7, .ref 12, .ref c, v5, v6, v7]))) (HL : LdAt h sa fa E) (HC : CdAt h c F) : wp sc (m_Looker_areOperandsNamed, 23, [(5, .int y), (4, .int x), (3, .int (nI o)), (2, .int (nI i)), (1, .ref c), (0, .ref 6)], [], h) (rI (pI (bI (oNamed E F o x y)) h)) := by
  have hE := E_len HL
  have hE2 := E_len2 HL
  obtain ⟨TL, v2, v4, e1⟩ := HL.el
  have hE3 : E.2.1.length ≤ 32 := by obtain ⟨_, _, _, z, _⟩ := TL; exact z
  have hl := HC.lens
  obtain ⟨f1, f2, f3, b1, b2, b3, b4, b5, b6, b7, b8, b9, b10⟩ := id HC
  obtain ⟨p1, p2, p3, p4⟩ := b10 i _ hi
  simp only at p1 p2 p3 p4
  have hil : i < (fCode F).length := (List.getElem?_eq_some_iff.mp hi).1
  obtain ⟨tf, t1, t2⟩ := id TL
  have hN : oNamed E F o x y = oNamed E F o x y := rfl
  have e : oNamed E F o x y = (decide (0 ≤ x) && decide (x < nI E.2.2.length)) := by rw [oNamed_eq, if_neg (by omega), if_neg (by omega), if_neg (by omega), if_neg (by omega), if_pos g]
  have hb := c_Op_branches sc h p4
  rw [decide_eq_false (by omega)] at hb
  have hs := c_Ledger_codeAt sc h HL x
  rw [e]
  rcases pk_ix x (show E.2.2.length < 2 ^ 31 by omega) with hx | hx | ⟨k, hk, rfl⟩
  · rw [ixN_n (Or.inl (by simpa [qcc1] using hx))] at hs
    have e2 : (decide (0 ≤ x) && decide (x < nI E.2.2.length)) = false := by simp [Int32.not_le.mpr hx]
    rw [e2]
    repeat' first | refine wp_Sip rfl rfl rfl (hb) ?_ | refine wp_Vop rfl rfl (by repeat' first | assumption | refine qset_ne rfl ?_ | refine qset_self (c0 := ?_) ?_ | refine qset_nf (by omega) ?_ | fail) rfl (hs) ?_ | refine wp_ist rfl rfl rfl rfl ?_ | refine wp_lst rfl rfl rfl rfl ?_ | refine wp_iinc rfl rfl rfl rfl ?_ | refine wp_f rfl rfl rfl ?_ | refine wp_getf rfl (by repeat' first | assumption | refine qset_ne rfl ?_ | refine qset_self (c0 := ?_) ?_ | refine qset_nf (by omega) ?_ | fail) rfl ?_ | refine wp_ast rfl rfl rfl rfl ?_ | refine wp_asN rfl rfl rfl rfl ?_ | refine wp_putf rfl (by repeat' first | assumption | refine qset_ne rfl ?_ | refine qset_self (c0 := ?_) ?_ | refine qset_nf (by omega) ?_ | fail) (by exact Nat.le_of_ble_eq_true rfl) rfl ?_ | refine wp_iald rfl (by repeat' first | assumption | refine qset_ne rfl ?_ | refine qset_self (c0 := ?_) ?_ | refine qset_nf (by omega) ?_ | fail) ?_ ?_ | refine wp_lald rfl (by repeat' first | assumption | refine qset_ne rfl ?_ | refine qset_self (c0 := ?_) ?_ | refine qset_nf (by omega) ?_ | fail) ?_ ?_ | refine wp_zald rfl (by repeat' first | assumption | refine qset_ne rfl ?_ | refine qset_self (c0 := ?_) ?_ | refine qset_nf (by omega) ?_ | fail) ?_ ?_ | refine wp_iast rfl (by repeat' first | assumption | refine qset_ne rfl ?_ | refine qset_self (c0 := ?_) ?_ | refine qset_nf (by omega) ?_ | fail) ?_ ?_ | refine wp_last rfl (by repeat' first | assumption | refine qset_ne rfl ?_ | refine qset_self (c0 := ?_) ?_ | refine qset_nf (by omega) ?_ | fail) ?_ ?_ | refine wp_alen rfl (by repeat' first | assumption | refine qset_ne rfl ?_ | refine qset_self (c0 := ?_) ?_ | refine qset_nf (by omega) ?_ | fail) rfl ?_ | refine wp_zast rfl (by repeat' first | assumption | refine qset_ne rfl ?_ | refine qset_self (c0 := ?_) ?_ | refine qset_nf (by omega) ?_ | fail) ?_ ?_ | refine wp_b rfl rfl (fun hc => absurd hc (by decide +kernel)) (fun _ => ?_) | refine wp_b rfl rfl (fun _ => ?_) (fun hc => absurd hc (by decide +kernel)) | refine wp_c2y rfl (by omega) (by omega) (by dsimp only [qn2]; omega) ?_ | refine wp_c2n rfl (by omega) (by omega) (by dsimp only [qn2]; omega) ?_ | refine wp_c1y rfl (by omega) (by first | exact True.intro | (dsimp only [qn1]; omega)) ?_ | refine wp_c1n rfl (by omega) (by first | exact (fun z => z) | (dsimp only [qn1]; omega)) ?_ | refine wp_b rfl rfl (fun hc => ?_) (fun hc => ?_) | refine wp_v rfl rfl ?_ | refine ret_t ?_ | refine ret_f ?_ | fail
    all_goals rfl
  · rw [ixN_n (Or.inr (by simpa [qcc2] using hx))] at hs
    have e2 : (decide (0 ≤ x) && decide (x < nI E.2.2.length)) = false := by simp [Int32.not_lt.mpr hx]
    rw [e2]
    repeat' first | refine wp_Sip rfl rfl rfl (hb) ?_ | refine wp_Vop rfl rfl (by repeat' first | assumption | refine qset_ne rfl ?_ | refine qset_self (c0 := ?_) ?_ | refine qset_nf (by omega) ?_ | fail) rfl (hs) ?_ | refine wp_ist rfl rfl rfl rfl ?_ | refine wp_lst rfl rfl rfl rfl ?_ | refine wp_iinc rfl rfl rfl rfl ?_ | refine wp_f rfl rfl rfl ?_ | refine wp_getf rfl (by repeat' first | assumption | refine qset_ne rfl ?_ | refine qset_self (c0 := ?_) ?_ | refine qset_nf (by omega) ?_ | fail) rfl ?_ | refine wp_ast rfl rfl rfl rfl ?_ | refine wp_asN rfl rfl rfl rfl ?_ | refine wp_putf rfl (by repeat' first | assumption | refine qset_ne rfl ?_ | refine qset_self (c0 := ?_) ?_ | refine qset_nf (by omega) ?_ | fail) (by exact Nat.le_of_ble_eq_true rfl) rfl ?_ | refine wp_iald rfl (by repeat' first | assumption | refine qset_ne rfl ?_ | refine qset_self (c0 := ?_) ?_ | refine qset_nf (by omega) ?_ | fail) ?_ ?_ | refine wp_lald rfl (by repeat' first | assumption | refine qset_ne rfl ?_ | refine qset_self (c0 := ?_) ?_ | refine qset_nf (by omega) ?_ | fail) ?_ ?_ | refine wp_zald rfl (by repeat' first | assumption | refine qset_ne rfl ?_ | refine qset_self (c0 := ?_) ?_ | refine qset_nf (by omega) ?_ | fail) ?_ ?_ | refine wp_iast rfl (by repeat' first | assumption | refine qset_ne rfl ?_ | refine qset_self (c0 := ?_) ?_ | refine qset_nf (by omega) ?_ | fail) ?_ ?_ | refine wp_last rfl (by repeat' first | assumption | refine qset_ne rfl ?_ | refine qset_self (c0 := ?_) ?_ | refine qset_nf (by omega) ?_ | fail) ?_ ?_ | refine wp_alen rfl (by repeat' first | assumption | refine qset_ne rfl ?_ | refine qset_self (c0 := ?_) ?_ | refine qset_nf (by omega) ?_ | fail) rfl ?_ | refine wp_zast rfl (by repeat' first | assumption | refine qset_ne rfl ?_ | refine qset_self (c0 := ?_) ?_ | refine qset_nf (by omega) ?_ | fail) ?_ ?_ | refine wp_b rfl rfl (fun hc => absurd hc (by decide +kernel)) (fun _ => ?_) | refine wp_b rfl rfl (fun _ => ?_) (fun hc => absurd hc (by decide +kernel)) | refine wp_c2y rfl (by omega) (by omega) (by dsimp only [qn2]; omega) ?_ | refine wp_c2n rfl (by omega) (by omega) (by dsimp only [qn2]; omega) ?_ | refine wp_c1y rfl (by omega) (by first | exact True.intro | (dsimp only [qn1]; omega)) ?_ | refine wp_c1n rfl (by omega) (by first | exact (fun z => z) | (dsimp only [qn1]; omega)) ?_ | refine wp_b rfl rfl (fun hc => ?_) (fun hc => ?_) | refine wp_v rfl rfl ?_ | refine ret_t ?_ | refine ret_f ?_ | fail
    all_goals rfl
  · rw [ixN_k hk (by omega)] at hs
    have e2 : (decide (0 ≤ nI k) && decide (nI k < nI E.2.2.length)) = true := by
      rw [Bool.and_eq_true, decide_eq_true_eq, decide_eq_true_eq]
      exact ⟨nI_pos' (by omega), nI_lt hk (by omega)⟩
    rw [e2]
    repeat' first | refine wp_Sip rfl rfl rfl (hb) ?_ | refine wp_Vop rfl rfl (by repeat' first | assumption | refine qset_ne rfl ?_ | refine qset_self (c0 := ?_) ?_ | refine qset_nf (by omega) ?_ | fail) rfl (hs) ?_ | refine wp_ist rfl rfl rfl rfl ?_ | refine wp_lst rfl rfl rfl rfl ?_ | refine wp_iinc rfl rfl rfl rfl ?_ | refine wp_f rfl rfl rfl ?_ | refine wp_getf rfl (by repeat' first | assumption | refine qset_ne rfl ?_ | refine qset_self (c0 := ?_) ?_ | refine qset_nf (by omega) ?_ | fail) rfl ?_ | refine wp_ast rfl rfl rfl rfl ?_ | refine wp_asN rfl rfl rfl rfl ?_ | refine wp_putf rfl (by repeat' first | assumption | refine qset_ne rfl ?_ | refine qset_self (c0 := ?_) ?_ | refine qset_nf (by omega) ?_ | fail) (by exact Nat.le_of_ble_eq_true rfl) rfl ?_ | refine wp_iald rfl (by repeat' first | assumption | refine qset_ne rfl ?_ | refine qset_self (c0 := ?_) ?_ | refine qset_nf (by omega) ?_ | fail) ?_ ?_ | refine wp_lald rfl (by repeat' first | assumption | refine qset_ne rfl ?_ | refine qset_self (c0 := ?_) ?_ | refine qset_nf (by omega) ?_ | fail) ?_ ?_ | refine wp_zald rfl (by repeat' first | assumption | refine qset_ne rfl ?_ | refine qset_self (c0 := ?_) ?_ | refine qset_nf (by omega) ?_ | fail) ?_ ?_ | refine wp_iast rfl (by repeat' first | assumption | refine qset_ne rfl ?_ | refine qset_self (c0 := ?_) ?_ | refine qset_nf (by omega) ?_ | fail) ?_ ?_ | refine wp_last rfl (by repeat' first | assumption | refine qset_ne rfl ?_ | refine qset_self (c0 := ?_) ?_ | refine qset_nf (by omega) ?_ | fail) ?_ ?_ | refine wp_alen rfl (by repeat' first | assumption | refine qset_ne rfl ?_ | refine qset_self (c0 := ?_) ?_ | refine qset_nf (by omega) ?_ | fail) rfl ?_ | refine wp_zast rfl (by repeat' first | assumption | refine qset_ne rfl ?_ | refine qset_self (c0 := ?_) ?_ | refine qset_nf (by omega) ?_ | fail) ?_ ?_ | refine wp_b rfl rfl (fun hc => absurd hc (by decide +kernel)) (fun _ => ?_) | refine wp_b rfl rfl (fun _ => ?_) (fun hc => absurd hc (by decide +kernel)) | refine wp_c2y rfl (by omega) (by omega) (by dsimp only [qn2]; omega) ?_ | refine wp_c2n rfl (by omega) (by omega) (by dsimp only [qn2]; omega) ?_ | refine wp_c1y rfl (by omega) (by first | exact True.intro | (dsimp only [qn1]; omega)) ?_ | refine wp_c1n rfl (by omega) (by first | exact (fun z => z) | (dsimp only [qn1]; omega)) ?_ | refine wp_b rfl rfl (fun hc => ?_) (fun hc => ?_) | refine wp_v rfl rfl ?_ | refine ret_t ?_ | refine ret_f ?_ | fail
    all_goals rfl
set_option maxHeartbeats 4000000 in
theorem l_nm6 {i o : Nat} (g : o = 52) {x y : Int32} (hi : (fCode F)[i]? = some (o, x, y)) {v5 v6 v7 : Value} (e6 : h[6]? = some (.inr (3, [.ref 1, .ref 13, .ref 7, .ref 12, .ref c, v5, v6, v7]))) (HL : LdAt h sa fa E) (HC : CdAt h c F) : wp sc (m_Looker_areOperandsNamed, 23, [(5, .int y), (4, .int x), (3, .int (nI o)), (2, .int (nI i)), (1, .ref c), (0, .ref 6)], [], h) (rI (pI (bI (oNamed E F o x y)) h)) := by
  have hE := E_len HL
  have hE2 := E_len2 HL
  obtain ⟨TL, v2, v4, e1⟩ := HL.el
  have hE3 : E.2.1.length ≤ 32 := by obtain ⟨_, _, _, z, _⟩ := TL; exact z
  have hl := HC.lens
  obtain ⟨f1, f2, f3, b1, b2, b3, b4, b5, b6, b7, b8, b9, b10⟩ := id HC
  obtain ⟨p1, p2, p3, p4⟩ := b10 i _ hi
  simp only at p1 p2 p3 p4
  have hil : i < (fCode F).length := (List.getElem?_eq_some_iff.mp hi).1
  obtain ⟨tf, t1, t2⟩ := id TL
  have hN : oNamed E F o x y = oNamed E F o x y := rfl
  have e : oNamed E F o x y = ((decide (0 ≤ x) && decide (x < nI E.2.1.length)) && (decide (0 ≤ y) && decide (y ≤ 64))) := by subst g; rfl
  have hb := c_Op_branches sc h p4
  rw [decide_eq_false (by omega)] at hb
  have hh := c_TypeList_has sc h _ 32 _ TL x
  rw [e]
  subst g
  cases hq : (decide (0 ≤ x) && decide (x < nI E.2.1.length)) with
  | false =>
    rw [hq] at hh
    repeat' first | refine wp_Sip rfl rfl rfl (hb) ?_ | refine wp_Vip rfl rfl (by repeat' first | assumption | refine qset_ne rfl ?_ | refine qset_self (c0 := ?_) ?_ | refine qset_nf (by omega) ?_ | fail) rfl (hh) ?_ | refine wp_ist rfl rfl rfl rfl ?_ | refine wp_lst rfl rfl rfl rfl ?_ | refine wp_iinc rfl rfl rfl rfl ?_ | refine wp_f rfl rfl rfl ?_ | refine wp_getf rfl (by repeat' first | assumption | refine qset_ne rfl ?_ | refine qset_self (c0 := ?_) ?_ | refine qset_nf (by omega) ?_ | fail) rfl ?_ | refine wp_ast rfl rfl rfl rfl ?_ | refine wp_asN rfl rfl rfl rfl ?_ | refine wp_putf rfl (by repeat' first | assumption | refine qset_ne rfl ?_ | refine qset_self (c0 := ?_) ?_ | refine qset_nf (by omega) ?_ | fail) (by exact Nat.le_of_ble_eq_true rfl) rfl ?_ | refine wp_iald rfl (by repeat' first | assumption | refine qset_ne rfl ?_ | refine qset_self (c0 := ?_) ?_ | refine qset_nf (by omega) ?_ | fail) ?_ ?_ | refine wp_lald rfl (by repeat' first | assumption | refine qset_ne rfl ?_ | refine qset_self (c0 := ?_) ?_ | refine qset_nf (by omega) ?_ | fail) ?_ ?_ | refine wp_zald rfl (by repeat' first | assumption | refine qset_ne rfl ?_ | refine qset_self (c0 := ?_) ?_ | refine qset_nf (by omega) ?_ | fail) ?_ ?_ | refine wp_iast rfl (by repeat' first | assumption | refine qset_ne rfl ?_ | refine qset_self (c0 := ?_) ?_ | refine qset_nf (by omega) ?_ | fail) ?_ ?_ | refine wp_last rfl (by repeat' first | assumption | refine qset_ne rfl ?_ | refine qset_self (c0 := ?_) ?_ | refine qset_nf (by omega) ?_ | fail) ?_ ?_ | refine wp_alen rfl (by repeat' first | assumption | refine qset_ne rfl ?_ | refine qset_self (c0 := ?_) ?_ | refine qset_nf (by omega) ?_ | fail) rfl ?_ | refine wp_zast rfl (by repeat' first | assumption | refine qset_ne rfl ?_ | refine qset_self (c0 := ?_) ?_ | refine qset_nf (by omega) ?_ | fail) ?_ ?_ | refine wp_b rfl rfl (fun hc => absurd hc (by decide +kernel)) (fun _ => ?_) | refine wp_b rfl rfl (fun _ => ?_) (fun hc => absurd hc (by decide +kernel)) | refine wp_b rfl rfl (fun hc => ?_) (fun hc => ?_) | refine wp_v rfl rfl ?_ | refine ret_t ?_ | refine ret_f ?_ | fail
    all_goals rfl
  | true =>
    rw [hq] at hh
    have e3 : qcc2 .gt y (nI 64) = !decide (y ≤ 64) := by
      show decide (nI 64 < y) = _
      rw [← decide_not]
      exact decide_eq_decide.mpr Int32.not_le.symm
    have e4 : qcc1 .lt y = !decide (0 ≤ y) := by
      show decide (y < 0) = _
      rw [← decide_not]
      exact decide_eq_decide.mpr Int32.not_le.symm
    repeat' first | refine wp_Sip rfl rfl rfl (hb) ?_ | refine wp_Vip rfl rfl (by repeat' first | assumption | refine qset_ne rfl ?_ | refine qset_self (c0 := ?_) ?_ | refine qset_nf (by omega) ?_ | fail) rfl (hh) ?_ | refine wp_ist rfl rfl rfl rfl ?_ | refine wp_lst rfl rfl rfl rfl ?_ | refine wp_iinc rfl rfl rfl rfl ?_ | refine wp_f rfl rfl rfl ?_ | refine wp_getf rfl (by repeat' first | assumption | refine qset_ne rfl ?_ | refine qset_self (c0 := ?_) ?_ | refine qset_nf (by omega) ?_ | fail) rfl ?_ | refine wp_ast rfl rfl rfl rfl ?_ | refine wp_asN rfl rfl rfl rfl ?_ | refine wp_putf rfl (by repeat' first | assumption | refine qset_ne rfl ?_ | refine qset_self (c0 := ?_) ?_ | refine qset_nf (by omega) ?_ | fail) (by exact Nat.le_of_ble_eq_true rfl) rfl ?_ | refine wp_iald rfl (by repeat' first | assumption | refine qset_ne rfl ?_ | refine qset_self (c0 := ?_) ?_ | refine qset_nf (by omega) ?_ | fail) ?_ ?_ | refine wp_lald rfl (by repeat' first | assumption | refine qset_ne rfl ?_ | refine qset_self (c0 := ?_) ?_ | refine qset_nf (by omega) ?_ | fail) ?_ ?_ | refine wp_zald rfl (by repeat' first | assumption | refine qset_ne rfl ?_ | refine qset_self (c0 := ?_) ?_ | refine qset_nf (by omega) ?_ | fail) ?_ ?_ | refine wp_iast rfl (by repeat' first | assumption | refine qset_ne rfl ?_ | refine qset_self (c0 := ?_) ?_ | refine qset_nf (by omega) ?_ | fail) ?_ ?_ | refine wp_last rfl (by repeat' first | assumption | refine qset_ne rfl ?_ | refine qset_self (c0 := ?_) ?_ | refine qset_nf (by omega) ?_ | fail) ?_ ?_ | refine wp_alen rfl (by repeat' first | assumption | refine qset_ne rfl ?_ | refine qset_self (c0 := ?_) ?_ | refine qset_nf (by omega) ?_ | fail) rfl ?_ | refine wp_zast rfl (by repeat' first | assumption | refine qset_ne rfl ?_ | refine qset_self (c0 := ?_) ?_ | refine qset_nf (by omega) ?_ | fail) ?_ ?_ | refine wp_b rfl rfl (fun hc => absurd hc (by decide +kernel)) (fun _ => ?_) | refine wp_b rfl rfl (fun _ => ?_) (fun hc => absurd hc (by decide +kernel)) | refine wp_b rfl rfl (fun hc => ?_) (fun hc => ?_) | refine wp_v rfl rfl ?_ | refine ret_t ?_ | refine ret_f ?_ | fail
    · rw [e4, Bool.not_eq_true'] at hc
      rw [hc]; rfl
    · rw [e3, Bool.not_eq_true'] at hc
      rw [hc, Bool.and_false]; rfl
    · rename_i hc1
      rw [e4, Bool.not_eq_false'] at hc1
      rw [e3, Bool.not_eq_false'] at hc
      rw [hc1, hc]; rfl
set_option maxHeartbeats 4000000 in
theorem l_nm7 {i o : Nat} (g : 52 < o ∧ o < 59) {x y : Int32} (hi : (fCode F)[i]? = some (o, x, y)) {v5 v6 v7 : Value} (e6 : h[6]? = some (.inr (3, [.ref 1, .ref 13, .ref 7, .ref 12, .ref c, v5, v6, v7]))) (HL : LdAt h sa fa E) (HC : CdAt h c F) : wp sc (m_Looker_areOperandsNamed, 23, [(5, .int y), (4, .int x), (3, .int (nI o)), (2, .int (nI i)), (1, .ref c), (0, .ref 6)], [], h) (rI (pI (bI (oNamed E F o x y)) h)) := by
  have hE := E_len HL
  have hE2 := E_len2 HL
  obtain ⟨TL, v2, v4, e1⟩ := HL.el
  have hE3 : E.2.1.length ≤ 32 := by obtain ⟨_, _, _, z, _⟩ := TL; exact z
  have hl := HC.lens
  obtain ⟨f1, f2, f3, b1, b2, b3, b4, b5, b6, b7, b8, b9, b10⟩ := id HC
  obtain ⟨p1, p2, p3, p4⟩ := b10 i _ hi
  simp only at p1 p2 p3 p4
  have hil : i < (fCode F).length := (List.getElem?_eq_some_iff.mp hi).1
  obtain ⟨tf, t1, t2⟩ := id TL
  have hN : oNamed E F o x y = oNamed E F o x y := rfl
  have e : oNamed E F o x y = (decide (0 ≤ x) && decide (x < nI E.2.1.length)) := by
    rw [oNamed_eq, if_neg (by omega), if_neg (by omega), if_neg (by omega), if_neg (by omega), if_neg (by omega), if_pos (by omega)]
    simp [show o ≠ 52 by omega]
  have hb := c_Op_branches sc h p4
  rw [decide_eq_false (by omega)] at hb
  rw [e]
  repeat' first | refine wp_Sip rfl rfl rfl (hb) ?_ | refine wp_Vip rfl rfl (by repeat' first | assumption | refine qset_ne rfl ?_ | refine qset_self (c0 := ?_) ?_ | refine qset_nf (by omega) ?_ | fail) rfl (c_TypeList_has sc h _ 32 _ TL x) ?_ | (refine wp_retz rfl rfl (bI_bit _) ?_) | refine wp_ist rfl rfl rfl rfl ?_ | refine wp_lst rfl rfl rfl rfl ?_ | refine wp_iinc rfl rfl rfl rfl ?_ | refine wp_f rfl rfl rfl ?_ | refine wp_getf rfl (by repeat' first | assumption | refine qset_ne rfl ?_ | refine qset_self (c0 := ?_) ?_ | refine qset_nf (by omega) ?_ | fail) rfl ?_ | refine wp_ast rfl rfl rfl rfl ?_ | refine wp_asN rfl rfl rfl rfl ?_ | refine wp_putf rfl (by repeat' first | assumption | refine qset_ne rfl ?_ | refine qset_self (c0 := ?_) ?_ | refine qset_nf (by omega) ?_ | fail) (by exact Nat.le_of_ble_eq_true rfl) rfl ?_ | refine wp_iald rfl (by repeat' first | assumption | refine qset_ne rfl ?_ | refine qset_self (c0 := ?_) ?_ | refine qset_nf (by omega) ?_ | fail) ?_ ?_ | refine wp_lald rfl (by repeat' first | assumption | refine qset_ne rfl ?_ | refine qset_self (c0 := ?_) ?_ | refine qset_nf (by omega) ?_ | fail) ?_ ?_ | refine wp_zald rfl (by repeat' first | assumption | refine qset_ne rfl ?_ | refine qset_self (c0 := ?_) ?_ | refine qset_nf (by omega) ?_ | fail) ?_ ?_ | refine wp_iast rfl (by repeat' first | assumption | refine qset_ne rfl ?_ | refine qset_self (c0 := ?_) ?_ | refine qset_nf (by omega) ?_ | fail) ?_ ?_ | refine wp_last rfl (by repeat' first | assumption | refine qset_ne rfl ?_ | refine qset_self (c0 := ?_) ?_ | refine qset_nf (by omega) ?_ | fail) ?_ ?_ | refine wp_alen rfl (by repeat' first | assumption | refine qset_ne rfl ?_ | refine qset_self (c0 := ?_) ?_ | refine qset_nf (by omega) ?_ | fail) rfl ?_ | refine wp_zast rfl (by repeat' first | assumption | refine qset_ne rfl ?_ | refine qset_self (c0 := ?_) ?_ | refine qset_nf (by omega) ?_ | fail) ?_ ?_ | refine wp_b rfl rfl (fun hc => absurd hc (by decide +kernel)) (fun _ => ?_) | refine wp_b rfl rfl (fun _ => ?_) (fun hc => absurd hc (by decide +kernel)) | refine wp_c2y rfl (by omega) (by omega) (by dsimp only [qn2]; omega) ?_ | refine wp_c2n rfl (by omega) (by omega) (by dsimp only [qn2]; omega) ?_ | refine wp_c1y rfl (by omega) (by first | exact True.intro | (dsimp only [qn1]; omega)) ?_ | refine wp_c1n rfl (by omega) (by first | exact (fun z => z) | (dsimp only [qn1]; omega)) ?_ | refine wp_b rfl rfl (fun hc => ?_) (fun hc => ?_) | refine wp_v rfl rfl ?_ | refine ret_t ?_ | refine ret_f ?_ | fail
  exact ⟨rfl, rfl⟩
set_option maxHeartbeats 4000000 in
theorem l_nm8 {i o : Nat} (g : o < 2 ∨ (4 < o ∧ o < 11) ∨ (17 < o ∧ o < 21) ∨ (23 < o ∧ o < 47) ∨ o = 59) {x y : Int32} (hi : (fCode F)[i]? = some (o, x, y)) {v5 v6 v7 : Value} (e6 : h[6]? = some (.inr (3, [.ref 1, .ref 13, .ref 7, .ref 12, .ref c, v5, v6, v7]))) (HL : LdAt h sa fa E) (HC : CdAt h c F) : wp sc (m_Looker_areOperandsNamed, 23, [(5, .int y), (4, .int x), (3, .int (nI o)), (2, .int (nI i)), (1, .ref c), (0, .ref 6)], [], h) (rI (pI (bI (oNamed E F o x y)) h)) := by
  have hE := E_len HL
  have hE2 := E_len2 HL
  obtain ⟨TL, v2, v4, e1⟩ := HL.el
  have hE3 : E.2.1.length ≤ 32 := by obtain ⟨_, _, _, z, _⟩ := TL; exact z
  have hl := HC.lens
  obtain ⟨f1, f2, f3, b1, b2, b3, b4, b5, b6, b7, b8, b9, b10⟩ := id HC
  obtain ⟨p1, p2, p3, p4⟩ := b10 i _ hi
  simp only at p1 p2 p3 p4
  have hil : i < (fCode F).length := (List.getElem?_eq_some_iff.mp hi).1
  obtain ⟨tf, t1, t2⟩ := id TL
  have hN : oNamed E F o x y = oNamed E F o x y := rfl
  have e : oNamed E F o x y = true := by
    rw [oNamed_eq, if_neg (by omega), if_neg (by omega), if_neg (by omega), if_neg (by omega), if_neg (by omega), if_neg (by omega)]
  have hb := c_Op_branches sc h p4
  rw [decide_eq_false (by omega)] at hb
  rw [e]
  rcases g with g | g | g | g | g
  all_goals
    repeat' first | refine wp_Sip rfl rfl rfl (hb) ?_ | refine wp_ist rfl rfl rfl rfl ?_ | refine wp_lst rfl rfl rfl rfl ?_ | refine wp_iinc rfl rfl rfl rfl ?_ | refine wp_f rfl rfl rfl ?_ | refine wp_getf rfl (by repeat' first | assumption | refine qset_ne rfl ?_ | refine qset_self (c0 := ?_) ?_ | refine qset_nf (by omega) ?_ | fail) rfl ?_ | refine wp_ast rfl rfl rfl rfl ?_ | refine wp_asN rfl rfl rfl rfl ?_ | refine wp_putf rfl (by repeat' first | assumption | refine qset_ne rfl ?_ | refine qset_self (c0 := ?_) ?_ | refine qset_nf (by omega) ?_ | fail) (by exact Nat.le_of_ble_eq_true rfl) rfl ?_ | refine wp_iald rfl (by repeat' first | assumption | refine qset_ne rfl ?_ | refine qset_self (c0 := ?_) ?_ | refine qset_nf (by omega) ?_ | fail) ?_ ?_ | refine wp_lald rfl (by repeat' first | assumption | refine qset_ne rfl ?_ | refine qset_self (c0 := ?_) ?_ | refine qset_nf (by omega) ?_ | fail) ?_ ?_ | refine wp_zald rfl (by repeat' first | assumption | refine qset_ne rfl ?_ | refine qset_self (c0 := ?_) ?_ | refine qset_nf (by omega) ?_ | fail) ?_ ?_ | refine wp_iast rfl (by repeat' first | assumption | refine qset_ne rfl ?_ | refine qset_self (c0 := ?_) ?_ | refine qset_nf (by omega) ?_ | fail) ?_ ?_ | refine wp_last rfl (by repeat' first | assumption | refine qset_ne rfl ?_ | refine qset_self (c0 := ?_) ?_ | refine qset_nf (by omega) ?_ | fail) ?_ ?_ | refine wp_alen rfl (by repeat' first | assumption | refine qset_ne rfl ?_ | refine qset_self (c0 := ?_) ?_ | refine qset_nf (by omega) ?_ | fail) rfl ?_ | refine wp_zast rfl (by repeat' first | assumption | refine qset_ne rfl ?_ | refine qset_self (c0 := ?_) ?_ | refine qset_nf (by omega) ?_ | fail) ?_ ?_ | refine wp_b rfl rfl (fun hc => absurd hc (by decide +kernel)) (fun _ => ?_) | refine wp_b rfl rfl (fun _ => ?_) (fun hc => absurd hc (by decide +kernel)) | refine wp_c2y rfl (by omega) (by omega) (by dsimp only [qn2]; omega) ?_ | refine wp_c2n rfl (by omega) (by omega) (by dsimp only [qn2]; omega) ?_ | refine wp_c1y rfl (by omega) (by first | exact True.intro | (dsimp only [qn1]; omega)) ?_ | refine wp_c1n rfl (by omega) (by first | exact (fun z => z) | (dsimp only [qn1]; omega)) ?_ | refine wp_b rfl rfl (fun hc => ?_) (fun hc => ?_) | refine wp_v rfl rfl ?_ | refine ret_t ?_ | refine ret_f ?_ | fail
    all_goals rfl
set_option maxHeartbeats 4000000 in
theorem c_Looker_areOperandsNamed {i o : Nat} {x y : Int32} (hi : (fCode F)[i]? = some (o, x, y)) {v5 v6 v7 : Value} (e6 : h[6]? = some (.inr (3, [.ref 1, .ref 13, .ref 7, .ref 12, .ref c, v5, v6, v7]))) (HL : LdAt h sa fa E) (HC : CdAt h c F) : wp sc (m_Looker_areOperandsNamed, 0, qargs 0 [.ref 6, .ref c, .int (nI i)], [], h) (rI (pI (bI (oNamed E F o x y)) h)) := by
  have hE := E_len HL
  have hE2 := E_len2 HL
  obtain ⟨TL, v2, v4, e1⟩ := HL.el
  have hE3 : E.2.1.length ≤ 32 := by obtain ⟨_, _, _, z, _⟩ := TL; exact z
  have hl := HC.lens
  obtain ⟨f1, f2, f3, b1, b2, b3, b4, b5, b6, b7, b8, b9, b10⟩ := id HC
  obtain ⟨p1, p2, p3, p4⟩ := b10 i _ hi
  simp only at p1 p2 p3 p4
  have hil : i < (fCode F).length := (List.getElem?_eq_some_iff.mp hi).1
  obtain ⟨tf, t1, t2⟩ := id TL
  have hN : oNamed E F o x y = oNamed E F o x y := rfl
  have K : wp sc (m_Looker_areOperandsNamed, 23, [(5, .int y), (4, .int x), (3, .int (nI o)), (2, .int (nI i)), (1, .ref c), (0, .ref 6)], [], h) (rI (pI (bI (oNamed E F o x y)) h)) := by
    rcases (show (1 < o ∧ o < 5) ∨ (10 < o ∧ o < 16) ∨ (o = 16 ∨ o = 17) ∨ (o = 21 ∨ o = 22 ∨ (46 < o ∧ o < 52)) ∨ (o = 23) ∨ (o = 52) ∨ (52 < o ∧ o < 59) ∨ (o < 2 ∨ (4 < o ∧ o < 11) ∨ (17 < o ∧ o < 21) ∨ (23 < o ∧ o < 47) ∨ o = 59) by omega) with g | g | g | g | g | g | g | g
    · exact l_nm1 sc h g hi e6 HL HC
    · exact l_nm2 sc h g hi e6 HL HC
    · exact l_nm3 sc h g hi e6 HL HC
    · exact l_nm4 sc h g hi e6 HL HC
    · exact l_nm5 sc h g hi e6 HL HC
    · exact l_nm6 sc h g hi e6 HL HC
    · exact l_nm7 sc h g hi e6 HL HC
    · exact l_nm8 sc h g hi e6 HL HC
  refine wp_n rfl rfl ?_
  refine wp_getf rfl (by repeat' first | assumption | refine qset_ne rfl ?_ | refine qset_self (c0 := ?_) ?_ | refine qset_nf (by omega) ?_ | fail) rfl ?_
  refine wp_n rfl rfl ?_
  refine wp_iald rfl (by repeat' first | assumption | refine qset_ne rfl ?_ | refine qset_self (c0 := ?_) ?_ | refine qset_nf (by omega) ?_ | fail) (qin_nI (by omega) (by omega)) ?_
  refine wp_ist rfl rfl rfl rfl ?_
  refine wp_n rfl rfl ?_
  refine wp_getf rfl (by repeat' first | assumption | refine qset_ne rfl ?_ | refine qset_self (c0 := ?_) ?_ | refine qset_nf (by omega) ?_ | fail) rfl ?_
  refine wp_n rfl rfl ?_
  refine wp_iald rfl (by repeat' first | assumption | refine qset_ne rfl ?_ | refine qset_self (c0 := ?_) ?_ | refine qset_nf (by omega) ?_ | fail) (qin_nI (by omega) (by omega)) ?_
  refine wp_ist rfl rfl rfl rfl ?_
  refine wp_n rfl rfl ?_
  refine wp_getf rfl (by repeat' first | assumption | refine qset_ne rfl ?_ | refine qset_self (c0 := ?_) ?_ | refine qset_nf (by omega) ?_ | fail) rfl ?_
  refine wp_n rfl rfl ?_
  refine wp_iald rfl (by repeat' first | assumption | refine qset_ne rfl ?_ | refine qset_self (c0 := ?_) ?_ | refine qset_nf (by omega) ?_ | fail) (qin_nI (by omega) (by omega)) ?_
  refine wp_ist rfl rfl rfl rfl ?_
  rw [nI_clamp (show i < 2 ^ 31 by omega), p1, p2, p3]
  exact wp_sub K rfl ⟨rfl, rfl, rfl, rfl, rfl, rfl, trivial⟩
end K2
