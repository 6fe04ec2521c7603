/-! The rows with which methods are walked: after the first part ('this instruction stands here': rfl) what the step needs. Answers: rI an int, rL a long, rO a reference or null, rU nothing. -/
def rI (P : Int32 → qH → Prop) : Option Value → qH → Prop := fun v h => match v with
  | some (.int x) => P x h
  | _ => False
def rL (P : Int64 → qH → Prop) : Option Value → qH → Prop := fun v h => match v with
  | some (.long x) => P x h
  | _ => False
def rO (P : Option Nat → qH → Prop) : Option Value → qH → Prop := fun v h => match v with
  | some (.ref a) => P (some a) h
  | some .null => P none h
  | _ => False
def rU (P : qH → Prop) : Option Value → qH → Prop := fun v h => match v with
  | none => P h
  | _ => False
def qstj : Instr → Nat → Bool
  | .istore j, a => Nat.beq j a
  | .istore_n j, a => Nat.beq j.val a
  | .lstore j, a => Nat.beq j a
  | .lstore_n j, a => Nat.beq j.val a
  | .astore j, a => Nat.beq j a
  | .astore_n j, a => Nat.beq j.val a
  | _, _ => false
/-- the list without what a store at j hides -/
def qkc (j : Nat) : qL → (qL → Option qL) → Option qL
  | [], f => f []
  | (k, v) :: q, f => cond (Nat.beq k j || (Nat.beq (k + 1) j && qlong v)) (qkc j q f) (qkc j q (fun z => f ((k, v) :: z)))
def qkd2 (j : Nat) : qL → (qL → Option qL) → Option qL
  | [], f => f []
  | (k, v) :: q, f => cond (Nat.beq k j || (Nat.beq k (j + 1) || (Nat.beq (k + 1) j && qlong v))) (qkd2 j q f) (qkd2 j q (fun z => f ((k, v) :: z)))
theorem qkc_eq {j : Nat} : ∀ (l : qL) (f : qL → Option qL), qkc j l f = f (qk1 j l)
  | [], f => rfl
  | (k, v) :: q, f => by
    simp only [qkc, qk1]
    cases (Nat.beq k j || (Nat.beq (k + 1) j && qlong v)) with
    | true => exact qkc_eq q f
    | false => exact qkc_eq q _
theorem qkd2_eq {j : Nat} : ∀ (l : qL) (f : qL → Option qL), qkd2 j l f = f (qk2 j l)
  | [], f => rfl
  | (k, v) :: q, f => by
    simp only [qkd2, qk2]
    cases (Nat.beq k j || (Nat.beq k (j + 1) || (Nat.beq (k + 1) j && qlong v))) with
    | true => exact qkd2_eq q f
    | false => exact qkd2_eq q _
section RU
variable {sc : Nat × (Nat → Int32)} {Q : Option Value → qH → Prop} {k pc nx t1 t2 : Nat} {ls : qL} {st : List Value} {h : qH} {i : Instr}
theorem wp_n {c' : qK} (hi : qins k pc = some (i, nx, t1, t2)) (hs : qstepI sc i k nx t1 t2 ls st h = qN c') (hw : wp sc c' Q) : wp sc (k, pc, ls, st, h) Q := by
  refine wp_N ?_ hw
  unfold qstep
  simp only [hi]
  exact hs
/-- forward alone: stops ahead of a jump back -/
theorem wp_f {k' pc' : Nat} {ls' : qL} {st' : List Value} {h' : qH} (hi : qins k pc = some (i, nx, t1, t2)) (hs : qstepI sc i k nx t1 t2 ls st h = qN (k', pc', ls', st', h')) (hf : Nat.blt pc pc' = true) (hw : wp sc (k', pc', ls', st', h') Q) : wp sc (k, pc, ls, st, h) Q := wp_n hi hs hw
theorem wp_g {c' : qK} {b : Bool} (hi : qins k pc = some (i, nx, t1, t2)) (hs : qstepI sc i k nx t1 t2 ls st h = qG b c') (hb : b = true) (hw : wp sc c' Q) : wp sc (k, pc, ls, st, h) Q := by
  refine wp_G ?_ hb hw
  unfold qstep
  simp only [hi]
  exact hs
theorem wp_b {c1 c2 : qK} {b : Bool} (hi : qins k pc = some (i, nx, t1, t2)) (hs : qstepI sc i k nx t1 t2 ls st h = qB b c1 c2) (h1 : b = true → wp sc c1 Q) (h2 : b = false → wp sc c2 Q) : wp sc (k, pc, ls, st, h) Q := by
  refine wp_B ?_ h1 h2
  unfold qstep
  simp only [hi]
  exact hs
theorem wp_v {v : Option Value} (hi : qins k pc = some (i, nx, t1, t2)) (hs : qstepI sc i k nx t1 t2 ls st h = qV v) (hq : Q v h) : wp sc (k, pc, ls, st, h) Q := by
  refine wp_V (v := v) ?_ hq
  unfold qstep
  simp only [hi]
  exact hs
theorem wp_retz {x : Int32} (hi : qins k pc = some (.ireturn, nx, t1, t2)) (hk : qret k = some .boolean) (hx : qbit x = true) (hq : Q (some (.int x)) h) : wp sc (k, pc, ls, [.int x], h) Q := by
  refine wp_V (v := some (.int x)) ?_ hq
  unfold qstep
  simp only [hi, qstepI, s_iret, hk, hx]
theorem wp_ist {l' : qL} {x : Int32} {j : Nat} (hi : qins k pc = some (i, nx, j, t2)) (hj : qstj i j = true) (hs : qstepI sc i k nx j t2 ls (.int x :: st) h = qN (k, nx, (j, .int x) :: qk1 j ls, st, h)) (hl : qkc j ls some = some l') (hw : wp sc (k, nx, (j, .int x) :: l', st, h) Q) : wp sc (k, pc, ls, .int x :: st, h) Q := by
  refine wp_n hi hs ?_
  rw [qkc_eq] at hl
  cases hl
  exact hw
theorem wp_lst {l' : qL} {x : Int64} {j : Nat} (hi : qins k pc = some (i, nx, j, t2)) (hj : qstj i j = true) (hs : qstepI sc i k nx j t2 ls (.long x :: st) h = qN (k, nx, (j, .long x) :: qk2 j ls, st, h)) (hl : qkd2 j ls some = some l') (hw : wp sc (k, nx, (j, .long x) :: l', st, h) Q) : wp sc (k, pc, ls, .long x :: st, h) Q := by
  refine wp_n hi hs ?_
  rw [qkd2_eq] at hl
  cases hl
  exact hw
theorem wp_ast {l' : qL} {x : Nat} {j : Nat} (hi : qins k pc = some (i, nx, j, t2)) (hj : qstj i j = true) (hs : qstepI sc i k nx j t2 ls (.ref x :: st) h = qN (k, nx, (j, .ref x) :: qk1 j ls, st, h)) (hl : qkc j ls some = some l') (hw : wp sc (k, nx, (j, .ref x) :: l', st, h) Q) : wp sc (k, pc, ls, .ref x :: st, h) Q := by
  refine wp_n hi hs ?_
  rw [qkc_eq] at hl
  cases hl
  exact hw
theorem wp_asN {l' : qL} {j : Nat} (hi : qins k pc = some (i, nx, j, t2)) (hj : qstj i j = true) (hs : qstepI sc i k nx j t2 ls (.null :: st) h = qN (k, nx, (j, .null) :: qk1 j ls, st, h)) (hl : qkc j ls some = some l') (hw : wp sc (k, nx, (j, .null) :: l', st, h) Q) : wp sc (k, pc, ls, .null :: st, h) Q := by
  refine wp_n hi hs ?_
  rw [qkc_eq] at hl
  cases hl
  exact hw
theorem wp_iinc {l' : qL} {x : Int32} {j : Nat} {v : Int} (hi : qins k pc = some (.iinc j v, nx, j, t2)) (hq : qlk ls j = some (.int x)) (hb : Nat.blt j (qmaxL k) = true) (hl : qkc j ls some = some l') (hw : wp sc (k, nx, (j, .int (x + Int32.ofInt v)) :: l', st, h) Q) : wp sc (k, pc, ls, st, h) Q := by
  refine wp_n hi (c' := (k, nx, (j, .int (x + Int32.ofInt v)) :: qk1 j ls, st, h)) ?_ ?_
  · simp only [qstepI, s_iinc, hq, hb]
    rfl
  · rw [qkc_eq] at hl
    cases hl
    exact hw
/-- calls: static (S) and virtual (V), special (I); of an int (i), a long (l), a reference (o), nothing (u); the letter p: the callee leaves the heap as it is and answers f -/
theorem wp_Sx {as rest : List Value} {Q' : Option Value → qH → Prop} (hi : qins k pc = some (i, nx, t1, t2)) (hsp : qspl (qnp t1) [] st = some (as, rest)) (hs : qstepI sc i k nx t1 t2 ls st h = qX t1 as (k, nx, ls, rest, h)) (hw : wp sc (t1, 0, qargs 0 as, [], h) Q') (hk : ∀ v h2, Q' v h2 → wp sc (k, nx, ls, v.toList ++ rest, h2) Q) : wp sc (k, pc, ls, st, h) Q := by
  refine wp_X (c' := (k, nx, ls, rest, h)) (m := t1) (as := as) ?_ hw hk
  unfold qstep
  simp only [hi]
  exact hs
theorem wp_Si {as rest : List Value} {P : Int32 → qH → Prop} (hi : qins k pc = some (i, nx, t1, t2)) (hsp : qspl (qnp t1) [] st = some (as, rest)) (hs : qstepI sc i k nx t1 t2 ls st h = qX t1 as (k, nx, ls, rest, h)) (hw : wp sc (t1, 0, qargs 0 as, [], h) (rI P)) (hk : ∀ x h2, P x h2 → wp sc (k, nx, ls, .int x :: rest, h2) Q) : wp sc (k, pc, ls, st, h) Q :=
  wp_Sx hi hsp hs hw fun v h2 q => by
    unfold rI at q
    split at q
    · exact hk _ _ q
    · exact q.elim
theorem wp_Sl {as rest : List Value} {P : Int64 → qH → Prop} (hi : qins k pc = some (i, nx, t1, t2)) (hsp : qspl (qnp t1) [] st = some (as, rest)) (hs : qstepI sc i k nx t1 t2 ls st h = qX t1 as (k, nx, ls, rest, h)) (hw : wp sc (t1, 0, qargs 0 as, [], h) (rL P)) (hk : ∀ x h2, P x h2 → wp sc (k, nx, ls, .long x :: rest, h2) Q) : wp sc (k, pc, ls, st, h) Q :=
  wp_Sx hi hsp hs hw fun v h2 q => by
    unfold rL at q
    split at q
    · exact hk _ _ q
    · exact q.elim
def pI (f : Int32) (h : qH) : Int32 → qH → Prop := fun x h' => x = f ∧ h' = h
def pL (f : Int64) (h : qH) : Int64 → qH → Prop := fun x h' => x = f ∧ h' = h
def pO (f : Option Nat) (h : qH) : Option Nat → qH → Prop := fun x h' => x = f ∧ h' = h
theorem wp_Sip {as rest : List Value} {f : Int32} (hi : qins k pc = some (i, nx, t1, t2)) (hsp : qspl (qnp t1) [] st = some (as, rest)) (hs : qstepI sc i k nx t1 t2 ls st h = qX t1 as (k, nx, ls, rest, h)) (hw : wp sc (t1, 0, qargs 0 as, [], h) (rI (pI f h))) (hk : wp sc (k, nx, ls, .int f :: rest, h) Q) : wp sc (k, pc, ls, st, h) Q :=
  wp_Si hi hsp hs hw fun x h2 q => by rw [q.1, q.2]; exact hk
theorem wp_Slp {as rest : List Value} {f : Int64} (hi : qins k pc = some (i, nx, t1, t2)) (hsp : qspl (qnp t1) [] st = some (as, rest)) (hs : qstepI sc i k nx t1 t2 ls st h = qX t1 as (k, nx, ls, rest, h)) (hw : wp sc (t1, 0, qargs 0 as, [], h) (rL (pL f h))) (hk : wp sc (k, nx, ls, .long f :: rest, h) Q) : wp sc (k, pc, ls, st, h) Q :=
  wp_Sl hi hsp hs hw fun x h2 q => by rw [q.1, q.2]; exact hk
variable {idx b : Nat} {as rest fs : List Value}
theorem wp_Vi {P : Int32 → qH → Prop} (hi : qins k pc = some (.invokevirtual idx, nx, t1, t2)) (hsp : qspl (qnp t1 + 1) [] st = some (.ref b :: as, rest)) (hb : h[b]? = some (.inr (qck t1, fs))) (hc : (Nat.ble (qcats (.ref b :: as)) (qmaxL t1) && Nat.ble (qcats rest) 8) = true)
    (hw : wp sc (t1, 0, qargs 0 (.ref b :: as), [], h) (rI P)) (hk : ∀ x h2, P x h2 → wp sc (k, nx, ls, .int x :: rest, h2) Q) : wp sc (k, pc, ls, st, h) Q :=
  wp_virt hi hsp hb hc hw fun v h2 q => by
    unfold rI at q
    split at q
    · exact hk _ _ q
    · exact q.elim
theorem wp_Vl {P : Int64 → qH → Prop} (hi : qins k pc = some (.invokevirtual idx, nx, t1, t2)) (hsp : qspl (qnp t1 + 1) [] st = some (.ref b :: as, rest)) (hb : h[b]? = some (.inr (qck t1, fs))) (hc : (Nat.ble (qcats (.ref b :: as)) (qmaxL t1) && Nat.ble (qcats rest) 8) = true)
    (hw : wp sc (t1, 0, qargs 0 (.ref b :: as), [], h) (rL P)) (hk : ∀ x h2, P x h2 → wp sc (k, nx, ls, .long x :: rest, h2) Q) : wp sc (k, pc, ls, st, h) Q :=
  wp_virt hi hsp hb hc hw fun v h2 q => by
    unfold rL at q
    split at q
    · exact hk _ _ q
    · exact q.elim
theorem wp_Vo {P : Option Nat → qH → Prop} (hi : qins k pc = some (.invokevirtual idx, nx, t1, t2)) (hsp : qspl (qnp t1 + 1) [] st = some (.ref b :: as, rest)) (hb : h[b]? = some (.inr (qck t1, fs))) (hc : (Nat.ble (qcats (.ref b :: as)) (qmaxL t1) && Nat.ble (qcats rest) 8) = true)
    (hw : wp sc (t1, 0, qargs 0 (.ref b :: as), [], h) (rO P)) (hk : ∀ x h2, P x h2 → wp sc (k, nx, ls, va_rf x :: rest, h2) Q) : wp sc (k, pc, ls, st, h) Q :=
  wp_virt hi hsp hb hc hw fun v h2 q => by
    unfold rO at q
    split at q
    · exact hk _ _ q
    · exact hk _ _ q
    · exact q.elim
theorem wp_Vu {P : qH → Prop} (hi : qins k pc = some (.invokevirtual idx, nx, t1, t2)) (hsp : qspl (qnp t1 + 1) [] st = some (.ref b :: as, rest)) (hb : h[b]? = some (.inr (qck t1, fs))) (hc : (Nat.ble (qcats (.ref b :: as)) (qmaxL t1) && Nat.ble (qcats rest) 8) = true)
    (hw : wp sc (t1, 0, qargs 0 (.ref b :: as), [], h) (rU P)) (hk : ∀ h2, P h2 → wp sc (k, nx, ls, rest, h2) Q) : wp sc (k, pc, ls, st, h) Q :=
  wp_virt hi hsp hb hc hw fun v h2 q => by
    unfold rU at q
    split at q
    · exact hk _ q
    · exact q.elim
theorem wp_Vip {f : Int32} (hi : qins k pc = some (.invokevirtual idx, nx, t1, t2)) (hsp : qspl (qnp t1 + 1) [] st = some (.ref b :: as, rest)) (hb : h[b]? = some (.inr (qck t1, fs))) (hc : (Nat.ble (qcats (.ref b :: as)) (qmaxL t1) && Nat.ble (qcats rest) 8) = true)
    (hw : wp sc (t1, 0, qargs 0 (.ref b :: as), [], h) (rI (pI f h))) (hk : wp sc (k, nx, ls, .int f :: rest, h) Q) : wp sc (k, pc, ls, st, h) Q :=
  wp_Vi hi hsp hb hc hw fun x h2 q => by rw [q.1, q.2]; exact hk
theorem wp_Vlp {f : Int64} (hi : qins k pc = some (.invokevirtual idx, nx, t1, t2)) (hsp : qspl (qnp t1 + 1) [] st = some (.ref b :: as, rest)) (hb : h[b]? = some (.inr (qck t1, fs))) (hc : (Nat.ble (qcats (.ref b :: as)) (qmaxL t1) && Nat.ble (qcats rest) 8) = true)
    (hw : wp sc (t1, 0, qargs 0 (.ref b :: as), [], h) (rL (pL f h))) (hk : wp sc (k, nx, ls, .long f :: rest, h) Q) : wp sc (k, pc, ls, st, h) Q :=
  wp_Vl hi hsp hb hc hw fun x h2 q => by rw [q.1, q.2]; exact hk
theorem wp_Vop {f : Option Nat} (hi : qins k pc = some (.invokevirtual idx, nx, t1, t2)) (hsp : qspl (qnp t1 + 1) [] st = some (.ref b :: as, rest)) (hb : h[b]? = some (.inr (qck t1, fs))) (hc : (Nat.ble (qcats (.ref b :: as)) (qmaxL t1) && Nat.ble (qcats rest) 8) = true)
    (hw : wp sc (t1, 0, qargs 0 (.ref b :: as), [], h) (rO (pO f h))) (hk : wp sc (k, nx, ls, va_rf f :: rest, h) Q) : wp sc (k, pc, ls, st, h) Q :=
  wp_Vo hi hsp hb hc hw fun x h2 q => by rw [q.1, q.2]; exact hk
theorem wp_Iu {x0 : Nat} {P : qH → Prop} (hi : qins k pc = some (i, nx, t1, t2)) (hsp : qspl (qnp t1 + 1) [] st = some (.ref x0 :: as, rest)) (hs : qstepI sc i k nx t1 t2 ls st h = qX t1 (.ref x0 :: as) (k, nx, ls, rest, h)) (hw : wp sc (t1, 0, qargs 0 (.ref x0 :: as), [], h) (rU P)) (hk : ∀ h2, P h2 → wp sc (k, nx, ls, rest, h2) Q) : wp sc (k, pc, ls, st, h) Q := by
  refine wp_X (c' := (k, nx, ls, rest, h)) (m := t1) (as := .ref x0 :: as) (Q' := rU P) ?_ hw fun v h2 q => ?_
  · unfold qstep
    simp only [hi]
    exact hs
  · unfold rU at q
    split at q
    · exact hk _ q
    · exact q.elim
end RU
theorem qset_self {h : qH} {a : Nat} {c c0 : qC} (ha : h[a]? = some c0) : (h.set a c)[a]? = some c := by
  rw [List.getElem?_set_self (List.getElem?_eq_some_iff.mp ha).1]
theorem qset_ne {h : qH} {a b : Nat} {c c' : qC} (hab : Nat.beq a b = false) (hb : h[b]? = some c) : (h.set a c')[b]? = some c := by
  rw [List.getElem?_set_ne (Nat.ne_of_beq_eq_false hab)]
  exact hb
theorem qset_nf {h : qH} {a b : Nat} {c c' : qC} (hab : a ≠ b) (hb : h[b]? = some c) : (h.set a c')[b]? = some c := by
  rw [List.getElem?_set_ne hab]
  exact hb
/-- a truth as Java has it -/
def bI (b : Bool) : Int32 := cond b 1 0
theorem bI_eq (b : Bool) : qcc1 .eq (bI b) = !b := by cases b <;> decide
theorem bI_ne (b : Bool) : qcc1 .ne (bI b) = b := by cases b <;> decide
theorem bI_bit (b : Bool) : qbit (bI b) = true := by cases b <;> decide
theorem qin_nI {j n : Nat} (h : j < n) (hn : n < 2 ^ 31) : qin (nI j) n = true := by
  unfold qin
  rw [nI_clamp (by omega)]
  simp only [Bool.and_eq_true, Bool.not_eq_true', decide_eq_false_iff_not, decide_eq_true_eq]
  exact ⟨nI_pos (by omega), h⟩
