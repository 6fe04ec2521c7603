/-! Class Machine: operate. -/
def EB (E : QE) : Prop := (∀ s j, (eFields E s).getD j 0 < 2 ^ 56) ∧ (∀ k, E.2.1.getD k 0 < 2 ^ 56) ∧ ∀ g j, (fTakes (eFun E g)).getD j 0 < 2 ^ 56 ∧ (fGives (eFun E g)).getD j 0 < 2 ^ 56 ∧ (fMore (eFun E g)).getD j 0 < 2 ^ 56
def FB (F : QF) : Prop := (∀ k, fTy F k < 2 ^ 56) ∧ ∀ n ∈ fGives F, n < 2 ^ 63
theorem at_nat {x : Int32} {n : Nat} (h : (decide (0 ≤ x) && decide (x < nI n)) = true) (hn : n < 2 ^ 31) : ∃ k, k < n ∧ x = nI k := by
  simp only [Bool.and_eq_true, decide_eq_true_eq] at h
  rcases pk_ix x hn with z | z | z
  · exact absurd h.1 (Int32.not_le.mpr z)
  · exact absurd h.2 (Int32.not_lt.mpr z)
  · exact z
/-- as MS, but whatever code and operands the machine names -/
def MS0 (h : qH) (sa fa : Nat → Nat) (E : QE) (c : Nat) (F : QF) (M : QM) : Prop :=
  LdAt h sa fa E ∧ CdAt h c F ∧ 49 ≤ c ∧ ((∃ cv xv yv : Value, h[13]? = some (.inr (4, [.ref 1, .ref 14, .ref 18, .ref 20, cv, xv, yv]))) ∧ ∃ g : Nat → Int64, h[20]? = some (.inl (1, 8, .inr (.inl g)))) ∧ (∃ tt tm, StkAt h M.1 tt tm) ∧ LocAt h E F M.2
theorem MS.to0 {h : qH} {sa fa : Nat → Nat} {E : QE} {c : Nat} {F : QF} {a b : Int32} {M : QM} (H : MS h sa fa E c F a b M) : MS0 h sa fa E c F M := ⟨H.1, H.2.1, H.2.2.1, ⟨⟨_, _, _, H.2.2.2.1.1⟩, H.2.2.2.1.2⟩, H.2.2.2.2⟩
theorem oNamed_eq (E : QE) (F : QF) (o : Nat) (a b : Int32) : oNamed E F o a b =
  if 1 < o ∧ o < 5 then (decide (0 ≤ a) && decide (a < nI (fCode F).length))
  else if 10 < o ∧ o < 16 then (decide (0 ≤ a) && decide (a < nI (fLocs F).length))
  else if o = 16 ∨ o = 17 then (decide (0 ≤ a) && decide (a < nI E.1.length)) && (decide (0 ≤ b) && decide (b < nI (eFields E a.toNatClampNeg).length))
  else if o = 21 ∨ o = 22 ∨ (46 < o ∧ o < 52) then (decide (0 ≤ a) && decide (a < nI E.1.length))
  else if o = 23 then (decide (0 ≤ a) && decide (a < nI E.2.2.length))
  else if 51 < o ∧ o < 59 then (decide (0 ≤ a) && decide (a < nI E.2.1.length)) && (o != 52 || (decide (0 ≤ b) && decide (b ≤ 64)))
  else true := rfl
