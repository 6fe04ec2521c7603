/-! Branches that numbers decide. -/
def qn2 (c : Jvm.ClassFile.Cond) (a b : Nat) : Prop := match c with
  | .eq => a = b
  | .ne => ¬ a = b
  | .lt => a < b
  | .ge => b ≤ a
  | .gt => b < a
  | .le => a ≤ b
def qn1 (c : Jvm.ClassFile.Cond) (a : Nat) : Prop := match c with
  | .eq => a = 0
  | .ne => ¬ a = 0
  | .lt => False
  | .ge => True
  | .gt => 0 < a
  | .le => a = 0
theorem qn2_y {c : Jvm.ClassFile.Cond} {a b : Nat} (ha : a < 2 ^ 31) (hb : b < 2 ^ 31) : qcc2 c (nI a) (nI b) = true ↔ qn2 c a b := by
  cases c with
  | eq => rw [c2_eq ha hb, decide_eq_true_eq]; exact Iff.rfl
  | ne => rw [c2_ne ha hb, Bool.not_eq_true', decide_eq_false_iff_not]; exact Iff.rfl
  | lt => rw [c2_lt ha hb, decide_eq_true_eq]; exact Iff.rfl
  | ge => rw [c2_ge ha hb, decide_eq_true_eq]; exact Iff.rfl
  | gt => rw [c2_gt ha hb, decide_eq_true_eq]; exact Iff.rfl
  | le => rw [c2_le ha hb, decide_eq_true_eq]; exact Iff.rfl
theorem qn1_y {c : Jvm.ClassFile.Cond} {a : Nat} (ha : a < 2 ^ 31) : qcc1 c (nI a) = true ↔ qn1 c a := by
  cases c with
  | eq => rw [c1_eq ha, decide_eq_true_eq]; exact Iff.rfl
  | ne => rw [c1_ne ha, Bool.not_eq_true', decide_eq_false_iff_not]; exact Iff.rfl
  | lt => rw [c1_lt a ha]; exact ⟨fun z => (by cases z), fun z => False.elim z⟩
  | ge => rw [c1_ge ha]; exact ⟨fun _ => trivial, fun _ => rfl⟩
  | gt => rw [c1_gt ha, decide_eq_true_eq]; exact Iff.rfl
  | le => rw [c1_le ha, decide_eq_true_eq]; exact Iff.rfl
section PRN
variable {sc : Nat × (Nat → Int32)} {Q : Option Value → qH → Prop} {k pc nx t1 t2 : Nat} {ls : qL} {st : List Value} {h : qH}
theorem wp_c2y {c : Jvm.ClassFile.Cond} {off : Int} {a b : Nat} (hi : qins k pc = some (.if_icmp c off, nx, t1, t2)) (ha : a < 2 ^ 31) (hb : b < 2 ^ 31) (hq : qn2 c a b) (hw : wp sc (k, t1, ls, st, h) Q) : wp sc (k, pc, ls, .int (nI b) :: .int (nI a) :: st, h) Q :=
  wp_b hi rfl (fun _ => hw) (fun hc => absurd (((qn2_y ha hb).mpr hq).symm.trans hc) (by decide))
theorem wp_c2n {c : Jvm.ClassFile.Cond} {off : Int} {a b : Nat} (hi : qins k pc = some (.if_icmp c off, nx, t1, t2)) (ha : a < 2 ^ 31) (hb : b < 2 ^ 31) (hq : ¬ qn2 c a b) (hw : wp sc (k, nx, ls, st, h) Q) : wp sc (k, pc, ls, .int (nI b) :: .int (nI a) :: st, h) Q :=
  wp_b hi rfl (fun hc => absurd ((qn2_y ha hb).mp hc) hq) (fun _ => hw)
theorem wp_c1y {c : Jvm.ClassFile.Cond} {off : Int} {a : Nat} (hi : qins k pc = some (.ifCond c off, nx, t1, t2)) (ha : a < 2 ^ 31) (hq : qn1 c a) (hw : wp sc (k, t1, ls, st, h) Q) : wp sc (k, pc, ls, .int (nI a) :: st, h) Q :=
  wp_b hi rfl (fun _ => hw) (fun hc => absurd (((qn1_y ha).mpr hq).symm.trans hc) (by decide))
theorem wp_c1n {c : Jvm.ClassFile.Cond} {off : Int} {a : Nat} (hi : qins k pc = some (.ifCond c off, nx, t1, t2)) (ha : a < 2 ^ 31) (hq : ¬ qn1 c a) (hw : wp sc (k, nx, ls, st, h) Q) : wp sc (k, pc, ls, .int (nI a) :: st, h) Q :=
  wp_b hi rfl (fun hc => absurd ((qn1_y ha).mp hc) hq) (fun _ => hw)
end PRN
