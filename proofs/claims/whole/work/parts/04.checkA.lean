/-! What the tables say of the program, decided: each instruction decodes so; links, fields, classes, methods are among the words of lw_tbl. -/
def qtb : List Jvm.Cond := lw_tbl.filter goodWord
theorem qtb_in {w : Jvm.Cond} {p : Nat} (h : lw_tbl[p]? = some w) (hg : goodWord w = true) : w ∈ qtb := List.mem_filter.mpr ⟨List.mem_of_getElem? h, hg⟩
def qall (f : Nat → Bool) : Nat → Nat → Bool
  | _, 0 => true
  | a, n + 1 => f a && qall f (a + 1) n
theorem qall_spec {f : Nat → Bool} : ∀ (n a : Nat), qall f a n = true → ∀ x, a ≤ x → x < a + n → f x = true
  | 0, a, _, x, h1, h2 => absurd h2 (by omega)
  | n + 1, a, h, x, h1, h2 => by
    simp only [qall, Bool.and_eq_true] at h
    by_cases hx : x = a
    · rw [hx]; exact h.1
    · exact qall_spec n (a + 1) h.2 x (by omega) (by omega)
def qint (r1 r2 : Nat) : Int32 := match r2 with
  | 0 => nI r1
  | _ => -nI r1
def qil : Instr → Nat
  | .iload _ | .lload _ | .aload _ | .istore _ | .lstore _ | .astore _ | .bipush _ | .newarray _ => 2
  | .iinc _ _ | .sipush _ | .ldc2_w _ | .goto _ | .ifCond _ _ | .if_icmp _ _ | .if_acmp _ _ | .ifnull _ | .ifnonnull _ | .getfield _ | .putfield _ | .invokestatic _ | .invokespecial _ | .invokevirtual _ | .new _ | .anewarray _ => 3
  | .tableswitch _ _ _ _ | .lookupswitch _ _ => 0
  | _ => 1
def qfin (ci k : Nat) : Bool := (qcT ci k).2.2.2
def qneed (k r1 : Nat) : Bool := Nat.ble (qnf r1 + 1) (qnf k) && Nat.ble (qnl r1 + (qmaxL r1 + 19)) (qnl k)
def qrange (v : Int) : Bool := decide (-2147483648 ≤ v) && decide (v ≤ 2147483647)
def qtsw (pc : Nat) (lo : Int) (offs : List Int) (L : List (Int32 × Nat)) : Bool := match offs, L with
  | [], [] => true
  | f :: offs, (a, t) :: L => qrange lo && decide (a = Int32.ofInt lo) && decide ((pc : Int) + f = (t : Int)) && qtsw pc (lo + 1) offs L
  | _, _ => false
def qlsw (pc : Nat) (ps : List (Int × Int)) (L : List (Int32 × Nat)) : Bool := match ps, L with
  | [], [] => true
  | (v, f) :: ps, (a, t) :: L => qrange v && decide (a = Int32.ofInt v) && decide ((pc : Int) + f = (t : Int)) && qlsw pc ps L
  | _, _ => false
def qarg (k pc : Nat) (i : Instr) (r1 r2 : Nat) : Bool := match i with
  | .iconst v => decide (Int32.ofInt v = qint r1 r2)
  | .bipush v => decide ((Int8.ofInt v).toInt32 = qint r1 r2)
  | .sipush v => decide ((Int16.ofInt v).toInt32 = qint r1 r2)
  | .goto f | .ifCond _ f | .if_icmp _ f | .if_acmp _ f | .ifnull f | .ifnonnull f => decide ((pc : Int) + f = (r1 : Int))
  | .ldc2_w x => qDLs.any fun q => Nat.beq q.1 (qown k) && (Nat.beq q.2.1 x && Nat.beq q.2.2.1 r1)
  | .getfield x => qFL.any fun q => Nat.beq q.1 (qown k) && (Nat.beq q.2.1 x && (Nat.beq q.2.2.1 r1 && Nat.beq q.2.2.2.1 r2))
  | .putfield x => (qFL.any fun q => Nat.beq q.1 (qown k) && (Nat.beq q.2.1 x && (Nat.beq q.2.2.1 r1 && Nat.beq q.2.2.2.1 r2))) && cond (qfin r1 r2) (Nat.beq (qkd k) 2 && Nat.beq (qc2o r1) (qown k)) true
  | .new x => qCLs.any fun q => Nat.beq q.1 (qown k) && (Nat.beq q.2.1 x && Nat.beq q.2.2.1 r1)
  | .anewarray x => qALs.any fun q => Nat.beq q.1 (qown k) && (Nat.beq q.2.1 x && Nat.beq q.2.2.1 r1)
  | .newarray a => Nat.blt (qatag a) 4
  | .invokestatic x => (qMLs.any fun q => Nat.beq q.1 (qown k) && (Nat.beq q.2.1 x && (Nat.beq q.2.2.1 r1 && Nat.beq q.2.2.2.1 0))) && cond (Nat.beq r1 1000) (Nat.ble 1 (qnf k) && Nat.ble 21 (qnl k)) (cond (Nat.beq r1 1001) (Nat.ble 1 (qnf k) && Nat.ble 60 (qnl k)) (Nat.beq (qkd r1) 0 && (Nat.blt r1 m_L_law && qneed k r1)))
  | .invokespecial x => (qMLs.any fun q => Nat.beq q.1 (qown k) && (Nat.beq q.2.1 x && Nat.beq q.2.2.1 r1)) && cond (Nat.beq r1 1002) (Nat.ble 1 (qnf k) && Nat.ble 12 (qnl k)) (Nat.beq (qkd r1) 2 && (Nat.blt r1 m_L_law && qneed k r1))
  | .invokevirtual x => (qMLs.any fun q => Nat.beq q.1 (qown k) && (Nat.beq q.2.1 x && (Nat.beq q.2.2.1 r1 && Nat.beq q.2.2.2.1 0))) && (Nat.beq (qkd r1) 1 && (Nat.blt r1 m_L_law && qneed k r1))
  | .tableswitch d lo hi offs => decide ((pc : Int) + d = (r1 : Int)) && (qtsw pc lo offs.toList (qsw r2) && (decide (hi + 1 = lo + (offs.size : Int)) && qrange hi))
  | .lookupswitch d ps => decide ((pc : Int) + d = (r1 : Int)) && (qlsw pc ps.toList (qsw r2) && (ps.toList.zip (ps.toList.drop 1)).all fun (a, next) => a.1 < next.1)
  | _ => true
def qokB (k pc : Nat) : Bool := match qins k pc with
  | none => true
  | some (i, nx, r1, r2) => decide (decode (qcode k) pc = .ok (i, nx - pc)) && (Nat.ble pc nx && ((Nat.beq (qil i) 0 || Nat.beq nx (pc + qil i)) && qarg k pc i r1 r2))
theorem qo_0_0 : qall (qokB 0) 0 40 = true := by decide +kernel
theorem qo_0_1 : qall (qokB 0) 40 36 = true := by decide +kernel
theorem qo_0 : ∀ pc, pc < qsz 0 → qokB 0 pc = true := fun pc h => if h0 : pc < 40 then qall_spec 40 0 qo_0_0 pc (by omega) (by omega) else qall_spec 36 40 qo_0_1 pc (by omega) (by have e : qsz 0 = 76 := (by decide +kernel); omega)
theorem qo_1_0 : qall (qokB 1) 0 38 = true := by decide +kernel
theorem qo_1 : ∀ pc, pc < qsz 1 → qokB 1 pc = true := fun pc h => qall_spec 38 0 qo_1_0 pc (by omega) (by have e : qsz 1 = 38 := (by decide +kernel); omega)
theorem qo_2_0 : qall (qokB 2) 0 40 = true := by decide +kernel
theorem qo_2_1 : qall (qokB 2) 40 18 = true := by decide +kernel
theorem qo_2 : ∀ pc, pc < qsz 2 → qokB 2 pc = true := fun pc h => if h0 : pc < 40 then qall_spec 40 0 qo_2_0 pc (by omega) (by omega) else qall_spec 18 40 qo_2_1 pc (by omega) (by have e : qsz 2 = 58 := (by decide +kernel); omega)
theorem qo_3_0 : qall (qokB 3) 0 15 = true := by decide +kernel
theorem qo_3 : ∀ pc, pc < qsz 3 → qokB 3 pc = true := fun pc h => qall_spec 15 0 qo_3_0 pc (by omega) (by have e : qsz 3 = 15 := (by decide +kernel); omega)
theorem qo_4_0 : qall (qokB 4) 0 18 = true := by decide +kernel
theorem qo_4 : ∀ pc, pc < qsz 4 → qokB 4 pc = true := fun pc h => qall_spec 18 0 qo_4_0 pc (by omega) (by have e : qsz 4 = 18 := (by decide +kernel); omega)
theorem qo_5_0 : qall (qokB 5) 0 16 = true := by decide +kernel
theorem qo_5 : ∀ pc, pc < qsz 5 → qokB 5 pc = true := fun pc h => qall_spec 16 0 qo_5_0 pc (by omega) (by have e : qsz 5 = 16 := (by decide +kernel); omega)
theorem qo_6_0 : qall (qokB 6) 0 18 = true := by decide +kernel
theorem qo_6 : ∀ pc, pc < qsz 6 → qokB 6 pc = true := fun pc h => qall_spec 18 0 qo_6_0 pc (by omega) (by have e : qsz 6 = 18 := (by decide +kernel); omega)
theorem qo_7_0 : qall (qokB 7) 0 39 = true := by decide +kernel
theorem qo_7 : ∀ pc, pc < qsz 7 → qokB 7 pc = true := fun pc h => qall_spec 39 0 qo_7_0 pc (by omega) (by have e : qsz 7 = 39 := (by decide +kernel); omega)
theorem qo_8_0 : qall (qokB 8) 0 36 = true := by decide +kernel
theorem qo_8 : ∀ pc, pc < qsz 8 → qokB 8 pc = true := fun pc h => qall_spec 36 0 qo_8_0 pc (by omega) (by have e : qsz 8 = 36 := (by decide +kernel); omega)
theorem qo_9_0 : qall (qokB 9) 0 40 = true := by decide +kernel
theorem qo_9_1 : qall (qokB 9) 40 6 = true := by decide +kernel
theorem qo_9 : ∀ pc, pc < qsz 9 → qokB 9 pc = true := fun pc h => if h0 : pc < 40 then qall_spec 40 0 qo_9_0 pc (by omega) (by omega) else qall_spec 6 40 qo_9_1 pc (by omega) (by have e : qsz 9 = 46 := (by decide +kernel); omega)
theorem qo_10_0 : qall (qokB 10) 0 40 = true := by decide +kernel
theorem qo_10_1 : qall (qokB 10) 40 6 = true := by decide +kernel
theorem qo_10 : ∀ pc, pc < qsz 10 → qokB 10 pc = true := fun pc h => if h0 : pc < 40 then qall_spec 40 0 qo_10_0 pc (by omega) (by omega) else qall_spec 6 40 qo_10_1 pc (by omega) (by have e : qsz 10 = 46 := (by decide +kernel); omega)
theorem qo_11_0 : qall (qokB 11) 0 23 = true := by decide +kernel
theorem qo_11 : ∀ pc, pc < qsz 11 → qokB 11 pc = true := fun pc h => qall_spec 23 0 qo_11_0 pc (by omega) (by have e : qsz 11 = 23 := (by decide +kernel); omega)
theorem qo_12_0 : qall (qokB 12) 0 11 = true := by decide +kernel
theorem qo_12 : ∀ pc, pc < qsz 12 → qokB 12 pc = true := fun pc h => qall_spec 11 0 qo_12_0 pc (by omega) (by have e : qsz 12 = 11 := (by decide +kernel); omega)
theorem qo_13_0 : qall (qokB 13) 0 23 = true := by decide +kernel
theorem qo_13 : ∀ pc, pc < qsz 13 → qokB 13 pc = true := fun pc h => qall_spec 23 0 qo_13_0 pc (by omega) (by have e : qsz 13 = 23 := (by decide +kernel); omega)
theorem qo_14_0 : qall (qokB 14) 0 11 = true := by decide +kernel
theorem qo_14 : ∀ pc, pc < qsz 14 → qokB 14 pc = true := fun pc h => qall_spec 11 0 qo_14_0 pc (by omega) (by have e : qsz 14 = 11 := (by decide +kernel); omega)
theorem qo_15_0 : qall (qokB 15) 0 27 = true := by decide +kernel
theorem qo_15 : ∀ pc, pc < qsz 15 → qokB 15 pc = true := fun pc h => qall_spec 27 0 qo_15_0 pc (by omega) (by have e : qsz 15 = 27 := (by decide +kernel); omega)
theorem qo_16_0 : qall (qokB 16) 0 22 = true := by decide +kernel
theorem qo_16 : ∀ pc, pc < qsz 16 → qokB 16 pc = true := fun pc h => qall_spec 22 0 qo_16_0 pc (by omega) (by have e : qsz 16 = 22 := (by decide +kernel); omega)
theorem qo_17_0 : qall (qokB 17) 0 23 = true := by decide +kernel
theorem qo_17 : ∀ pc, pc < qsz 17 → qokB 17 pc = true := fun pc h => qall_spec 23 0 qo_17_0 pc (by omega) (by have e : qsz 17 = 23 := (by decide +kernel); omega)
theorem qo_18_0 : qall (qokB 18) 0 40 = true := by decide +kernel
theorem qo_18_1 : qall (qokB 18) 40 40 = true := by decide +kernel
theorem qo_18_2 : qall (qokB 18) 80 40 = true := by decide +kernel
theorem qo_18_3 : qall (qokB 18) 120 22 = true := by decide +kernel
theorem qo_18 : ∀ pc, pc < qsz 18 → qokB 18 pc = true := fun pc h => if h0 : pc < 40 then qall_spec 40 0 qo_18_0 pc (by omega) (by omega) else if h1 : pc < 80 then qall_spec 40 40 qo_18_1 pc (by omega) (by omega) else if h2 : pc < 120 then qall_spec 40 80 qo_18_2 pc (by omega) (by omega) else qall_spec 22 120 qo_18_3 pc (by omega) (by have e : qsz 18 = 142 := (by decide +kernel); omega)
theorem qo_19_0 : qall (qokB 19) 0 40 = true := by decide +kernel
theorem qo_19_1 : qall (qokB 19) 40 36 = true := by decide +kernel
theorem qo_19 : ∀ pc, pc < qsz 19 → qokB 19 pc = true := fun pc h => if h0 : pc < 40 then qall_spec 40 0 qo_19_0 pc (by omega) (by omega) else qall_spec 36 40 qo_19_1 pc (by omega) (by have e : qsz 19 = 76 := (by decide +kernel); omega)
theorem qo_20_0 : qall (qokB 20) 0 16 = true := by decide +kernel
theorem qo_20 : ∀ pc, pc < qsz 20 → qokB 20 pc = true := fun pc h => qall_spec 16 0 qo_20_0 pc (by omega) (by have e : qsz 20 = 16 := (by decide +kernel); omega)
theorem qo_21_0 : qall (qokB 21) 0 40 = true := by decide +kernel
theorem qo_21_1 : qall (qokB 21) 40 24 = true := by decide +kernel
theorem qo_21 : ∀ pc, pc < qsz 21 → qokB 21 pc = true := fun pc h => if h0 : pc < 40 then qall_spec 40 0 qo_21_0 pc (by omega) (by omega) else qall_spec 24 40 qo_21_1 pc (by omega) (by have e : qsz 21 = 64 := (by decide +kernel); omega)
theorem qo_22_0 : qall (qokB 22) 0 13 = true := by decide +kernel
theorem qo_22 : ∀ pc, pc < qsz 22 → qokB 22 pc = true := fun pc h => qall_spec 13 0 qo_22_0 pc (by omega) (by have e : qsz 22 = 13 := (by decide +kernel); omega)
theorem qo_23_0 : qall (qokB 23) 0 40 = true := by decide +kernel
theorem qo_23_1 : qall (qokB 23) 40 40 = true := by decide +kernel
theorem qo_23_2 : qall (qokB 23) 80 40 = true := by decide +kernel
theorem qo_23_3 : qall (qokB 23) 120 40 = true := by decide +kernel
theorem qo_23_4 : qall (qokB 23) 160 23 = true := by decide +kernel
theorem qo_23 : ∀ pc, pc < qsz 23 → qokB 23 pc = true := fun pc h => if h0 : pc < 40 then qall_spec 40 0 qo_23_0 pc (by omega) (by omega) else if h1 : pc < 80 then qall_spec 40 40 qo_23_1 pc (by omega) (by omega) else if h2 : pc < 120 then qall_spec 40 80 qo_23_2 pc (by omega) (by omega) else if h3 : pc < 160 then qall_spec 40 120 qo_23_3 pc (by omega) (by omega) else qall_spec 23 160 qo_23_4 pc (by omega) (by have e : qsz 23 = 183 := (by decide +kernel); omega)
theorem qo_24_0 : qall (qokB 24) 0 4 = true := by decide +kernel
theorem qo_24 : ∀ pc, pc < qsz 24 → qokB 24 pc = true := fun pc h => qall_spec 4 0 qo_24_0 pc (by omega) (by have e : qsz 24 = 4 := (by decide +kernel); omega)
theorem qo_25_0 : qall (qokB 25) 0 20 = true := by decide +kernel
theorem qo_25 : ∀ pc, pc < qsz 25 → qokB 25 pc = true := fun pc h => qall_spec 20 0 qo_25_0 pc (by omega) (by have e : qsz 25 = 20 := (by decide +kernel); omega)
theorem qo_26_0 : qall (qokB 26) 0 20 = true := by decide +kernel
theorem qo_26 : ∀ pc, pc < qsz 26 → qokB 26 pc = true := fun pc h => qall_spec 20 0 qo_26_0 pc (by omega) (by have e : qsz 26 = 20 := (by decide +kernel); omega)
theorem qo_27_0 : qall (qokB 27) 0 20 = true := by decide +kernel
theorem qo_27 : ∀ pc, pc < qsz 27 → qokB 27 pc = true := fun pc h => qall_spec 20 0 qo_27_0 pc (by omega) (by have e : qsz 27 = 20 := (by decide +kernel); omega)
theorem qo_28_0 : qall (qokB 28) 0 24 = true := by decide +kernel
theorem qo_28 : ∀ pc, pc < qsz 28 → qokB 28 pc = true := fun pc h => qall_spec 24 0 qo_28_0 pc (by omega) (by have e : qsz 28 = 24 := (by decide +kernel); omega)
theorem qo_29_0 : qall (qokB 29) 0 23 = true := by decide +kernel
theorem qo_29 : ∀ pc, pc < qsz 29 → qokB 29 pc = true := fun pc h => qall_spec 23 0 qo_29_0 pc (by omega) (by have e : qsz 29 = 23 := (by decide +kernel); omega)
theorem qo_30_0 : qall (qokB 30) 0 33 = true := by decide +kernel
theorem qo_30 : ∀ pc, pc < qsz 30 → qokB 30 pc = true := fun pc h => qall_spec 33 0 qo_30_0 pc (by omega) (by have e : qsz 30 = 33 := (by decide +kernel); omega)
theorem qo_31_0 : qall (qokB 31) 0 37 = true := by decide +kernel
theorem qo_31 : ∀ pc, pc < qsz 31 → qokB 31 pc = true := fun pc h => qall_spec 37 0 qo_31_0 pc (by omega) (by have e : qsz 31 = 37 := (by decide +kernel); omega)
theorem qo_32_0 : qall (qokB 32) 0 40 = true := by decide +kernel
theorem qo_32_1 : qall (qokB 32) 40 40 = true := by decide +kernel
theorem qo_32_2 : qall (qokB 32) 80 7 = true := by decide +kernel
theorem qo_32 : ∀ pc, pc < qsz 32 → qokB 32 pc = true := fun pc h => if h0 : pc < 40 then qall_spec 40 0 qo_32_0 pc (by omega) (by omega) else if h1 : pc < 80 then qall_spec 40 40 qo_32_1 pc (by omega) (by omega) else qall_spec 7 80 qo_32_2 pc (by omega) (by have e : qsz 32 = 87 := (by decide +kernel); omega)
theorem qo_33_0 : qall (qokB 33) 0 40 = true := by decide +kernel
theorem qo_33_1 : qall (qokB 33) 40 8 = true := by decide +kernel
theorem qo_33 : ∀ pc, pc < qsz 33 → qokB 33 pc = true := fun pc h => if h0 : pc < 40 then qall_spec 40 0 qo_33_0 pc (by omega) (by omega) else qall_spec 8 40 qo_33_1 pc (by omega) (by have e : qsz 33 = 48 := (by decide +kernel); omega)
theorem qo_34_0 : qall (qokB 34) 0 17 = true := by decide +kernel
theorem qo_34 : ∀ pc, pc < qsz 34 → qokB 34 pc = true := fun pc h => qall_spec 17 0 qo_34_0 pc (by omega) (by have e : qsz 34 = 17 := (by decide +kernel); omega)
theorem qo_35_0 : qall (qokB 35) 0 14 = true := by decide +kernel
theorem qo_35 : ∀ pc, pc < qsz 35 → qokB 35 pc = true := fun pc h => qall_spec 14 0 qo_35_0 pc (by omega) (by have e : qsz 35 = 14 := (by decide +kernel); omega)
theorem qo_36_0 : qall (qokB 36) 0 31 = true := by decide +kernel
theorem qo_36 : ∀ pc, pc < qsz 36 → qokB 36 pc = true := fun pc h => qall_spec 31 0 qo_36_0 pc (by omega) (by have e : qsz 36 = 31 := (by decide +kernel); omega)
theorem qo_37_0 : qall (qokB 37) 0 24 = true := by decide +kernel
theorem qo_37 : ∀ pc, pc < qsz 37 → qokB 37 pc = true := fun pc h => qall_spec 24 0 qo_37_0 pc (by omega) (by have e : qsz 37 = 24 := (by decide +kernel); omega)
theorem qo_38_0 : qall (qokB 38) 0 40 = true := by decide +kernel
theorem qo_38_1 : qall (qokB 38) 40 31 = true := by decide +kernel
theorem qo_38 : ∀ pc, pc < qsz 38 → qokB 38 pc = true := fun pc h => if h0 : pc < 40 then qall_spec 40 0 qo_38_0 pc (by omega) (by omega) else qall_spec 31 40 qo_38_1 pc (by omega) (by have e : qsz 38 = 71 := (by decide +kernel); omega)
theorem qo_39_0 : qall (qokB 39) 0 40 = true := by decide +kernel
theorem qo_39_1 : qall (qokB 39) 40 40 = true := by decide +kernel
theorem qo_39_2 : qall (qokB 39) 80 40 = true := by decide +kernel
theorem qo_39 : ∀ pc, pc < qsz 39 → qokB 39 pc = true := fun pc h => if h0 : pc < 40 then qall_spec 40 0 qo_39_0 pc (by omega) (by omega) else if h1 : pc < 80 then qall_spec 40 40 qo_39_1 pc (by omega) (by omega) else qall_spec 40 80 qo_39_2 pc (by omega) (by have e : qsz 39 = 120 := (by decide +kernel); omega)
theorem qo_40_0 : qall (qokB 40) 0 40 = true := by decide +kernel
theorem qo_40_1 : qall (qokB 40) 40 40 = true := by decide +kernel
theorem qo_40_2 : qall (qokB 40) 80 17 = true := by decide +kernel
theorem qo_40 : ∀ pc, pc < qsz 40 → qokB 40 pc = true := fun pc h => if h0 : pc < 40 then qall_spec 40 0 qo_40_0 pc (by omega) (by omega) else if h1 : pc < 80 then qall_spec 40 40 qo_40_1 pc (by omega) (by omega) else qall_spec 17 80 qo_40_2 pc (by omega) (by have e : qsz 40 = 97 := (by decide +kernel); omega)
theorem qo_41_0 : qall (qokB 41) 0 40 = true := by decide +kernel
theorem qo_41_1 : qall (qokB 41) 40 40 = true := by decide +kernel
theorem qo_41_2 : qall (qokB 41) 80 40 = true := by decide +kernel
theorem qo_41_3 : qall (qokB 41) 120 40 = true := by decide +kernel
theorem qo_41_4 : qall (qokB 41) 160 40 = true := by decide +kernel
theorem qo_41_5 : qall (qokB 41) 200 12 = true := by decide +kernel
theorem qo_41 : ∀ pc, pc < qsz 41 → qokB 41 pc = true := fun pc h => if h0 : pc < 40 then qall_spec 40 0 qo_41_0 pc (by omega) (by omega) else if h1 : pc < 80 then qall_spec 40 40 qo_41_1 pc (by omega) (by omega) else if h2 : pc < 120 then qall_spec 40 80 qo_41_2 pc (by omega) (by omega) else if h3 : pc < 160 then qall_spec 40 120 qo_41_3 pc (by omega) (by omega) else if h4 : pc < 200 then qall_spec 40 160 qo_41_4 pc (by omega) (by omega) else qall_spec 12 200 qo_41_5 pc (by omega) (by have e : qsz 41 = 212 := (by decide +kernel); omega)
theorem qo_42_0 : qall (qokB 42) 0 40 = true := by decide +kernel
theorem qo_42_1 : qall (qokB 42) 40 40 = true := by decide +kernel
theorem qo_42_2 : qall (qokB 42) 80 25 = true := by decide +kernel
theorem qo_42 : ∀ pc, pc < qsz 42 → qokB 42 pc = true := fun pc h => if h0 : pc < 40 then qall_spec 40 0 qo_42_0 pc (by omega) (by omega) else if h1 : pc < 80 then qall_spec 40 40 qo_42_1 pc (by omega) (by omega) else qall_spec 25 80 qo_42_2 pc (by omega) (by have e : qsz 42 = 105 := (by decide +kernel); omega)
theorem qo_43_0 : qall (qokB 43) 0 40 = true := by decide +kernel
theorem qo_43 : ∀ pc, pc < qsz 43 → qokB 43 pc = true := fun pc h => qall_spec 40 0 qo_43_0 pc (by omega) (by have e : qsz 43 = 40 := (by decide +kernel); omega)
theorem qo_44_0 : qall (qokB 44) 0 40 = true := by decide +kernel
theorem qo_44_1 : qall (qokB 44) 40 40 = true := by decide +kernel
theorem qo_44_2 : qall (qokB 44) 80 40 = true := by decide +kernel
theorem qo_44_3 : qall (qokB 44) 120 19 = true := by decide +kernel
theorem qo_44 : ∀ pc, pc < qsz 44 → qokB 44 pc = true := fun pc h => if h0 : pc < 40 then qall_spec 40 0 qo_44_0 pc (by omega) (by omega) else if h1 : pc < 80 then qall_spec 40 40 qo_44_1 pc (by omega) (by omega) else if h2 : pc < 120 then qall_spec 40 80 qo_44_2 pc (by omega) (by omega) else qall_spec 19 120 qo_44_3 pc (by omega) (by have e : qsz 44 = 139 := (by decide +kernel); omega)
theorem qo_45_0 : qall (qokB 45) 0 40 = true := by decide +kernel
theorem qo_45_1 : qall (qokB 45) 40 37 = true := by decide +kernel
theorem qo_45 : ∀ pc, pc < qsz 45 → qokB 45 pc = true := fun pc h => if h0 : pc < 40 then qall_spec 40 0 qo_45_0 pc (by omega) (by omega) else qall_spec 37 40 qo_45_1 pc (by omega) (by have e : qsz 45 = 77 := (by decide +kernel); omega)
theorem qo_46_0 : qall (qokB 46) 0 38 = true := by decide +kernel
theorem qo_46 : ∀ pc, pc < qsz 46 → qokB 46 pc = true := fun pc h => qall_spec 38 0 qo_46_0 pc (by omega) (by have e : qsz 46 = 38 := (by decide +kernel); omega)
theorem qo_47_0 : qall (qokB 47) 0 40 = true := by decide +kernel
theorem qo_47_1 : qall (qokB 47) 40 17 = true := by decide +kernel
theorem qo_47 : ∀ pc, pc < qsz 47 → qokB 47 pc = true := fun pc h => if h0 : pc < 40 then qall_spec 40 0 qo_47_0 pc (by omega) (by omega) else qall_spec 17 40 qo_47_1 pc (by omega) (by have e : qsz 47 = 57 := (by decide +kernel); omega)
theorem qo_48_0 : qall (qokB 48) 0 40 = true := by decide +kernel
theorem qo_48_1 : qall (qokB 48) 40 40 = true := by decide +kernel
theorem qo_48_2 : qall (qokB 48) 80 40 = true := by decide +kernel
theorem qo_48_3 : qall (qokB 48) 120 8 = true := by decide +kernel
theorem qo_48 : ∀ pc, pc < qsz 48 → qokB 48 pc = true := fun pc h => if h0 : pc < 40 then qall_spec 40 0 qo_48_0 pc (by omega) (by omega) else if h1 : pc < 80 then qall_spec 40 40 qo_48_1 pc (by omega) (by omega) else if h2 : pc < 120 then qall_spec 40 80 qo_48_2 pc (by omega) (by omega) else qall_spec 8 120 qo_48_3 pc (by omega) (by have e : qsz 48 = 128 := (by decide +kernel); omega)
theorem qo_49_0 : qall (qokB 49) 0 40 = true := by decide +kernel
theorem qo_49_1 : qall (qokB 49) 40 40 = true := by decide +kernel
theorem qo_49_2 : qall (qokB 49) 80 2 = true := by decide +kernel
theorem qo_49 : ∀ pc, pc < qsz 49 → qokB 49 pc = true := fun pc h => if h0 : pc < 40 then qall_spec 40 0 qo_49_0 pc (by omega) (by omega) else if h1 : pc < 80 then qall_spec 40 40 qo_49_1 pc (by omega) (by omega) else qall_spec 2 80 qo_49_2 pc (by omega) (by have e : qsz 49 = 82 := (by decide +kernel); omega)
theorem qo_50_0 : qall (qokB 50) 0 40 = true := by decide +kernel
theorem qo_50_1 : qall (qokB 50) 40 38 = true := by decide +kernel
theorem qo_50 : ∀ pc, pc < qsz 50 → qokB 50 pc = true := fun pc h => if h0 : pc < 40 then qall_spec 40 0 qo_50_0 pc (by omega) (by omega) else qall_spec 38 40 qo_50_1 pc (by omega) (by have e : qsz 50 = 78 := (by decide +kernel); omega)
theorem qo_51_0 : qall (qokB 51) 0 40 = true := by decide +kernel
theorem qo_51_1 : qall (qokB 51) 40 35 = true := by decide +kernel
theorem qo_51 : ∀ pc, pc < qsz 51 → qokB 51 pc = true := fun pc h => if h0 : pc < 40 then qall_spec 40 0 qo_51_0 pc (by omega) (by omega) else qall_spec 35 40 qo_51_1 pc (by omega) (by have e : qsz 51 = 75 := (by decide +kernel); omega)
theorem qo_52_0 : qall (qokB 52) 0 40 = true := by decide +kernel
theorem qo_52_1 : qall (qokB 52) 40 40 = true := by decide +kernel
theorem qo_52_2 : qall (qokB 52) 80 27 = true := by decide +kernel
theorem qo_52 : ∀ pc, pc < qsz 52 → qokB 52 pc = true := fun pc h => if h0 : pc < 40 then qall_spec 40 0 qo_52_0 pc (by omega) (by omega) else if h1 : pc < 80 then qall_spec 40 40 qo_52_1 pc (by omega) (by omega) else qall_spec 27 80 qo_52_2 pc (by omega) (by have e : qsz 52 = 107 := (by decide +kernel); omega)
theorem qo_53_0 : qall (qokB 53) 0 40 = true := by decide +kernel
theorem qo_53_1 : qall (qokB 53) 40 32 = true := by decide +kernel
theorem qo_53 : ∀ pc, pc < qsz 53 → qokB 53 pc = true := fun pc h => if h0 : pc < 40 then qall_spec 40 0 qo_53_0 pc (by omega) (by omega) else qall_spec 32 40 qo_53_1 pc (by omega) (by have e : qsz 53 = 72 := (by decide +kernel); omega)
theorem qo_54_0 : qall (qokB 54) 0 40 = true := by decide +kernel
theorem qo_54_1 : qall (qokB 54) 40 23 = true := by decide +kernel
theorem qo_54 : ∀ pc, pc < qsz 54 → qokB 54 pc = true := fun pc h => if h0 : pc < 40 then qall_spec 40 0 qo_54_0 pc (by omega) (by omega) else qall_spec 23 40 qo_54_1 pc (by omega) (by have e : qsz 54 = 63 := (by decide +kernel); omega)
theorem qo_55_0 : qall (qokB 55) 0 40 = true := by decide +kernel
theorem qo_55_1 : qall (qokB 55) 40 17 = true := by decide +kernel
theorem qo_55 : ∀ pc, pc < qsz 55 → qokB 55 pc = true := fun pc h => if h0 : pc < 40 then qall_spec 40 0 qo_55_0 pc (by omega) (by omega) else qall_spec 17 40 qo_55_1 pc (by omega) (by have e : qsz 55 = 57 := (by decide +kernel); omega)
theorem qo_56_0 : qall (qokB 56) 0 40 = true := by decide +kernel
theorem qo_56_1 : qall (qokB 56) 40 10 = true := by decide +kernel
theorem qo_56 : ∀ pc, pc < qsz 56 → qokB 56 pc = true := fun pc h => if h0 : pc < 40 then qall_spec 40 0 qo_56_0 pc (by omega) (by omega) else qall_spec 10 40 qo_56_1 pc (by omega) (by have e : qsz 56 = 50 := (by decide +kernel); omega)
theorem qo_57_0 : qall (qokB 57) 0 40 = true := by decide +kernel
theorem qo_57_1 : qall (qokB 57) 40 29 = true := by decide +kernel
theorem qo_57 : ∀ pc, pc < qsz 57 → qokB 57 pc = true := fun pc h => if h0 : pc < 40 then qall_spec 40 0 qo_57_0 pc (by omega) (by omega) else qall_spec 29 40 qo_57_1 pc (by omega) (by have e : qsz 57 = 69 := (by decide +kernel); omega)
theorem qo_58_0 : qall (qokB 58) 0 40 = true := by decide +kernel
theorem qo_58_1 : qall (qokB 58) 40 2 = true := by decide +kernel
theorem qo_58 : ∀ pc, pc < qsz 58 → qokB 58 pc = true := fun pc h => if h0 : pc < 40 then qall_spec 40 0 qo_58_0 pc (by omega) (by omega) else qall_spec 2 40 qo_58_1 pc (by omega) (by have e : qsz 58 = 42 := (by decide +kernel); omega)
theorem qo_59_0 : qall (qokB 59) 0 40 = true := by decide +kernel
theorem qo_59_1 : qall (qokB 59) 40 3 = true := by decide +kernel
theorem qo_59 : ∀ pc, pc < qsz 59 → qokB 59 pc = true := fun pc h => if h0 : pc < 40 then qall_spec 40 0 qo_59_0 pc (by omega) (by omega) else qall_spec 3 40 qo_59_1 pc (by omega) (by have e : qsz 59 = 43 := (by decide +kernel); omega)
theorem qo_60_0 : qall (qokB 60) 0 40 = true := by decide +kernel
theorem qo_60_1 : qall (qokB 60) 40 26 = true := by decide +kernel
theorem qo_60 : ∀ pc, pc < qsz 60 → qokB 60 pc = true := fun pc h => if h0 : pc < 40 then qall_spec 40 0 qo_60_0 pc (by omega) (by omega) else qall_spec 26 40 qo_60_1 pc (by omega) (by have e : qsz 60 = 66 := (by decide +kernel); omega)
theorem qo_61_0 : qall (qokB 61) 0 40 = true := by decide +kernel
theorem qo_61_1 : qall (qokB 61) 40 27 = true := by decide +kernel
theorem qo_61 : ∀ pc, pc < qsz 61 → qokB 61 pc = true := fun pc h => if h0 : pc < 40 then qall_spec 40 0 qo_61_0 pc (by omega) (by omega) else qall_spec 27 40 qo_61_1 pc (by omega) (by have e : qsz 61 = 67 := (by decide +kernel); omega)
theorem qo_62_0 : qall (qokB 62) 0 40 = true := by decide +kernel
theorem qo_62_1 : qall (qokB 62) 40 40 = true := by decide +kernel
theorem qo_62_2 : qall (qokB 62) 80 33 = true := by decide +kernel
theorem qo_62 : ∀ pc, pc < qsz 62 → qokB 62 pc = true := fun pc h => if h0 : pc < 40 then qall_spec 40 0 qo_62_0 pc (by omega) (by omega) else if h1 : pc < 80 then qall_spec 40 40 qo_62_1 pc (by omega) (by omega) else qall_spec 33 80 qo_62_2 pc (by omega) (by have e : qsz 62 = 113 := (by decide +kernel); omega)
theorem qo_63_0 : qall (qokB 63) 0 40 = true := by decide +kernel
theorem qo_63_1 : qall (qokB 63) 40 17 = true := by decide +kernel
theorem qo_63 : ∀ pc, pc < qsz 63 → qokB 63 pc = true := fun pc h => if h0 : pc < 40 then qall_spec 40 0 qo_63_0 pc (by omega) (by omega) else qall_spec 17 40 qo_63_1 pc (by omega) (by have e : qsz 63 = 57 := (by decide +kernel); omega)
theorem qo_64_0 : qall (qokB 64) 0 40 = true := by decide +kernel
theorem qo_64_1 : qall (qokB 64) 40 40 = true := by decide +kernel
theorem qo_64_2 : qall (qokB 64) 80 32 = true := by decide +kernel
theorem qo_64 : ∀ pc, pc < qsz 64 → qokB 64 pc = true := fun pc h => if h0 : pc < 40 then qall_spec 40 0 qo_64_0 pc (by omega) (by omega) else if h1 : pc < 80 then qall_spec 40 40 qo_64_1 pc (by omega) (by omega) else qall_spec 32 80 qo_64_2 pc (by omega) (by have e : qsz 64 = 112 := (by decide +kernel); omega)
theorem qo_65_0 : qall (qokB 65) 0 40 = true := by decide +kernel
theorem qo_65_1 : qall (qokB 65) 40 18 = true := by decide +kernel
theorem qo_65 : ∀ pc, pc < qsz 65 → qokB 65 pc = true := fun pc h => if h0 : pc < 40 then qall_spec 40 0 qo_65_0 pc (by omega) (by omega) else qall_spec 18 40 qo_65_1 pc (by omega) (by have e : qsz 65 = 58 := (by decide +kernel); omega)
theorem qo_66_0 : qall (qokB 66) 0 40 = true := by decide +kernel
theorem qo_66_1 : qall (qokB 66) 40 40 = true := by decide +kernel
theorem qo_66_2 : qall (qokB 66) 80 8 = true := by decide +kernel
theorem qo_66 : ∀ pc, pc < qsz 66 → qokB 66 pc = true := fun pc h => if h0 : pc < 40 then qall_spec 40 0 qo_66_0 pc (by omega) (by omega) else if h1 : pc < 80 then qall_spec 40 40 qo_66_1 pc (by omega) (by omega) else qall_spec 8 80 qo_66_2 pc (by omega) (by have e : qsz 66 = 88 := (by decide +kernel); omega)
theorem qo_67_0 : qall (qokB 67) 0 40 = true := by decide +kernel
theorem qo_67_1 : qall (qokB 67) 40 40 = true := by decide +kernel
theorem qo_67_2 : qall (qokB 67) 80 40 = true := by decide +kernel
theorem qo_67_3 : qall (qokB 67) 120 38 = true := by decide +kernel
theorem qo_67 : ∀ pc, pc < qsz 67 → qokB 67 pc = true := fun pc h => if h0 : pc < 40 then qall_spec 40 0 qo_67_0 pc (by omega) (by omega) else if h1 : pc < 80 then qall_spec 40 40 qo_67_1 pc (by omega) (by omega) else if h2 : pc < 120 then qall_spec 40 80 qo_67_2 pc (by omega) (by omega) else qall_spec 38 120 qo_67_3 pc (by omega) (by have e : qsz 67 = 158 := (by decide +kernel); omega)
theorem qo_68_0 : qall (qokB 68) 0 40 = true := by decide +kernel
theorem qo_68 : ∀ pc, pc < qsz 68 → qokB 68 pc = true := fun pc h => qall_spec 40 0 qo_68_0 pc (by omega) (by have e : qsz 68 = 40 := (by decide +kernel); omega)
theorem qo_69_0 : qall (qokB 69) 0 40 = true := by decide +kernel
theorem qo_69_1 : qall (qokB 69) 40 19 = true := by decide +kernel
theorem qo_69 : ∀ pc, pc < qsz 69 → qokB 69 pc = true := fun pc h => if h0 : pc < 40 then qall_spec 40 0 qo_69_0 pc (by omega) (by omega) else qall_spec 19 40 qo_69_1 pc (by omega) (by have e : qsz 69 = 59 := (by decide +kernel); omega)
theorem qo_70_0 : qall (qokB 70) 0 29 = true := by decide +kernel
theorem qo_70 : ∀ pc, pc < qsz 70 → qokB 70 pc = true := fun pc h => qall_spec 29 0 qo_70_0 pc (by omega) (by have e : qsz 70 = 29 := (by decide +kernel); omega)
theorem qo_71_0 : qall (qokB 71) 0 40 = true := by decide +kernel
theorem qo_71_1 : qall (qokB 71) 40 5 = true := by decide +kernel
theorem qo_71 : ∀ pc, pc < qsz 71 → qokB 71 pc = true := fun pc h => if h0 : pc < 40 then qall_spec 40 0 qo_71_0 pc (by omega) (by omega) else qall_spec 5 40 qo_71_1 pc (by omega) (by have e : qsz 71 = 45 := (by decide +kernel); omega)
theorem qo_72_0 : qall (qokB 72) 0 40 = true := by decide +kernel
theorem qo_72_1 : qall (qokB 72) 40 40 = true := by decide +kernel
theorem qo_72_2 : qall (qokB 72) 80 2 = true := by decide +kernel
theorem qo_72 : ∀ pc, pc < qsz 72 → qokB 72 pc = true := fun pc h => if h0 : pc < 40 then qall_spec 40 0 qo_72_0 pc (by omega) (by omega) else if h1 : pc < 80 then qall_spec 40 40 qo_72_1 pc (by omega) (by omega) else qall_spec 2 80 qo_72_2 pc (by omega) (by have e : qsz 72 = 82 := (by decide +kernel); omega)
theorem qo_73_0 : qall (qokB 73) 0 40 = true := by decide +kernel
theorem qo_73_1 : qall (qokB 73) 40 40 = true := by decide +kernel
theorem qo_73_2 : qall (qokB 73) 80 40 = true := by decide +kernel
theorem qo_73_3 : qall (qokB 73) 120 40 = true := by decide +kernel
theorem qo_73_4 : qall (qokB 73) 160 4 = true := by decide +kernel
theorem qo_73 : ∀ pc, pc < qsz 73 → qokB 73 pc = true := fun pc h => if h0 : pc < 40 then qall_spec 40 0 qo_73_0 pc (by omega) (by omega) else if h1 : pc < 80 then qall_spec 40 40 qo_73_1 pc (by omega) (by omega) else if h2 : pc < 120 then qall_spec 40 80 qo_73_2 pc (by omega) (by omega) else if h3 : pc < 160 then qall_spec 40 120 qo_73_3 pc (by omega) (by omega) else qall_spec 4 160 qo_73_4 pc (by omega) (by have e : qsz 73 = 164 := (by decide +kernel); omega)
theorem qo_74_0 : qall (qokB 74) 0 36 = true := by decide +kernel
theorem qo_74 : ∀ pc, pc < qsz 74 → qokB 74 pc = true := fun pc h => qall_spec 36 0 qo_74_0 pc (by omega) (by have e : qsz 74 = 36 := (by decide +kernel); omega)
theorem qo_75_0 : qall (qokB 75) 0 40 = true := by decide +kernel
theorem qo_75_1 : qall (qokB 75) 40 40 = true := by decide +kernel
theorem qo_75_2 : qall (qokB 75) 80 25 = true := by decide +kernel
theorem qo_75 : ∀ pc, pc < qsz 75 → qokB 75 pc = true := fun pc h => if h0 : pc < 40 then qall_spec 40 0 qo_75_0 pc (by omega) (by omega) else if h1 : pc < 80 then qall_spec 40 40 qo_75_1 pc (by omega) (by omega) else qall_spec 25 80 qo_75_2 pc (by omega) (by have e : qsz 75 = 105 := (by decide +kernel); omega)
theorem qo_76_0 : qall (qokB 76) 0 40 = true := by decide +kernel
theorem qo_76_1 : qall (qokB 76) 40 16 = true := by decide +kernel
theorem qo_76 : ∀ pc, pc < qsz 76 → qokB 76 pc = true := fun pc h => if h0 : pc < 40 then qall_spec 40 0 qo_76_0 pc (by omega) (by omega) else qall_spec 16 40 qo_76_1 pc (by omega) (by have e : qsz 76 = 56 := (by decide +kernel); omega)
theorem qo_77_0 : qall (qokB 77) 0 32 = true := by decide +kernel
theorem qo_77 : ∀ pc, pc < qsz 77 → qokB 77 pc = true := fun pc h => qall_spec 32 0 qo_77_0 pc (by omega) (by have e : qsz 77 = 32 := (by decide +kernel); omega)
theorem qo_78_0 : qall (qokB 78) 0 40 = true := by decide +kernel
theorem qo_78_1 : qall (qokB 78) 40 22 = true := by decide +kernel
theorem qo_78 : ∀ pc, pc < qsz 78 → qokB 78 pc = true := fun pc h => if h0 : pc < 40 then qall_spec 40 0 qo_78_0 pc (by omega) (by omega) else qall_spec 22 40 qo_78_1 pc (by omega) (by have e : qsz 78 = 62 := (by decide +kernel); omega)
theorem qo_79_0 : qall (qokB 79) 0 40 = true := by decide +kernel
theorem qo_79_1 : qall (qokB 79) 40 40 = true := by decide +kernel
theorem qo_79_2 : qall (qokB 79) 80 40 = true := by decide +kernel
theorem qo_79_3 : qall (qokB 79) 120 4 = true := by decide +kernel
theorem qo_79 : ∀ pc, pc < qsz 79 → qokB 79 pc = true := fun pc h => if h0 : pc < 40 then qall_spec 40 0 qo_79_0 pc (by omega) (by omega) else if h1 : pc < 80 then qall_spec 40 40 qo_79_1 pc (by omega) (by omega) else if h2 : pc < 120 then qall_spec 40 80 qo_79_2 pc (by omega) (by omega) else qall_spec 4 120 qo_79_3 pc (by omega) (by have e : qsz 79 = 124 := (by decide +kernel); omega)
theorem qo_80_0 : qall (qokB 80) 0 31 = true := by decide +kernel
theorem qo_80 : ∀ pc, pc < qsz 80 → qokB 80 pc = true := fun pc h => qall_spec 31 0 qo_80_0 pc (by omega) (by have e : qsz 80 = 31 := (by decide +kernel); omega)
theorem qo_81_0 : qall (qokB 81) 0 40 = true := by decide +kernel
theorem qo_81_1 : qall (qokB 81) 40 31 = true := by decide +kernel
theorem qo_81 : ∀ pc, pc < qsz 81 → qokB 81 pc = true := fun pc h => if h0 : pc < 40 then qall_spec 40 0 qo_81_0 pc (by omega) (by omega) else qall_spec 31 40 qo_81_1 pc (by omega) (by have e : qsz 81 = 71 := (by decide +kernel); omega)
theorem qo_82_0 : qall (qokB 82) 0 19 = true := by decide +kernel
theorem qo_82 : ∀ pc, pc < qsz 82 → qokB 82 pc = true := fun pc h => qall_spec 19 0 qo_82_0 pc (by omega) (by have e : qsz 82 = 19 := (by decide +kernel); omega)
theorem qo_83_0 : qall (qokB 83) 0 18 = true := by decide +kernel
theorem qo_83 : ∀ pc, pc < qsz 83 → qokB 83 pc = true := fun pc h => qall_spec 18 0 qo_83_0 pc (by omega) (by have e : qsz 83 = 18 := (by decide +kernel); omega)
theorem qo_84_0 : qall (qokB 84) 0 22 = true := by decide +kernel
theorem qo_84 : ∀ pc, pc < qsz 84 → qokB 84 pc = true := fun pc h => qall_spec 22 0 qo_84_0 pc (by omega) (by have e : qsz 84 = 22 := (by decide +kernel); omega)
theorem qo_85_0 : qall (qokB 85) 0 16 = true := by decide +kernel
theorem qo_85 : ∀ pc, pc < qsz 85 → qokB 85 pc = true := fun pc h => qall_spec 16 0 qo_85_0 pc (by omega) (by have e : qsz 85 = 16 := (by decide +kernel); omega)
theorem qo_86_0 : qall (qokB 86) 0 29 = true := by decide +kernel
theorem qo_86 : ∀ pc, pc < qsz 86 → qokB 86 pc = true := fun pc h => qall_spec 29 0 qo_86_0 pc (by omega) (by have e : qsz 86 = 29 := (by decide +kernel); omega)
theorem qo_87_0 : qall (qokB 87) 0 6 = true := by decide +kernel
theorem qo_87 : ∀ pc, pc < qsz 87 → qokB 87 pc = true := fun pc h => qall_spec 6 0 qo_87_0 pc (by omega) (by have e : qsz 87 = 6 := (by decide +kernel); omega)
theorem qo_88_0 : qall (qokB 88) 0 40 = true := by decide +kernel
theorem qo_88_1 : qall (qokB 88) 40 26 = true := by decide +kernel
theorem qo_88 : ∀ pc, pc < qsz 88 → qokB 88 pc = true := fun pc h => if h0 : pc < 40 then qall_spec 40 0 qo_88_0 pc (by omega) (by omega) else qall_spec 26 40 qo_88_1 pc (by omega) (by have e : qsz 88 = 66 := (by decide +kernel); omega)
theorem qo_89_0 : qall (qokB 89) 0 40 = true := by decide +kernel
theorem qo_89_1 : qall (qokB 89) 40 7 = true := by decide +kernel
theorem qo_89 : ∀ pc, pc < qsz 89 → qokB 89 pc = true := fun pc h => if h0 : pc < 40 then qall_spec 40 0 qo_89_0 pc (by omega) (by omega) else qall_spec 7 40 qo_89_1 pc (by omega) (by have e : qsz 89 = 47 := (by decide +kernel); omega)
theorem qo_90_0 : qall (qokB 90) 0 26 = true := by decide +kernel
theorem qo_90 : ∀ pc, pc < qsz 90 → qokB 90 pc = true := fun pc h => qall_spec 26 0 qo_90_0 pc (by omega) (by have e : qsz 90 = 26 := (by decide +kernel); omega)
theorem qo_91_0 : qall (qokB 91) 0 40 = true := by decide +kernel
theorem qo_91_1 : qall (qokB 91) 40 8 = true := by decide +kernel
theorem qo_91 : ∀ pc, pc < qsz 91 → qokB 91 pc = true := fun pc h => if h0 : pc < 40 then qall_spec 40 0 qo_91_0 pc (by omega) (by omega) else qall_spec 8 40 qo_91_1 pc (by omega) (by have e : qsz 91 = 48 := (by decide +kernel); omega)
theorem qo_92_0 : qall (qokB 92) 0 40 = true := by decide +kernel
theorem qo_92_1 : qall (qokB 92) 40 36 = true := by decide +kernel
theorem qo_92 : ∀ pc, pc < qsz 92 → qokB 92 pc = true := fun pc h => if h0 : pc < 40 then qall_spec 40 0 qo_92_0 pc (by omega) (by omega) else qall_spec 36 40 qo_92_1 pc (by omega) (by have e : qsz 92 = 76 := (by decide +kernel); omega)
theorem qo_93_0 : qall (qokB 93) 0 40 = true := by decide +kernel
theorem qo_93_1 : qall (qokB 93) 40 1 = true := by decide +kernel
theorem qo_93 : ∀ pc, pc < qsz 93 → qokB 93 pc = true := fun pc h => if h0 : pc < 40 then qall_spec 40 0 qo_93_0 pc (by omega) (by omega) else qall_spec 1 40 qo_93_1 pc (by omega) (by have e : qsz 93 = 41 := (by decide +kernel); omega)
theorem qo_94_0 : qall (qokB 94) 0 31 = true := by decide +kernel
theorem qo_94 : ∀ pc, pc < qsz 94 → qokB 94 pc = true := fun pc h => qall_spec 31 0 qo_94_0 pc (by omega) (by have e : qsz 94 = 31 := (by decide +kernel); omega)
theorem qo_95_0 : qall (qokB 95) 0 22 = true := by decide +kernel
theorem qo_95 : ∀ pc, pc < qsz 95 → qokB 95 pc = true := fun pc h => qall_spec 22 0 qo_95_0 pc (by omega) (by have e : qsz 95 = 22 := (by decide +kernel); omega)
theorem qo_96_0 : qall (qokB 96) 0 18 = true := by decide +kernel
theorem qo_96 : ∀ pc, pc < qsz 96 → qokB 96 pc = true := fun pc h => qall_spec 18 0 qo_96_0 pc (by omega) (by have e : qsz 96 = 18 := (by decide +kernel); omega)
theorem qo_97_0 : qall (qokB 97) 0 29 = true := by decide +kernel
theorem qo_97 : ∀ pc, pc < qsz 97 → qokB 97 pc = true := fun pc h => qall_spec 29 0 qo_97_0 pc (by omega) (by have e : qsz 97 = 29 := (by decide +kernel); omega)
theorem qo_98_0 : qall (qokB 98) 0 33 = true := by decide +kernel
theorem qo_98 : ∀ pc, pc < qsz 98 → qokB 98 pc = true := fun pc h => qall_spec 33 0 qo_98_0 pc (by omega) (by have e : qsz 98 = 33 := (by decide +kernel); omega)
theorem qo_99_0 : qall (qokB 99) 0 40 = true := by decide +kernel
theorem qo_99_1 : qall (qokB 99) 40 5 = true := by decide +kernel
theorem qo_99 : ∀ pc, pc < qsz 99 → qokB 99 pc = true := fun pc h => if h0 : pc < 40 then qall_spec 40 0 qo_99_0 pc (by omega) (by omega) else qall_spec 5 40 qo_99_1 pc (by omega) (by have e : qsz 99 = 45 := (by decide +kernel); omega)
theorem qo_100_0 : qall (qokB 100) 0 40 = true := by decide +kernel
theorem qo_100_1 : qall (qokB 100) 40 40 = true := by decide +kernel
theorem qo_100_2 : qall (qokB 100) 80 4 = true := by decide +kernel
theorem qo_100 : ∀ pc, pc < qsz 100 → qokB 100 pc = true := fun pc h => if h0 : pc < 40 then qall_spec 40 0 qo_100_0 pc (by omega) (by omega) else if h1 : pc < 80 then qall_spec 40 40 qo_100_1 pc (by omega) (by omega) else qall_spec 4 80 qo_100_2 pc (by omega) (by have e : qsz 100 = 84 := (by decide +kernel); omega)
theorem qo_101_0 : qall (qokB 101) 0 38 = true := by decide +kernel
theorem qo_101 : ∀ pc, pc < qsz 101 → qokB 101 pc = true := fun pc h => qall_spec 38 0 qo_101_0 pc (by omega) (by have e : qsz 101 = 38 := (by decide +kernel); omega)
theorem qo_102_0 : qall (qokB 102) 0 40 = true := by decide +kernel
theorem qo_102_1 : qall (qokB 102) 40 39 = true := by decide +kernel
theorem qo_102 : ∀ pc, pc < qsz 102 → qokB 102 pc = true := fun pc h => if h0 : pc < 40 then qall_spec 40 0 qo_102_0 pc (by omega) (by omega) else qall_spec 39 40 qo_102_1 pc (by omega) (by have e : qsz 102 = 79 := (by decide +kernel); omega)
theorem qo_103_0 : qall (qokB 103) 0 40 = true := by decide +kernel
theorem qo_103_1 : qall (qokB 103) 40 40 = true := by decide +kernel
theorem qo_103_2 : qall (qokB 103) 80 40 = true := by decide +kernel
theorem qo_103_3 : qall (qokB 103) 120 6 = true := by decide +kernel
theorem qo_103 : ∀ pc, pc < qsz 103 → qokB 103 pc = true := fun pc h => if h0 : pc < 40 then qall_spec 40 0 qo_103_0 pc (by omega) (by omega) else if h1 : pc < 80 then qall_spec 40 40 qo_103_1 pc (by omega) (by omega) else if h2 : pc < 120 then qall_spec 40 80 qo_103_2 pc (by omega) (by omega) else qall_spec 6 120 qo_103_3 pc (by omega) (by have e : qsz 103 = 126 := (by decide +kernel); omega)
theorem qo_104_0 : qall (qokB 104) 0 17 = true := by decide +kernel
theorem qo_104 : ∀ pc, pc < qsz 104 → qokB 104 pc = true := fun pc h => qall_spec 17 0 qo_104_0 pc (by omega) (by have e : qsz 104 = 17 := (by decide +kernel); omega)
theorem qo_105_0 : qall (qokB 105) 0 5 = true := by decide +kernel
theorem qo_105 : ∀ pc, pc < qsz 105 → qokB 105 pc = true := fun pc h => qall_spec 5 0 qo_105_0 pc (by omega) (by have e : qsz 105 = 5 := (by decide +kernel); omega)
theorem qo_106_0 : qall (qokB 106) 0 23 = true := by decide +kernel
theorem qo_106 : ∀ pc, pc < qsz 106 → qokB 106 pc = true := fun pc h => qall_spec 23 0 qo_106_0 pc (by omega) (by have e : qsz 106 = 23 := (by decide +kernel); omega)
theorem qo_107_0 : qall (qokB 107) 0 12 = true := by decide +kernel
theorem qo_107 : ∀ pc, pc < qsz 107 → qokB 107 pc = true := fun pc h => qall_spec 12 0 qo_107_0 pc (by omega) (by have e : qsz 107 = 12 := (by decide +kernel); omega)
theorem qo_108_0 : qall (qokB 108) 0 38 = true := by decide +kernel
theorem qo_108 : ∀ pc, pc < qsz 108 → qokB 108 pc = true := fun pc h => qall_spec 38 0 qo_108_0 pc (by omega) (by have e : qsz 108 = 38 := (by decide +kernel); omega)
theorem qo_109_0 : qall (qokB 109) 0 40 = true := by decide +kernel
theorem qo_109_1 : qall (qokB 109) 40 2 = true := by decide +kernel
theorem qo_109 : ∀ pc, pc < qsz 109 → qokB 109 pc = true := fun pc h => if h0 : pc < 40 then qall_spec 40 0 qo_109_0 pc (by omega) (by omega) else qall_spec 2 40 qo_109_1 pc (by omega) (by have e : qsz 109 = 42 := (by decide +kernel); omega)
theorem qo_110_0 : qall (qokB 110) 0 40 = true := by decide +kernel
theorem qo_110 : ∀ pc, pc < qsz 110 → qokB 110 pc = true := fun pc h => qall_spec 40 0 qo_110_0 pc (by omega) (by have e : qsz 110 = 40 := (by decide +kernel); omega)
theorem qo_111_0 : qall (qokB 111) 0 16 = true := by decide +kernel
theorem qo_111 : ∀ pc, pc < qsz 111 → qokB 111 pc = true := fun pc h => qall_spec 16 0 qo_111_0 pc (by omega) (by have e : qsz 111 = 16 := (by decide +kernel); omega)
theorem qo_112_0 : qall (qokB 112) 0 7 = true := by decide +kernel
theorem qo_112 : ∀ pc, pc < qsz 112 → qokB 112 pc = true := fun pc h => qall_spec 7 0 qo_112_0 pc (by omega) (by have e : qsz 112 = 7 := (by decide +kernel); omega)
theorem qo_113_0 : qall (qokB 113) 0 23 = true := by decide +kernel
theorem qo_113 : ∀ pc, pc < qsz 113 → qokB 113 pc = true := fun pc h => qall_spec 23 0 qo_113_0 pc (by omega) (by have e : qsz 113 = 23 := (by decide +kernel); omega)
theorem qo_114_0 : qall (qokB 114) 0 15 = true := by decide +kernel
theorem qo_114 : ∀ pc, pc < qsz 114 → qokB 114 pc = true := fun pc h => qall_spec 15 0 qo_114_0 pc (by omega) (by have e : qsz 114 = 15 := (by decide +kernel); omega)
theorem qo_115_0 : qall (qokB 115) 0 22 = true := by decide +kernel
theorem qo_115 : ∀ pc, pc < qsz 115 → qokB 115 pc = true := fun pc h => qall_spec 22 0 qo_115_0 pc (by omega) (by have e : qsz 115 = 22 := (by decide +kernel); omega)
theorem qo_116_0 : qall (qokB 116) 0 20 = true := by decide +kernel
theorem qo_116 : ∀ pc, pc < qsz 116 → qokB 116 pc = true := fun pc h => qall_spec 20 0 qo_116_0 pc (by omega) (by have e : qsz 116 = 20 := (by decide +kernel); omega)
theorem qo_117_0 : qall (qokB 117) 0 40 = true := by decide +kernel
theorem qo_117 : ∀ pc, pc < qsz 117 → qokB 117 pc = true := fun pc h => qall_spec 40 0 qo_117_0 pc (by omega) (by have e : qsz 117 = 40 := (by decide +kernel); omega)
theorem qo_118_0 : qall (qokB 118) 0 18 = true := by decide +kernel
theorem qo_118 : ∀ pc, pc < qsz 118 → qokB 118 pc = true := fun pc h => qall_spec 18 0 qo_118_0 pc (by omega) (by have e : qsz 118 = 18 := (by decide +kernel); omega)
theorem qo_119_0 : qall (qokB 119) 0 19 = true := by decide +kernel
theorem qo_119 : ∀ pc, pc < qsz 119 → qokB 119 pc = true := fun pc h => qall_spec 19 0 qo_119_0 pc (by omega) (by have e : qsz 119 = 19 := (by decide +kernel); omega)
theorem qo_120_0 : qall (qokB 120) 0 30 = true := by decide +kernel
theorem qo_120 : ∀ pc, pc < qsz 120 → qokB 120 pc = true := fun pc h => qall_spec 30 0 qo_120_0 pc (by omega) (by have e : qsz 120 = 30 := (by decide +kernel); omega)
theorem qo_121_0 : qall (qokB 121) 0 21 = true := by decide +kernel
theorem qo_121 : ∀ pc, pc < qsz 121 → qokB 121 pc = true := fun pc h => qall_spec 21 0 qo_121_0 pc (by omega) (by have e : qsz 121 = 21 := (by decide +kernel); omega)
theorem qo_122_0 : qall (qokB 122) 0 40 = true := by decide +kernel
theorem qo_122_1 : qall (qokB 122) 40 6 = true := by decide +kernel
theorem qo_122 : ∀ pc, pc < qsz 122 → qokB 122 pc = true := fun pc h => if h0 : pc < 40 then qall_spec 40 0 qo_122_0 pc (by omega) (by omega) else qall_spec 6 40 qo_122_1 pc (by omega) (by have e : qsz 122 = 46 := (by decide +kernel); omega)
theorem qo_123_0 : qall (qokB 123) 0 24 = true := by decide +kernel
theorem qo_123 : ∀ pc, pc < qsz 123 → qokB 123 pc = true := fun pc h => qall_spec 24 0 qo_123_0 pc (by omega) (by have e : qsz 123 = 24 := (by decide +kernel); omega)
theorem qo_124_0 : qall (qokB 124) 0 32 = true := by decide +kernel
theorem qo_124 : ∀ pc, pc < qsz 124 → qokB 124 pc = true := fun pc h => qall_spec 32 0 qo_124_0 pc (by omega) (by have e : qsz 124 = 32 := (by decide +kernel); omega)
theorem qo_125_0 : qall (qokB 125) 0 40 = true := by decide +kernel
theorem qo_125_1 : qall (qokB 125) 40 7 = true := by decide +kernel
theorem qo_125 : ∀ pc, pc < qsz 125 → qokB 125 pc = true := fun pc h => if h0 : pc < 40 then qall_spec 40 0 qo_125_0 pc (by omega) (by omega) else qall_spec 7 40 qo_125_1 pc (by omega) (by have e : qsz 125 = 47 := (by decide +kernel); omega)
theorem qo_126_0 : qall (qokB 126) 0 21 = true := by decide +kernel
theorem qo_126 : ∀ pc, pc < qsz 126 → qokB 126 pc = true := fun pc h => qall_spec 21 0 qo_126_0 pc (by omega) (by have e : qsz 126 = 21 := (by decide +kernel); omega)
theorem qo_127_0 : qall (qokB 127) 0 40 = true := by decide +kernel
theorem qo_127_1 : qall (qokB 127) 40 13 = true := by decide +kernel
theorem qo_127 : ∀ pc, pc < qsz 127 → qokB 127 pc = true := fun pc h => if h0 : pc < 40 then qall_spec 40 0 qo_127_0 pc (by omega) (by omega) else qall_spec 13 40 qo_127_1 pc (by omega) (by have e : qsz 127 = 53 := (by decide +kernel); omega)
theorem qo_128_0 : qall (qokB 128) 0 40 = true := by decide +kernel
theorem qo_128_1 : qall (qokB 128) 40 4 = true := by decide +kernel
theorem qo_128 : ∀ pc, pc < qsz 128 → qokB 128 pc = true := fun pc h => if h0 : pc < 40 then qall_spec 40 0 qo_128_0 pc (by omega) (by omega) else qall_spec 4 40 qo_128_1 pc (by omega) (by have e : qsz 128 = 44 := (by decide +kernel); omega)
theorem qo_129_0 : qall (qokB 129) 0 40 = true := by decide +kernel
theorem qo_129 : ∀ pc, pc < qsz 129 → qokB 129 pc = true := fun pc h => qall_spec 40 0 qo_129_0 pc (by omega) (by have e : qsz 129 = 40 := (by decide +kernel); omega)
theorem qo_130_0 : qall (qokB 130) 0 8 = true := by decide +kernel
theorem qo_130 : ∀ pc, pc < qsz 130 → qokB 130 pc = true := fun pc h => qall_spec 8 0 qo_130_0 pc (by omega) (by have e : qsz 130 = 8 := (by decide +kernel); omega)
theorem qo_131_0 : qall (qokB 131) 0 27 = true := by decide +kernel
theorem qo_131 : ∀ pc, pc < qsz 131 → qokB 131 pc = true := fun pc h => qall_spec 27 0 qo_131_0 pc (by omega) (by have e : qsz 131 = 27 := (by decide +kernel); omega)
theorem qo_132_0 : qall (qokB 132) 0 40 = true := by decide +kernel
theorem qo_132_1 : qall (qokB 132) 40 5 = true := by decide +kernel
theorem qo_132 : ∀ pc, pc < qsz 132 → qokB 132 pc = true := fun pc h => if h0 : pc < 40 then qall_spec 40 0 qo_132_0 pc (by omega) (by omega) else qall_spec 5 40 qo_132_1 pc (by omega) (by have e : qsz 132 = 45 := (by decide +kernel); omega)
theorem qo_133_0 : qall (qokB 133) 0 37 = true := by decide +kernel
theorem qo_133 : ∀ pc, pc < qsz 133 → qokB 133 pc = true := fun pc h => qall_spec 37 0 qo_133_0 pc (by omega) (by have e : qsz 133 = 37 := (by decide +kernel); omega)
theorem qo_134_0 : qall (qokB 134) 0 16 = true := by decide +kernel
theorem qo_134 : ∀ pc, pc < qsz 134 → qokB 134 pc = true := fun pc h => qall_spec 16 0 qo_134_0 pc (by omega) (by have e : qsz 134 = 16 := (by decide +kernel); omega)
theorem qo_135_0 : qall (qokB 135) 0 40 = true := by decide +kernel
theorem qo_135_1 : qall (qokB 135) 40 40 = true := by decide +kernel
theorem qo_135_2 : qall (qokB 135) 80 40 = true := by decide +kernel
theorem qo_135_3 : qall (qokB 135) 120 40 = true := by decide +kernel
theorem qo_135_4 : qall (qokB 135) 160 40 = true := by decide +kernel
theorem qo_135_5 : qall (qokB 135) 200 40 = true := by decide +kernel
theorem qo_135_6 : qall (qokB 135) 240 8 = true := by decide +kernel
theorem qo_135 : ∀ pc, pc < qsz 135 → qokB 135 pc = true := fun pc h => if h0 : pc < 40 then qall_spec 40 0 qo_135_0 pc (by omega) (by omega) else if h1 : pc < 80 then qall_spec 40 40 qo_135_1 pc (by omega) (by omega) else if h2 : pc < 120 then qall_spec 40 80 qo_135_2 pc (by omega) (by omega) else if h3 : pc < 160 then qall_spec 40 120 qo_135_3 pc (by omega) (by omega) else if h4 : pc < 200 then qall_spec 40 160 qo_135_4 pc (by omega) (by omega) else if h5 : pc < 240 then qall_spec 40 200 qo_135_5 pc (by omega) (by omega) else qall_spec 8 240 qo_135_6 pc (by omega) (by have e : qsz 135 = 248 := (by decide +kernel); omega)
theorem qo_136_0 : qall (qokB 136) 0 27 = true := by decide +kernel
theorem qo_136 : ∀ pc, pc < qsz 136 → qokB 136 pc = true := fun pc h => qall_spec 27 0 qo_136_0 pc (by omega) (by have e : qsz 136 = 27 := (by decide +kernel); omega)
theorem qo_137_0 : qall (qokB 137) 0 12 = true := by decide +kernel
theorem qo_137 : ∀ pc, pc < qsz 137 → qokB 137 pc = true := fun pc h => qall_spec 12 0 qo_137_0 pc (by omega) (by have e : qsz 137 = 12 := (by decide +kernel); omega)
theorem qo_138_0 : qall (qokB 138) 0 40 = true := by decide +kernel
theorem qo_138_1 : qall (qokB 138) 40 40 = true := by decide +kernel
theorem qo_138_2 : qall (qokB 138) 80 30 = true := by decide +kernel
theorem qo_138 : ∀ pc, pc < qsz 138 → qokB 138 pc = true := fun pc h => if h0 : pc < 40 then qall_spec 40 0 qo_138_0 pc (by omega) (by omega) else if h1 : pc < 80 then qall_spec 40 40 qo_138_1 pc (by omega) (by omega) else qall_spec 30 80 qo_138_2 pc (by omega) (by have e : qsz 138 = 110 := (by decide +kernel); omega)
theorem qo_139_0 : qall (qokB 139) 0 40 = true := by decide +kernel
theorem qo_139_1 : qall (qokB 139) 40 27 = true := by decide +kernel
theorem qo_139 : ∀ pc, pc < qsz 139 → qokB 139 pc = true := fun pc h => if h0 : pc < 40 then qall_spec 40 0 qo_139_0 pc (by omega) (by omega) else qall_spec 27 40 qo_139_1 pc (by omega) (by have e : qsz 139 = 67 := (by decide +kernel); omega)
theorem qo_140_0 : qall (qokB 140) 0 29 = true := by decide +kernel
theorem qo_140 : ∀ pc, pc < qsz 140 → qokB 140 pc = true := fun pc h => qall_spec 29 0 qo_140_0 pc (by omega) (by have e : qsz 140 = 29 := (by decide +kernel); omega)
theorem qo_141_0 : qall (qokB 141) 0 21 = true := by decide +kernel
theorem qo_141 : ∀ pc, pc < qsz 141 → qokB 141 pc = true := fun pc h => qall_spec 21 0 qo_141_0 pc (by omega) (by have e : qsz 141 = 21 := (by decide +kernel); omega)
theorem qo_142_0 : qall (qokB 142) 0 18 = true := by decide +kernel
theorem qo_142 : ∀ pc, pc < qsz 142 → qokB 142 pc = true := fun pc h => qall_spec 18 0 qo_142_0 pc (by omega) (by have e : qsz 142 = 18 := (by decide +kernel); omega)
theorem qo_143_0 : qall (qokB 143) 0 13 = true := by decide +kernel
theorem qo_143 : ∀ pc, pc < qsz 143 → qokB 143 pc = true := fun pc h => qall_spec 13 0 qo_143_0 pc (by omega) (by have e : qsz 143 = 13 := (by decide +kernel); omega)
theorem qo_144_0 : qall (qokB 144) 0 7 = true := by decide +kernel
theorem qo_144 : ∀ pc, pc < qsz 144 → qokB 144 pc = true := fun pc h => qall_spec 7 0 qo_144_0 pc (by omega) (by have e : qsz 144 = 7 := (by decide +kernel); omega)
theorem qo_145_0 : qall (qokB 145) 0 40 = true := by decide +kernel
theorem qo_145_1 : qall (qokB 145) 40 40 = true := by decide +kernel
theorem qo_145_2 : qall (qokB 145) 80 17 = true := by decide +kernel
theorem qo_145 : ∀ pc, pc < qsz 145 → qokB 145 pc = true := fun pc h => if h0 : pc < 40 then qall_spec 40 0 qo_145_0 pc (by omega) (by omega) else if h1 : pc < 80 then qall_spec 40 40 qo_145_1 pc (by omega) (by omega) else qall_spec 17 80 qo_145_2 pc (by omega) (by have e : qsz 145 = 97 := (by decide +kernel); omega)
theorem qo_146_0 : qall (qokB 146) 0 16 = true := by decide +kernel
theorem qo_146 : ∀ pc, pc < qsz 146 → qokB 146 pc = true := fun pc h => qall_spec 16 0 qo_146_0 pc (by omega) (by have e : qsz 146 = 16 := (by decide +kernel); omega)
theorem qo_147_0 : qall (qokB 147) 0 40 = true := by decide +kernel
theorem qo_147_1 : qall (qokB 147) 40 21 = true := by decide +kernel
theorem qo_147 : ∀ pc, pc < qsz 147 → qokB 147 pc = true := fun pc h => if h0 : pc < 40 then qall_spec 40 0 qo_147_0 pc (by omega) (by omega) else qall_spec 21 40 qo_147_1 pc (by omega) (by have e : qsz 147 = 61 := (by decide +kernel); omega)
theorem qo_148_0 : qall (qokB 148) 0 40 = true := by decide +kernel
theorem qo_148_1 : qall (qokB 148) 40 36 = true := by decide +kernel
theorem qo_148 : ∀ pc, pc < qsz 148 → qokB 148 pc = true := fun pc h => if h0 : pc < 40 then qall_spec 40 0 qo_148_0 pc (by omega) (by omega) else qall_spec 36 40 qo_148_1 pc (by omega) (by have e : qsz 148 = 76 := (by decide +kernel); omega)
theorem qo_149_0 : qall (qokB 149) 0 19 = true := by decide +kernel
theorem qo_149 : ∀ pc, pc < qsz 149 → qokB 149 pc = true := fun pc h => qall_spec 19 0 qo_149_0 pc (by omega) (by have e : qsz 149 = 19 := (by decide +kernel); omega)
theorem qo_150_0 : qall (qokB 150) 0 40 = true := by decide +kernel
theorem qo_150_1 : qall (qokB 150) 40 40 = true := by decide +kernel
theorem qo_150_2 : qall (qokB 150) 80 5 = true := by decide +kernel
theorem qo_150 : ∀ pc, pc < qsz 150 → qokB 150 pc = true := fun pc h => if h0 : pc < 40 then qall_spec 40 0 qo_150_0 pc (by omega) (by omega) else if h1 : pc < 80 then qall_spec 40 40 qo_150_1 pc (by omega) (by omega) else qall_spec 5 80 qo_150_2 pc (by omega) (by have e : qsz 150 = 85 := (by decide +kernel); omega)
theorem qo_151_0 : qall (qokB 151) 0 40 = true := by decide +kernel
theorem qo_151_1 : qall (qokB 151) 40 10 = true := by decide +kernel
theorem qo_151 : ∀ pc, pc < qsz 151 → qokB 151 pc = true := fun pc h => if h0 : pc < 40 then qall_spec 40 0 qo_151_0 pc (by omega) (by omega) else qall_spec 10 40 qo_151_1 pc (by omega) (by have e : qsz 151 = 50 := (by decide +kernel); omega)
theorem qo_152_0 : qall (qokB 152) 0 40 = true := by decide +kernel
theorem qo_152_1 : qall (qokB 152) 40 40 = true := by decide +kernel
theorem qo_152_2 : qall (qokB 152) 80 11 = true := by decide +kernel
theorem qo_152 : ∀ pc, pc < qsz 152 → qokB 152 pc = true := fun pc h => if h0 : pc < 40 then qall_spec 40 0 qo_152_0 pc (by omega) (by omega) else if h1 : pc < 80 then qall_spec 40 40 qo_152_1 pc (by omega) (by omega) else qall_spec 11 80 qo_152_2 pc (by omega) (by have e : qsz 152 = 91 := (by decide +kernel); omega)
theorem qo_153_0 : qall (qokB 153) 0 40 = true := by decide +kernel
theorem qo_153_1 : qall (qokB 153) 40 40 = true := by decide +kernel
theorem qo_153_2 : qall (qokB 153) 80 40 = true := by decide +kernel
theorem qo_153_3 : qall (qokB 153) 120 40 = true := by decide +kernel
theorem qo_153_4 : qall (qokB 153) 160 23 = true := by decide +kernel
theorem qo_153 : ∀ pc, pc < qsz 153 → qokB 153 pc = true := fun pc h => if h0 : pc < 40 then qall_spec 40 0 qo_153_0 pc (by omega) (by omega) else if h1 : pc < 80 then qall_spec 40 40 qo_153_1 pc (by omega) (by omega) else if h2 : pc < 120 then qall_spec 40 80 qo_153_2 pc (by omega) (by omega) else if h3 : pc < 160 then qall_spec 40 120 qo_153_3 pc (by omega) (by omega) else qall_spec 23 160 qo_153_4 pc (by omega) (by have e : qsz 153 = 183 := (by decide +kernel); omega)
theorem qo_154_0 : qall (qokB 154) 0 14 = true := by decide +kernel
theorem qo_154 : ∀ pc, pc < qsz 154 → qokB 154 pc = true := fun pc h => qall_spec 14 0 qo_154_0 pc (by omega) (by have e : qsz 154 = 14 := (by decide +kernel); omega)
theorem qo_155_0 : qall (qokB 155) 0 40 = true := by decide +kernel
theorem qo_155_1 : qall (qokB 155) 40 40 = true := by decide +kernel
theorem qo_155_2 : qall (qokB 155) 80 32 = true := by decide +kernel
theorem qo_155 : ∀ pc, pc < qsz 155 → qokB 155 pc = true := fun pc h => if h0 : pc < 40 then qall_spec 40 0 qo_155_0 pc (by omega) (by omega) else if h1 : pc < 80 then qall_spec 40 40 qo_155_1 pc (by omega) (by omega) else qall_spec 32 80 qo_155_2 pc (by omega) (by have e : qsz 155 = 112 := (by decide +kernel); omega)
theorem qo_156_0 : qall (qokB 156) 0 20 = true := by decide +kernel
theorem qo_156 : ∀ pc, pc < qsz 156 → qokB 156 pc = true := fun pc h => qall_spec 20 0 qo_156_0 pc (by omega) (by have e : qsz 156 = 20 := (by decide +kernel); omega)
theorem qo_157_0 : qall (qokB 157) 0 40 = true := by decide +kernel
theorem qo_157_1 : qall (qokB 157) 40 15 = true := by decide +kernel
theorem qo_157 : ∀ pc, pc < qsz 157 → qokB 157 pc = true := fun pc h => if h0 : pc < 40 then qall_spec 40 0 qo_157_0 pc (by omega) (by omega) else qall_spec 15 40 qo_157_1 pc (by omega) (by have e : qsz 157 = 55 := (by decide +kernel); omega)
theorem qo_158_0 : qall (qokB 158) 0 13 = true := by decide +kernel
theorem qo_158 : ∀ pc, pc < qsz 158 → qokB 158 pc = true := fun pc h => qall_spec 13 0 qo_158_0 pc (by omega) (by have e : qsz 158 = 13 := (by decide +kernel); omega)
theorem qo_159_0 : qall (qokB 159) 0 10 = true := by decide +kernel
theorem qo_159 : ∀ pc, pc < qsz 159 → qokB 159 pc = true := fun pc h => qall_spec 10 0 qo_159_0 pc (by omega) (by have e : qsz 159 = 10 := (by decide +kernel); omega)
theorem qo_160_0 : qall (qokB 160) 0 40 = true := by decide +kernel
theorem qo_160_1 : qall (qokB 160) 40 40 = true := by decide +kernel
theorem qo_160_2 : qall (qokB 160) 80 10 = true := by decide +kernel
theorem qo_160 : ∀ pc, pc < qsz 160 → qokB 160 pc = true := fun pc h => if h0 : pc < 40 then qall_spec 40 0 qo_160_0 pc (by omega) (by omega) else if h1 : pc < 80 then qall_spec 40 40 qo_160_1 pc (by omega) (by omega) else qall_spec 10 80 qo_160_2 pc (by omega) (by have e : qsz 160 = 90 := (by decide +kernel); omega)
theorem qo_161_0 : qall (qokB 161) 0 8 = true := by decide +kernel
theorem qo_161 : ∀ pc, pc < qsz 161 → qokB 161 pc = true := fun pc h => qall_spec 8 0 qo_161_0 pc (by omega) (by have e : qsz 161 = 8 := (by decide +kernel); omega)
theorem qo_162_0 : qall (qokB 162) 0 40 = true := by decide +kernel
theorem qo_162_1 : qall (qokB 162) 40 31 = true := by decide +kernel
theorem qo_162 : ∀ pc, pc < qsz 162 → qokB 162 pc = true := fun pc h => if h0 : pc < 40 then qall_spec 40 0 qo_162_0 pc (by omega) (by omega) else qall_spec 31 40 qo_162_1 pc (by omega) (by have e : qsz 162 = 71 := (by decide +kernel); omega)
theorem qo_163_0 : qall (qokB 163) 0 27 = true := by decide +kernel
theorem qo_163 : ∀ pc, pc < qsz 163 → qokB 163 pc = true := fun pc h => qall_spec 27 0 qo_163_0 pc (by omega) (by have e : qsz 163 = 27 := (by decide +kernel); omega)
theorem qo_164_0 : qall (qokB 164) 0 40 = true := by decide +kernel
theorem qo_164_1 : qall (qokB 164) 40 40 = true := by decide +kernel
theorem qo_164 : ∀ pc, pc < qsz 164 → qokB 164 pc = true := fun pc h => if h0 : pc < 40 then qall_spec 40 0 qo_164_0 pc (by omega) (by omega) else qall_spec 40 40 qo_164_1 pc (by omega) (by have e : qsz 164 = 80 := (by decide +kernel); omega)
theorem qo_165_0 : qall (qokB 165) 0 30 = true := by decide +kernel
theorem qo_165 : ∀ pc, pc < qsz 165 → qokB 165 pc = true := fun pc h => qall_spec 30 0 qo_165_0 pc (by omega) (by have e : qsz 165 = 30 := (by decide +kernel); omega)
theorem qo_166_0 : qall (qokB 166) 0 40 = true := by decide +kernel
theorem qo_166_1 : qall (qokB 166) 40 14 = true := by decide +kernel
theorem qo_166 : ∀ pc, pc < qsz 166 → qokB 166 pc = true := fun pc h => if h0 : pc < 40 then qall_spec 40 0 qo_166_0 pc (by omega) (by omega) else qall_spec 14 40 qo_166_1 pc (by omega) (by have e : qsz 166 = 54 := (by decide +kernel); omega)
theorem qo_167_0 : qall (qokB 167) 0 40 = true := by decide +kernel
theorem qo_167_1 : qall (qokB 167) 40 40 = true := by decide +kernel
theorem qo_167_2 : qall (qokB 167) 80 40 = true := by decide +kernel
theorem qo_167_3 : qall (qokB 167) 120 15 = true := by decide +kernel
theorem qo_167 : ∀ pc, pc < qsz 167 → qokB 167 pc = true := fun pc h => if h0 : pc < 40 then qall_spec 40 0 qo_167_0 pc (by omega) (by omega) else if h1 : pc < 80 then qall_spec 40 40 qo_167_1 pc (by omega) (by omega) else if h2 : pc < 120 then qall_spec 40 80 qo_167_2 pc (by omega) (by omega) else qall_spec 15 120 qo_167_3 pc (by omega) (by have e : qsz 167 = 135 := (by decide +kernel); omega)
theorem qo_168_0 : qall (qokB 168) 0 40 = true := by decide +kernel
theorem qo_168_1 : qall (qokB 168) 40 40 = true := by decide +kernel
theorem qo_168_2 : qall (qokB 168) 80 40 = true := by decide +kernel
theorem qo_168_3 : qall (qokB 168) 120 23 = true := by decide +kernel
theorem qo_168 : ∀ pc, pc < qsz 168 → qokB 168 pc = true := fun pc h => if h0 : pc < 40 then qall_spec 40 0 qo_168_0 pc (by omega) (by omega) else if h1 : pc < 80 then qall_spec 40 40 qo_168_1 pc (by omega) (by omega) else if h2 : pc < 120 then qall_spec 40 80 qo_168_2 pc (by omega) (by omega) else qall_spec 23 120 qo_168_3 pc (by omega) (by have e : qsz 168 = 143 := (by decide +kernel); omega)
theorem qo_169_0 : qall (qokB 169) 0 40 = true := by decide +kernel
theorem qo_169_1 : qall (qokB 169) 40 40 = true := by decide +kernel
theorem qo_169_2 : qall (qokB 169) 80 40 = true := by decide +kernel
theorem qo_169_3 : qall (qokB 169) 120 40 = true := by decide +kernel
theorem qo_169_4 : qall (qokB 169) 160 40 = true := by decide +kernel
theorem qo_169_5 : qall (qokB 169) 200 40 = true := by decide +kernel
theorem qo_169_6 : qall (qokB 169) 240 40 = true := by decide +kernel
theorem qo_169_7 : qall (qokB 169) 280 40 = true := by decide +kernel
theorem qo_169_8 : qall (qokB 169) 320 40 = true := by decide +kernel
theorem qo_169_9 : qall (qokB 169) 360 5 = true := by decide +kernel
theorem qo_169 : ∀ pc, pc < qsz 169 → qokB 169 pc = true := fun pc h => if h0 : pc < 40 then qall_spec 40 0 qo_169_0 pc (by omega) (by omega) else if h1 : pc < 80 then qall_spec 40 40 qo_169_1 pc (by omega) (by omega) else if h2 : pc < 120 then qall_spec 40 80 qo_169_2 pc (by omega) (by omega) else if h3 : pc < 160 then qall_spec 40 120 qo_169_3 pc (by omega) (by omega) else if h4 : pc < 200 then qall_spec 40 160 qo_169_4 pc (by omega) (by omega) else if h5 : pc < 240 then qall_spec 40 200 qo_169_5 pc (by omega) (by omega) else if h6 : pc < 280 then qall_spec 40 240 qo_169_6 pc (by omega) (by omega) else if h7 : pc < 320 then qall_spec 40 280 qo_169_7 pc (by omega) (by omega) else if h8 : pc < 360 then qall_spec 40 320 qo_169_8 pc (by omega) (by omega) else qall_spec 5 360 qo_169_9 pc (by omega) (by have e : qsz 169 = 365 := (by decide +kernel); omega)
theorem qo_170_0 : qall (qokB 170) 0 40 = true := by decide +kernel
theorem qo_170_1 : qall (qokB 170) 40 40 = true := by decide +kernel
theorem qo_170_2 : qall (qokB 170) 80 40 = true := by decide +kernel
theorem qo_170_3 : qall (qokB 170) 120 40 = true := by decide +kernel
theorem qo_170_4 : qall (qokB 170) 160 40 = true := by decide +kernel
theorem qo_170_5 : qall (qokB 170) 200 40 = true := by decide +kernel
theorem qo_170_6 : qall (qokB 170) 240 11 = true := by decide +kernel
theorem qo_170 : ∀ pc, pc < qsz 170 → qokB 170 pc = true := fun pc h => if h0 : pc < 40 then qall_spec 40 0 qo_170_0 pc (by omega) (by omega) else if h1 : pc < 80 then qall_spec 40 40 qo_170_1 pc (by omega) (by omega) else if h2 : pc < 120 then qall_spec 40 80 qo_170_2 pc (by omega) (by omega) else if h3 : pc < 160 then qall_spec 40 120 qo_170_3 pc (by omega) (by omega) else if h4 : pc < 200 then qall_spec 40 160 qo_170_4 pc (by omega) (by omega) else if h5 : pc < 240 then qall_spec 40 200 qo_170_5 pc (by omega) (by omega) else qall_spec 11 240 qo_170_6 pc (by omega) (by have e : qsz 170 = 251 := (by decide +kernel); omega)
theorem qo_171_0 : qall (qokB 171) 0 40 = true := by decide +kernel
theorem qo_171_1 : qall (qokB 171) 40 40 = true := by decide +kernel
theorem qo_171_2 : qall (qokB 171) 80 40 = true := by decide +kernel
theorem qo_171_3 : qall (qokB 171) 120 40 = true := by decide +kernel
theorem qo_171_4 : qall (qokB 171) 160 40 = true := by decide +kernel
theorem qo_171_5 : qall (qokB 171) 200 40 = true := by decide +kernel
theorem qo_171_6 : qall (qokB 171) 240 40 = true := by decide +kernel
theorem qo_171_7 : qall (qokB 171) 280 40 = true := by decide +kernel
theorem qo_171_8 : qall (qokB 171) 320 40 = true := by decide +kernel
theorem qo_171_9 : qall (qokB 171) 360 19 = true := by decide +kernel
theorem qo_171 : ∀ pc, pc < qsz 171 → qokB 171 pc = true := fun pc h => if h0 : pc < 40 then qall_spec 40 0 qo_171_0 pc (by omega) (by omega) else if h1 : pc < 80 then qall_spec 40 40 qo_171_1 pc (by omega) (by omega) else if h2 : pc < 120 then qall_spec 40 80 qo_171_2 pc (by omega) (by omega) else if h3 : pc < 160 then qall_spec 40 120 qo_171_3 pc (by omega) (by omega) else if h4 : pc < 200 then qall_spec 40 160 qo_171_4 pc (by omega) (by omega) else if h5 : pc < 240 then qall_spec 40 200 qo_171_5 pc (by omega) (by omega) else if h6 : pc < 280 then qall_spec 40 240 qo_171_6 pc (by omega) (by omega) else if h7 : pc < 320 then qall_spec 40 280 qo_171_7 pc (by omega) (by omega) else if h8 : pc < 360 then qall_spec 40 320 qo_171_8 pc (by omega) (by omega) else qall_spec 19 360 qo_171_9 pc (by omega) (by have e : qsz 171 = 379 := (by decide +kernel); omega)
theorem qo_172_0 : qall (qokB 172) 0 40 = true := by decide +kernel
theorem qo_172_1 : qall (qokB 172) 40 40 = true := by decide +kernel
theorem qo_172_2 : qall (qokB 172) 80 40 = true := by decide +kernel
theorem qo_172_3 : qall (qokB 172) 120 40 = true := by decide +kernel
theorem qo_172_4 : qall (qokB 172) 160 40 = true := by decide +kernel
theorem qo_172_5 : qall (qokB 172) 200 25 = true := by decide +kernel
theorem qo_172 : ∀ pc, pc < qsz 172 → qokB 172 pc = true := fun pc h => if h0 : pc < 40 then qall_spec 40 0 qo_172_0 pc (by omega) (by omega) else if h1 : pc < 80 then qall_spec 40 40 qo_172_1 pc (by omega) (by omega) else if h2 : pc < 120 then qall_spec 40 80 qo_172_2 pc (by omega) (by omega) else if h3 : pc < 160 then qall_spec 40 120 qo_172_3 pc (by omega) (by omega) else if h4 : pc < 200 then qall_spec 40 160 qo_172_4 pc (by omega) (by omega) else qall_spec 25 200 qo_172_5 pc (by omega) (by have e : qsz 172 = 225 := (by decide +kernel); omega)
theorem qo_173_0 : qall (qokB 173) 0 40 = true := by decide +kernel
theorem qo_173_1 : qall (qokB 173) 40 40 = true := by decide +kernel
theorem qo_173_2 : qall (qokB 173) 80 40 = true := by decide +kernel
theorem qo_173_3 : qall (qokB 173) 120 40 = true := by decide +kernel
theorem qo_173_4 : qall (qokB 173) 160 40 = true := by decide +kernel
theorem qo_173_5 : qall (qokB 173) 200 5 = true := by decide +kernel
theorem qo_173 : ∀ pc, pc < qsz 173 → qokB 173 pc = true := fun pc h => if h0 : pc < 40 then qall_spec 40 0 qo_173_0 pc (by omega) (by omega) else if h1 : pc < 80 then qall_spec 40 40 qo_173_1 pc (by omega) (by omega) else if h2 : pc < 120 then qall_spec 40 80 qo_173_2 pc (by omega) (by omega) else if h3 : pc < 160 then qall_spec 40 120 qo_173_3 pc (by omega) (by omega) else if h4 : pc < 200 then qall_spec 40 160 qo_173_4 pc (by omega) (by omega) else qall_spec 5 200 qo_173_5 pc (by omega) (by have e : qsz 173 = 205 := (by decide +kernel); omega)
theorem qo_174_0 : qall (qokB 174) 0 40 = true := by decide +kernel
theorem qo_174_1 : qall (qokB 174) 40 40 = true := by decide +kernel
theorem qo_174_2 : qall (qokB 174) 80 40 = true := by decide +kernel
theorem qo_174_3 : qall (qokB 174) 120 40 = true := by decide +kernel
theorem qo_174_4 : qall (qokB 174) 160 40 = true := by decide +kernel
theorem qo_174_5 : qall (qokB 174) 200 34 = true := by decide +kernel
theorem qo_174 : ∀ pc, pc < qsz 174 → qokB 174 pc = true := fun pc h => if h0 : pc < 40 then qall_spec 40 0 qo_174_0 pc (by omega) (by omega) else if h1 : pc < 80 then qall_spec 40 40 qo_174_1 pc (by omega) (by omega) else if h2 : pc < 120 then qall_spec 40 80 qo_174_2 pc (by omega) (by omega) else if h3 : pc < 160 then qall_spec 40 120 qo_174_3 pc (by omega) (by omega) else if h4 : pc < 200 then qall_spec 40 160 qo_174_4 pc (by omega) (by omega) else qall_spec 34 200 qo_174_5 pc (by omega) (by have e : qsz 174 = 234 := (by decide +kernel); omega)
theorem qo_175_0 : qall (qokB 175) 0 40 = true := by decide +kernel
theorem qo_175_1 : qall (qokB 175) 40 40 = true := by decide +kernel
theorem qo_175_2 : qall (qokB 175) 80 40 = true := by decide +kernel
theorem qo_175_3 : qall (qokB 175) 120 40 = true := by decide +kernel
theorem qo_175_4 : qall (qokB 175) 160 25 = true := by decide +kernel
theorem qo_175 : ∀ pc, pc < qsz 175 → qokB 175 pc = true := fun pc h => if h0 : pc < 40 then qall_spec 40 0 qo_175_0 pc (by omega) (by omega) else if h1 : pc < 80 then qall_spec 40 40 qo_175_1 pc (by omega) (by omega) else if h2 : pc < 120 then qall_spec 40 80 qo_175_2 pc (by omega) (by omega) else if h3 : pc < 160 then qall_spec 40 120 qo_175_3 pc (by omega) (by omega) else qall_spec 25 160 qo_175_4 pc (by omega) (by have e : qsz 175 = 185 := (by decide +kernel); omega)
theorem qo_176_0 : qall (qokB 176) 0 40 = true := by decide +kernel
theorem qo_176_1 : qall (qokB 176) 40 40 = true := by decide +kernel
theorem qo_176_2 : qall (qokB 176) 80 40 = true := by decide +kernel
theorem qo_176_3 : qall (qokB 176) 120 40 = true := by decide +kernel
theorem qo_176_4 : qall (qokB 176) 160 40 = true := by decide +kernel
theorem qo_176_5 : qall (qokB 176) 200 40 = true := by decide +kernel
theorem qo_176_6 : qall (qokB 176) 240 27 = true := by decide +kernel
theorem qo_176 : ∀ pc, pc < qsz 176 → qokB 176 pc = true := fun pc h => if h0 : pc < 40 then qall_spec 40 0 qo_176_0 pc (by omega) (by omega) else if h1 : pc < 80 then qall_spec 40 40 qo_176_1 pc (by omega) (by omega) else if h2 : pc < 120 then qall_spec 40 80 qo_176_2 pc (by omega) (by omega) else if h3 : pc < 160 then qall_spec 40 120 qo_176_3 pc (by omega) (by omega) else if h4 : pc < 200 then qall_spec 40 160 qo_176_4 pc (by omega) (by omega) else if h5 : pc < 240 then qall_spec 40 200 qo_176_5 pc (by omega) (by omega) else qall_spec 27 240 qo_176_6 pc (by omega) (by have e : qsz 176 = 267 := (by decide +kernel); omega)
theorem qo_177_0 : qall (qokB 177) 0 40 = true := by decide +kernel
theorem qo_177_1 : qall (qokB 177) 40 40 = true := by decide +kernel
theorem qo_177_2 : qall (qokB 177) 80 9 = true := by decide +kernel
theorem qo_177 : ∀ pc, pc < qsz 177 → qokB 177 pc = true := fun pc h => if h0 : pc < 40 then qall_spec 40 0 qo_177_0 pc (by omega) (by omega) else if h1 : pc < 80 then qall_spec 40 40 qo_177_1 pc (by omega) (by omega) else qall_spec 9 80 qo_177_2 pc (by omega) (by have e : qsz 177 = 89 := (by decide +kernel); omega)
theorem qo_178_0 : qall (qokB 178) 0 40 = true := by decide +kernel
theorem qo_178_1 : qall (qokB 178) 40 40 = true := by decide +kernel
theorem qo_178_2 : qall (qokB 178) 80 40 = true := by decide +kernel
theorem qo_178_3 : qall (qokB 178) 120 40 = true := by decide +kernel
theorem qo_178_4 : qall (qokB 178) 160 40 = true := by decide +kernel
theorem qo_178_5 : qall (qokB 178) 200 21 = true := by decide +kernel
theorem qo_178 : ∀ pc, pc < qsz 178 → qokB 178 pc = true := fun pc h => if h0 : pc < 40 then qall_spec 40 0 qo_178_0 pc (by omega) (by omega) else if h1 : pc < 80 then qall_spec 40 40 qo_178_1 pc (by omega) (by omega) else if h2 : pc < 120 then qall_spec 40 80 qo_178_2 pc (by omega) (by omega) else if h3 : pc < 160 then qall_spec 40 120 qo_178_3 pc (by omega) (by omega) else if h4 : pc < 200 then qall_spec 40 160 qo_178_4 pc (by omega) (by omega) else qall_spec 21 200 qo_178_5 pc (by omega) (by have e : qsz 178 = 221 := (by decide +kernel); omega)
theorem qo_179_0 : qall (qokB 179) 0 40 = true := by decide +kernel
theorem qo_179_1 : qall (qokB 179) 40 40 = true := by decide +kernel
theorem qo_179_2 : qall (qokB 179) 80 40 = true := by decide +kernel
theorem qo_179_3 : qall (qokB 179) 120 40 = true := by decide +kernel
theorem qo_179_4 : qall (qokB 179) 160 15 = true := by decide +kernel
theorem qo_179 : ∀ pc, pc < qsz 179 → qokB 179 pc = true := fun pc h => if h0 : pc < 40 then qall_spec 40 0 qo_179_0 pc (by omega) (by omega) else if h1 : pc < 80 then qall_spec 40 40 qo_179_1 pc (by omega) (by omega) else if h2 : pc < 120 then qall_spec 40 80 qo_179_2 pc (by omega) (by omega) else if h3 : pc < 160 then qall_spec 40 120 qo_179_3 pc (by omega) (by omega) else qall_spec 15 160 qo_179_4 pc (by omega) (by have e : qsz 179 = 175 := (by decide +kernel); omega)
theorem qo_180_0 : qall (qokB 180) 0 40 = true := by decide +kernel
theorem qo_180_1 : qall (qokB 180) 40 40 = true := by decide +kernel
theorem qo_180_2 : qall (qokB 180) 80 40 = true := by decide +kernel
theorem qo_180_3 : qall (qokB 180) 120 11 = true := by decide +kernel
theorem qo_180 : ∀ pc, pc < qsz 180 → qokB 180 pc = true := fun pc h => if h0 : pc < 40 then qall_spec 40 0 qo_180_0 pc (by omega) (by omega) else if h1 : pc < 80 then qall_spec 40 40 qo_180_1 pc (by omega) (by omega) else if h2 : pc < 120 then qall_spec 40 80 qo_180_2 pc (by omega) (by omega) else qall_spec 11 120 qo_180_3 pc (by omega) (by have e : qsz 180 = 131 := (by decide +kernel); omega)
theorem qo_181_0 : qall (qokB 181) 0 40 = true := by decide +kernel
theorem qo_181_1 : qall (qokB 181) 40 40 = true := by decide +kernel
theorem qo_181_2 : qall (qokB 181) 80 26 = true := by decide +kernel
theorem qo_181 : ∀ pc, pc < qsz 181 → qokB 181 pc = true := fun pc h => if h0 : pc < 40 then qall_spec 40 0 qo_181_0 pc (by omega) (by omega) else if h1 : pc < 80 then qall_spec 40 40 qo_181_1 pc (by omega) (by omega) else qall_spec 26 80 qo_181_2 pc (by omega) (by have e : qsz 181 = 106 := (by decide +kernel); omega)
theorem qo_182_0 : qall (qokB 182) 0 40 = true := by decide +kernel
theorem qo_182_1 : qall (qokB 182) 40 40 = true := by decide +kernel
theorem qo_182_2 : qall (qokB 182) 80 40 = true := by decide +kernel
theorem qo_182_3 : qall (qokB 182) 120 40 = true := by decide +kernel
theorem qo_182_4 : qall (qokB 182) 160 40 = true := by decide +kernel
theorem qo_182_5 : qall (qokB 182) 200 8 = true := by decide +kernel
theorem qo_182 : ∀ pc, pc < qsz 182 → qokB 182 pc = true := fun pc h => if h0 : pc < 40 then qall_spec 40 0 qo_182_0 pc (by omega) (by omega) else if h1 : pc < 80 then qall_spec 40 40 qo_182_1 pc (by omega) (by omega) else if h2 : pc < 120 then qall_spec 40 80 qo_182_2 pc (by omega) (by omega) else if h3 : pc < 160 then qall_spec 40 120 qo_182_3 pc (by omega) (by omega) else if h4 : pc < 200 then qall_spec 40 160 qo_182_4 pc (by omega) (by omega) else qall_spec 8 200 qo_182_5 pc (by omega) (by have e : qsz 182 = 208 := (by decide +kernel); omega)
theorem qo_183_0 : qall (qokB 183) 0 40 = true := by decide +kernel
theorem qo_183_1 : qall (qokB 183) 40 40 = true := by decide +kernel
theorem qo_183_2 : qall (qokB 183) 80 40 = true := by decide +kernel
theorem qo_183_3 : qall (qokB 183) 120 40 = true := by decide +kernel
theorem qo_183_4 : qall (qokB 183) 160 40 = true := by decide +kernel
theorem qo_183_5 : qall (qokB 183) 200 40 = true := by decide +kernel
theorem qo_183_6 : qall (qokB 183) 240 28 = true := by decide +kernel
theorem qo_183 : ∀ pc, pc < qsz 183 → qokB 183 pc = true := fun pc h => if h0 : pc < 40 then qall_spec 40 0 qo_183_0 pc (by omega) (by omega) else if h1 : pc < 80 then qall_spec 40 40 qo_183_1 pc (by omega) (by omega) else if h2 : pc < 120 then qall_spec 40 80 qo_183_2 pc (by omega) (by omega) else if h3 : pc < 160 then qall_spec 40 120 qo_183_3 pc (by omega) (by omega) else if h4 : pc < 200 then qall_spec 40 160 qo_183_4 pc (by omega) (by omega) else if h5 : pc < 240 then qall_spec 40 200 qo_183_5 pc (by omega) (by omega) else qall_spec 28 240 qo_183_6 pc (by omega) (by have e : qsz 183 = 268 := (by decide +kernel); omega)
theorem qo_184_0 : qall (qokB 184) 0 40 = true := by decide +kernel
theorem qo_184_1 : qall (qokB 184) 40 40 = true := by decide +kernel
theorem qo_184_2 : qall (qokB 184) 80 20 = true := by decide +kernel
theorem qo_184 : ∀ pc, pc < qsz 184 → qokB 184 pc = true := fun pc h => if h0 : pc < 40 then qall_spec 40 0 qo_184_0 pc (by omega) (by omega) else if h1 : pc < 80 then qall_spec 40 40 qo_184_1 pc (by omega) (by omega) else qall_spec 20 80 qo_184_2 pc (by omega) (by have e : qsz 184 = 100 := (by decide +kernel); omega)
theorem qo_185_0 : qall (qokB 185) 0 5 = true := by decide +kernel
theorem qo_185 : ∀ pc, pc < qsz 185 → qokB 185 pc = true := fun pc h => qall_spec 5 0 qo_185_0 pc (by omega) (by have e : qsz 185 = 5 := (by decide +kernel); omega)
theorem qo_186_0 : qall (qokB 186) 0 30 = true := by decide +kernel
theorem qo_186 : ∀ pc, pc < qsz 186 → qokB 186 pc = true := fun pc h => qall_spec 30 0 qo_186_0 pc (by omega) (by have e : qsz 186 = 30 := (by decide +kernel); omega)
theorem qo_187_0 : qall (qokB 187) 0 19 = true := by decide +kernel
theorem qo_187 : ∀ pc, pc < qsz 187 → qokB 187 pc = true := fun pc h => qall_spec 19 0 qo_187_0 pc (by omega) (by have e : qsz 187 = 19 := (by decide +kernel); omega)
theorem qo_188_0 : qall (qokB 188) 0 40 = true := by decide +kernel
theorem qo_188_1 : qall (qokB 188) 40 17 = true := by decide +kernel
theorem qo_188 : ∀ pc, pc < qsz 188 → qokB 188 pc = true := fun pc h => if h0 : pc < 40 then qall_spec 40 0 qo_188_0 pc (by omega) (by omega) else qall_spec 17 40 qo_188_1 pc (by omega) (by have e : qsz 188 = 57 := (by decide +kernel); omega)
theorem qo_189_0 : qall (qokB 189) 0 40 = true := by decide +kernel
theorem qo_189_1 : qall (qokB 189) 40 6 = true := by decide +kernel
theorem qo_189 : ∀ pc, pc < qsz 189 → qokB 189 pc = true := fun pc h => if h0 : pc < 40 then qall_spec 40 0 qo_189_0 pc (by omega) (by omega) else qall_spec 6 40 qo_189_1 pc (by omega) (by have e : qsz 189 = 46 := (by decide +kernel); omega)
theorem qo_190_0 : qall (qokB 190) 0 40 = true := by decide +kernel
theorem qo_190_1 : qall (qokB 190) 40 40 = true := by decide +kernel
theorem qo_190_2 : qall (qokB 190) 80 40 = true := by decide +kernel
theorem qo_190_3 : qall (qokB 190) 120 40 = true := by decide +kernel
theorem qo_190_4 : qall (qokB 190) 160 40 = true := by decide +kernel
theorem qo_190_5 : qall (qokB 190) 200 40 = true := by decide +kernel
theorem qo_190_6 : qall (qokB 190) 240 40 = true := by decide +kernel
theorem qo_190_7 : qall (qokB 190) 280 40 = true := by decide +kernel
theorem qo_190_8 : qall (qokB 190) 320 40 = true := by decide +kernel
theorem qo_190_9 : qall (qokB 190) 360 40 = true := by decide +kernel
theorem qo_190_10 : qall (qokB 190) 400 40 = true := by decide +kernel
theorem qo_190_11 : qall (qokB 190) 440 40 = true := by decide +kernel
theorem qo_190_12 : qall (qokB 190) 480 40 = true := by decide +kernel
theorem qo_190_13 : qall (qokB 190) 520 40 = true := by decide +kernel
theorem qo_190_14 : qall (qokB 190) 560 8 = true := by decide +kernel
theorem qo_190 : ∀ pc, pc < qsz 190 → qokB 190 pc = true := fun pc h => if h0 : pc < 40 then qall_spec 40 0 qo_190_0 pc (by omega) (by omega) else if h1 : pc < 80 then qall_spec 40 40 qo_190_1 pc (by omega) (by omega) else if h2 : pc < 120 then qall_spec 40 80 qo_190_2 pc (by omega) (by omega) else if h3 : pc < 160 then qall_spec 40 120 qo_190_3 pc (by omega) (by omega) else if h4 : pc < 200 then qall_spec 40 160 qo_190_4 pc (by omega) (by omega) else if h5 : pc < 240 then qall_spec 40 200 qo_190_5 pc (by omega) (by omega) else if h6 : pc < 280 then qall_spec 40 240 qo_190_6 pc (by omega) (by omega) else if h7 : pc < 320 then qall_spec 40 280 qo_190_7 pc (by omega) (by omega) else if h8 : pc < 360 then qall_spec 40 320 qo_190_8 pc (by omega) (by omega) else if h9 : pc < 400 then qall_spec 40 360 qo_190_9 pc (by omega) (by omega) else if h10 : pc < 440 then qall_spec 40 400 qo_190_10 pc (by omega) (by omega) else if h11 : pc < 480 then qall_spec 40 440 qo_190_11 pc (by omega) (by omega) else if h12 : pc < 520 then qall_spec 40 480 qo_190_12 pc (by omega) (by omega) else if h13 : pc < 560 then qall_spec 40 520 qo_190_13 pc (by omega) (by omega) else qall_spec 8 560 qo_190_14 pc (by omega) (by have e : qsz 190 = 568 := (by decide +kernel); omega)
