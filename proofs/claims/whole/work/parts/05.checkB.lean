/-! All methods together; links, classes, methods. -/
theorem qs_0 : ∀ k, k < 0 → ∀ pc, pc < qsz k → qokB k pc = true := fun k h => absurd h (Nat.not_lt_zero k)
theorem qs_1 : ∀ k, k < 1 → ∀ pc, pc < qsz k → qokB k pc = true := fun k h => (Nat.lt_succ_iff_lt_or_eq.mp h).elim (qs_0 k) (fun e => e ▸ qo_0)
theorem qs_2 : ∀ k, k < 2 → ∀ pc, pc < qsz k → qokB k pc = true := fun k h => (Nat.lt_succ_iff_lt_or_eq.mp h).elim (qs_1 k) (fun e => e ▸ qo_1)
theorem qs_3 : ∀ k, k < 3 → ∀ pc, pc < qsz k → qokB k pc = true := fun k h => (Nat.lt_succ_iff_lt_or_eq.mp h).elim (qs_2 k) (fun e => e ▸ qo_2)
theorem qs_4 : ∀ k, k < 4 → ∀ pc, pc < qsz k → qokB k pc = true := fun k h => (Nat.lt_succ_iff_lt_or_eq.mp h).elim (qs_3 k) (fun e => e ▸ qo_3)
theorem qs_5 : ∀ k, k < 5 → ∀ pc, pc < qsz k → qokB k pc = true := fun k h => (Nat.lt_succ_iff_lt_or_eq.mp h).elim (qs_4 k) (fun e => e ▸ qo_4)
theorem qs_6 : ∀ k, k < 6 → ∀ pc, pc < qsz k → qokB k pc = true := fun k h => (Nat.lt_succ_iff_lt_or_eq.mp h).elim (qs_5 k) (fun e => e ▸ qo_5)
theorem qs_7 : ∀ k, k < 7 → ∀ pc, pc < qsz k → qokB k pc = true := fun k h => (Nat.lt_succ_iff_lt_or_eq.mp h).elim (qs_6 k) (fun e => e ▸ qo_6)
theorem qs_8 : ∀ k, k < 8 → ∀ pc, pc < qsz k → qokB k pc = true := fun k h => (Nat.lt_succ_iff_lt_or_eq.mp h).elim (qs_7 k) (fun e => e ▸ qo_7)
theorem qs_9 : ∀ k, k < 9 → ∀ pc, pc < qsz k → qokB k pc = true := fun k h => (Nat.lt_succ_iff_lt_or_eq.mp h).elim (qs_8 k) (fun e => e ▸ qo_8)
theorem qs_10 : ∀ k, k < 10 → ∀ pc, pc < qsz k → qokB k pc = true := fun k h => (Nat.lt_succ_iff_lt_or_eq.mp h).elim (qs_9 k) (fun e => e ▸ qo_9)
theorem qs_11 : ∀ k, k < 11 → ∀ pc, pc < qsz k → qokB k pc = true := fun k h => (Nat.lt_succ_iff_lt_or_eq.mp h).elim (qs_10 k) (fun e => e ▸ qo_10)
theorem qs_12 : ∀ k, k < 12 → ∀ pc, pc < qsz k → qokB k pc = true := fun k h => (Nat.lt_succ_iff_lt_or_eq.mp h).elim (qs_11 k) (fun e => e ▸ qo_11)
theorem qs_13 : ∀ k, k < 13 → ∀ pc, pc < qsz k → qokB k pc = true := fun k h => (Nat.lt_succ_iff_lt_or_eq.mp h).elim (qs_12 k) (fun e => e ▸ qo_12)
theorem qs_14 : ∀ k, k < 14 → ∀ pc, pc < qsz k → qokB k pc = true := fun k h => (Nat.lt_succ_iff_lt_or_eq.mp h).elim (qs_13 k) (fun e => e ▸ qo_13)
theorem qs_15 : ∀ k, k < 15 → ∀ pc, pc < qsz k → qokB k pc = true := fun k h => (Nat.lt_succ_iff_lt_or_eq.mp h).elim (qs_14 k) (fun e => e ▸ qo_14)
theorem qs_16 : ∀ k, k < 16 → ∀ pc, pc < qsz k → qokB k pc = true := fun k h => (Nat.lt_succ_iff_lt_or_eq.mp h).elim (qs_15 k) (fun e => e ▸ qo_15)
theorem qs_17 : ∀ k, k < 17 → ∀ pc, pc < qsz k → qokB k pc = true := fun k h => (Nat.lt_succ_iff_lt_or_eq.mp h).elim (qs_16 k) (fun e => e ▸ qo_16)
theorem qs_18 : ∀ k, k < 18 → ∀ pc, pc < qsz k → qokB k pc = true := fun k h => (Nat.lt_succ_iff_lt_or_eq.mp h).elim (qs_17 k) (fun e => e ▸ qo_17)
theorem qs_19 : ∀ k, k < 19 → ∀ pc, pc < qsz k → qokB k pc = true := fun k h => (Nat.lt_succ_iff_lt_or_eq.mp h).elim (qs_18 k) (fun e => e ▸ qo_18)
theorem qs_20 : ∀ k, k < 20 → ∀ pc, pc < qsz k → qokB k pc = true := fun k h => (Nat.lt_succ_iff_lt_or_eq.mp h).elim (qs_19 k) (fun e => e ▸ qo_19)
theorem qs_21 : ∀ k, k < 21 → ∀ pc, pc < qsz k → qokB k pc = true := fun k h => (Nat.lt_succ_iff_lt_or_eq.mp h).elim (qs_20 k) (fun e => e ▸ qo_20)
theorem qs_22 : ∀ k, k < 22 → ∀ pc, pc < qsz k → qokB k pc = true := fun k h => (Nat.lt_succ_iff_lt_or_eq.mp h).elim (qs_21 k) (fun e => e ▸ qo_21)
theorem qs_23 : ∀ k, k < 23 → ∀ pc, pc < qsz k → qokB k pc = true := fun k h => (Nat.lt_succ_iff_lt_or_eq.mp h).elim (qs_22 k) (fun e => e ▸ qo_22)
theorem qs_24 : ∀ k, k < 24 → ∀ pc, pc < qsz k → qokB k pc = true := fun k h => (Nat.lt_succ_iff_lt_or_eq.mp h).elim (qs_23 k) (fun e => e ▸ qo_23)
theorem qs_25 : ∀ k, k < 25 → ∀ pc, pc < qsz k → qokB k pc = true := fun k h => (Nat.lt_succ_iff_lt_or_eq.mp h).elim (qs_24 k) (fun e => e ▸ qo_24)
theorem qs_26 : ∀ k, k < 26 → ∀ pc, pc < qsz k → qokB k pc = true := fun k h => (Nat.lt_succ_iff_lt_or_eq.mp h).elim (qs_25 k) (fun e => e ▸ qo_25)
theorem qs_27 : ∀ k, k < 27 → ∀ pc, pc < qsz k → qokB k pc = true := fun k h => (Nat.lt_succ_iff_lt_or_eq.mp h).elim (qs_26 k) (fun e => e ▸ qo_26)
theorem qs_28 : ∀ k, k < 28 → ∀ pc, pc < qsz k → qokB k pc = true := fun k h => (Nat.lt_succ_iff_lt_or_eq.mp h).elim (qs_27 k) (fun e => e ▸ qo_27)
theorem qs_29 : ∀ k, k < 29 → ∀ pc, pc < qsz k → qokB k pc = true := fun k h => (Nat.lt_succ_iff_lt_or_eq.mp h).elim (qs_28 k) (fun e => e ▸ qo_28)
theorem qs_30 : ∀ k, k < 30 → ∀ pc, pc < qsz k → qokB k pc = true := fun k h => (Nat.lt_succ_iff_lt_or_eq.mp h).elim (qs_29 k) (fun e => e ▸ qo_29)
theorem qs_31 : ∀ k, k < 31 → ∀ pc, pc < qsz k → qokB k pc = true := fun k h => (Nat.lt_succ_iff_lt_or_eq.mp h).elim (qs_30 k) (fun e => e ▸ qo_30)
theorem qs_32 : ∀ k, k < 32 → ∀ pc, pc < qsz k → qokB k pc = true := fun k h => (Nat.lt_succ_iff_lt_or_eq.mp h).elim (qs_31 k) (fun e => e ▸ qo_31)
theorem qs_33 : ∀ k, k < 33 → ∀ pc, pc < qsz k → qokB k pc = true := fun k h => (Nat.lt_succ_iff_lt_or_eq.mp h).elim (qs_32 k) (fun e => e ▸ qo_32)
theorem qs_34 : ∀ k, k < 34 → ∀ pc, pc < qsz k → qokB k pc = true := fun k h => (Nat.lt_succ_iff_lt_or_eq.mp h).elim (qs_33 k) (fun e => e ▸ qo_33)
theorem qs_35 : ∀ k, k < 35 → ∀ pc, pc < qsz k → qokB k pc = true := fun k h => (Nat.lt_succ_iff_lt_or_eq.mp h).elim (qs_34 k) (fun e => e ▸ qo_34)
theorem qs_36 : ∀ k, k < 36 → ∀ pc, pc < qsz k → qokB k pc = true := fun k h => (Nat.lt_succ_iff_lt_or_eq.mp h).elim (qs_35 k) (fun e => e ▸ qo_35)
theorem qs_37 : ∀ k, k < 37 → ∀ pc, pc < qsz k → qokB k pc = true := fun k h => (Nat.lt_succ_iff_lt_or_eq.mp h).elim (qs_36 k) (fun e => e ▸ qo_36)
theorem qs_38 : ∀ k, k < 38 → ∀ pc, pc < qsz k → qokB k pc = true := fun k h => (Nat.lt_succ_iff_lt_or_eq.mp h).elim (qs_37 k) (fun e => e ▸ qo_37)
theorem qs_39 : ∀ k, k < 39 → ∀ pc, pc < qsz k → qokB k pc = true := fun k h => (Nat.lt_succ_iff_lt_or_eq.mp h).elim (qs_38 k) (fun e => e ▸ qo_38)
theorem qs_40 : ∀ k, k < 40 → ∀ pc, pc < qsz k → qokB k pc = true := fun k h => (Nat.lt_succ_iff_lt_or_eq.mp h).elim (qs_39 k) (fun e => e ▸ qo_39)
theorem qs_41 : ∀ k, k < 41 → ∀ pc, pc < qsz k → qokB k pc = true := fun k h => (Nat.lt_succ_iff_lt_or_eq.mp h).elim (qs_40 k) (fun e => e ▸ qo_40)
theorem qs_42 : ∀ k, k < 42 → ∀ pc, pc < qsz k → qokB k pc = true := fun k h => (Nat.lt_succ_iff_lt_or_eq.mp h).elim (qs_41 k) (fun e => e ▸ qo_41)
theorem qs_43 : ∀ k, k < 43 → ∀ pc, pc < qsz k → qokB k pc = true := fun k h => (Nat.lt_succ_iff_lt_or_eq.mp h).elim (qs_42 k) (fun e => e ▸ qo_42)
theorem qs_44 : ∀ k, k < 44 → ∀ pc, pc < qsz k → qokB k pc = true := fun k h => (Nat.lt_succ_iff_lt_or_eq.mp h).elim (qs_43 k) (fun e => e ▸ qo_43)
theorem qs_45 : ∀ k, k < 45 → ∀ pc, pc < qsz k → qokB k pc = true := fun k h => (Nat.lt_succ_iff_lt_or_eq.mp h).elim (qs_44 k) (fun e => e ▸ qo_44)
theorem qs_46 : ∀ k, k < 46 → ∀ pc, pc < qsz k → qokB k pc = true := fun k h => (Nat.lt_succ_iff_lt_or_eq.mp h).elim (qs_45 k) (fun e => e ▸ qo_45)
theorem qs_47 : ∀ k, k < 47 → ∀ pc, pc < qsz k → qokB k pc = true := fun k h => (Nat.lt_succ_iff_lt_or_eq.mp h).elim (qs_46 k) (fun e => e ▸ qo_46)
theorem qs_48 : ∀ k, k < 48 → ∀ pc, pc < qsz k → qokB k pc = true := fun k h => (Nat.lt_succ_iff_lt_or_eq.mp h).elim (qs_47 k) (fun e => e ▸ qo_47)
theorem qs_49 : ∀ k, k < 49 → ∀ pc, pc < qsz k → qokB k pc = true := fun k h => (Nat.lt_succ_iff_lt_or_eq.mp h).elim (qs_48 k) (fun e => e ▸ qo_48)
theorem qs_50 : ∀ k, k < 50 → ∀ pc, pc < qsz k → qokB k pc = true := fun k h => (Nat.lt_succ_iff_lt_or_eq.mp h).elim (qs_49 k) (fun e => e ▸ qo_49)
theorem qs_51 : ∀ k, k < 51 → ∀ pc, pc < qsz k → qokB k pc = true := fun k h => (Nat.lt_succ_iff_lt_or_eq.mp h).elim (qs_50 k) (fun e => e ▸ qo_50)
theorem qs_52 : ∀ k, k < 52 → ∀ pc, pc < qsz k → qokB k pc = true := fun k h => (Nat.lt_succ_iff_lt_or_eq.mp h).elim (qs_51 k) (fun e => e ▸ qo_51)
theorem qs_53 : ∀ k, k < 53 → ∀ pc, pc < qsz k → qokB k pc = true := fun k h => (Nat.lt_succ_iff_lt_or_eq.mp h).elim (qs_52 k) (fun e => e ▸ qo_52)
theorem qs_54 : ∀ k, k < 54 → ∀ pc, pc < qsz k → qokB k pc = true := fun k h => (Nat.lt_succ_iff_lt_or_eq.mp h).elim (qs_53 k) (fun e => e ▸ qo_53)
theorem qs_55 : ∀ k, k < 55 → ∀ pc, pc < qsz k → qokB k pc = true := fun k h => (Nat.lt_succ_iff_lt_or_eq.mp h).elim (qs_54 k) (fun e => e ▸ qo_54)
theorem qs_56 : ∀ k, k < 56 → ∀ pc, pc < qsz k → qokB k pc = true := fun k h => (Nat.lt_succ_iff_lt_or_eq.mp h).elim (qs_55 k) (fun e => e ▸ qo_55)
theorem qs_57 : ∀ k, k < 57 → ∀ pc, pc < qsz k → qokB k pc = true := fun k h => (Nat.lt_succ_iff_lt_or_eq.mp h).elim (qs_56 k) (fun e => e ▸ qo_56)
theorem qs_58 : ∀ k, k < 58 → ∀ pc, pc < qsz k → qokB k pc = true := fun k h => (Nat.lt_succ_iff_lt_or_eq.mp h).elim (qs_57 k) (fun e => e ▸ qo_57)
theorem qs_59 : ∀ k, k < 59 → ∀ pc, pc < qsz k → qokB k pc = true := fun k h => (Nat.lt_succ_iff_lt_or_eq.mp h).elim (qs_58 k) (fun e => e ▸ qo_58)
theorem qs_60 : ∀ k, k < 60 → ∀ pc, pc < qsz k → qokB k pc = true := fun k h => (Nat.lt_succ_iff_lt_or_eq.mp h).elim (qs_59 k) (fun e => e ▸ qo_59)
theorem qs_61 : ∀ k, k < 61 → ∀ pc, pc < qsz k → qokB k pc = true := fun k h => (Nat.lt_succ_iff_lt_or_eq.mp h).elim (qs_60 k) (fun e => e ▸ qo_60)
theorem qs_62 : ∀ k, k < 62 → ∀ pc, pc < qsz k → qokB k pc = true := fun k h => (Nat.lt_succ_iff_lt_or_eq.mp h).elim (qs_61 k) (fun e => e ▸ qo_61)
theorem qs_63 : ∀ k, k < 63 → ∀ pc, pc < qsz k → qokB k pc = true := fun k h => (Nat.lt_succ_iff_lt_or_eq.mp h).elim (qs_62 k) (fun e => e ▸ qo_62)
theorem qs_64 : ∀ k, k < 64 → ∀ pc, pc < qsz k → qokB k pc = true := fun k h => (Nat.lt_succ_iff_lt_or_eq.mp h).elim (qs_63 k) (fun e => e ▸ qo_63)
theorem qs_65 : ∀ k, k < 65 → ∀ pc, pc < qsz k → qokB k pc = true := fun k h => (Nat.lt_succ_iff_lt_or_eq.mp h).elim (qs_64 k) (fun e => e ▸ qo_64)
theorem qs_66 : ∀ k, k < 66 → ∀ pc, pc < qsz k → qokB k pc = true := fun k h => (Nat.lt_succ_iff_lt_or_eq.mp h).elim (qs_65 k) (fun e => e ▸ qo_65)
theorem qs_67 : ∀ k, k < 67 → ∀ pc, pc < qsz k → qokB k pc = true := fun k h => (Nat.lt_succ_iff_lt_or_eq.mp h).elim (qs_66 k) (fun e => e ▸ qo_66)
theorem qs_68 : ∀ k, k < 68 → ∀ pc, pc < qsz k → qokB k pc = true := fun k h => (Nat.lt_succ_iff_lt_or_eq.mp h).elim (qs_67 k) (fun e => e ▸ qo_67)
theorem qs_69 : ∀ k, k < 69 → ∀ pc, pc < qsz k → qokB k pc = true := fun k h => (Nat.lt_succ_iff_lt_or_eq.mp h).elim (qs_68 k) (fun e => e ▸ qo_68)
theorem qs_70 : ∀ k, k < 70 → ∀ pc, pc < qsz k → qokB k pc = true := fun k h => (Nat.lt_succ_iff_lt_or_eq.mp h).elim (qs_69 k) (fun e => e ▸ qo_69)
theorem qs_71 : ∀ k, k < 71 → ∀ pc, pc < qsz k → qokB k pc = true := fun k h => (Nat.lt_succ_iff_lt_or_eq.mp h).elim (qs_70 k) (fun e => e ▸ qo_70)
theorem qs_72 : ∀ k, k < 72 → ∀ pc, pc < qsz k → qokB k pc = true := fun k h => (Nat.lt_succ_iff_lt_or_eq.mp h).elim (qs_71 k) (fun e => e ▸ qo_71)
theorem qs_73 : ∀ k, k < 73 → ∀ pc, pc < qsz k → qokB k pc = true := fun k h => (Nat.lt_succ_iff_lt_or_eq.mp h).elim (qs_72 k) (fun e => e ▸ qo_72)
theorem qs_74 : ∀ k, k < 74 → ∀ pc, pc < qsz k → qokB k pc = true := fun k h => (Nat.lt_succ_iff_lt_or_eq.mp h).elim (qs_73 k) (fun e => e ▸ qo_73)
theorem qs_75 : ∀ k, k < 75 → ∀ pc, pc < qsz k → qokB k pc = true := fun k h => (Nat.lt_succ_iff_lt_or_eq.mp h).elim (qs_74 k) (fun e => e ▸ qo_74)
theorem qs_76 : ∀ k, k < 76 → ∀ pc, pc < qsz k → qokB k pc = true := fun k h => (Nat.lt_succ_iff_lt_or_eq.mp h).elim (qs_75 k) (fun e => e ▸ qo_75)
theorem qs_77 : ∀ k, k < 77 → ∀ pc, pc < qsz k → qokB k pc = true := fun k h => (Nat.lt_succ_iff_lt_or_eq.mp h).elim (qs_76 k) (fun e => e ▸ qo_76)
theorem qs_78 : ∀ k, k < 78 → ∀ pc, pc < qsz k → qokB k pc = true := fun k h => (Nat.lt_succ_iff_lt_or_eq.mp h).elim (qs_77 k) (fun e => e ▸ qo_77)
theorem qs_79 : ∀ k, k < 79 → ∀ pc, pc < qsz k → qokB k pc = true := fun k h => (Nat.lt_succ_iff_lt_or_eq.mp h).elim (qs_78 k) (fun e => e ▸ qo_78)
theorem qs_80 : ∀ k, k < 80 → ∀ pc, pc < qsz k → qokB k pc = true := fun k h => (Nat.lt_succ_iff_lt_or_eq.mp h).elim (qs_79 k) (fun e => e ▸ qo_79)
theorem qs_81 : ∀ k, k < 81 → ∀ pc, pc < qsz k → qokB k pc = true := fun k h => (Nat.lt_succ_iff_lt_or_eq.mp h).elim (qs_80 k) (fun e => e ▸ qo_80)
theorem qs_82 : ∀ k, k < 82 → ∀ pc, pc < qsz k → qokB k pc = true := fun k h => (Nat.lt_succ_iff_lt_or_eq.mp h).elim (qs_81 k) (fun e => e ▸ qo_81)
theorem qs_83 : ∀ k, k < 83 → ∀ pc, pc < qsz k → qokB k pc = true := fun k h => (Nat.lt_succ_iff_lt_or_eq.mp h).elim (qs_82 k) (fun e => e ▸ qo_82)
theorem qs_84 : ∀ k, k < 84 → ∀ pc, pc < qsz k → qokB k pc = true := fun k h => (Nat.lt_succ_iff_lt_or_eq.mp h).elim (qs_83 k) (fun e => e ▸ qo_83)
theorem qs_85 : ∀ k, k < 85 → ∀ pc, pc < qsz k → qokB k pc = true := fun k h => (Nat.lt_succ_iff_lt_or_eq.mp h).elim (qs_84 k) (fun e => e ▸ qo_84)
theorem qs_86 : ∀ k, k < 86 → ∀ pc, pc < qsz k → qokB k pc = true := fun k h => (Nat.lt_succ_iff_lt_or_eq.mp h).elim (qs_85 k) (fun e => e ▸ qo_85)
theorem qs_87 : ∀ k, k < 87 → ∀ pc, pc < qsz k → qokB k pc = true := fun k h => (Nat.lt_succ_iff_lt_or_eq.mp h).elim (qs_86 k) (fun e => e ▸ qo_86)
theorem qs_88 : ∀ k, k < 88 → ∀ pc, pc < qsz k → qokB k pc = true := fun k h => (Nat.lt_succ_iff_lt_or_eq.mp h).elim (qs_87 k) (fun e => e ▸ qo_87)
theorem qs_89 : ∀ k, k < 89 → ∀ pc, pc < qsz k → qokB k pc = true := fun k h => (Nat.lt_succ_iff_lt_or_eq.mp h).elim (qs_88 k) (fun e => e ▸ qo_88)
theorem qs_90 : ∀ k, k < 90 → ∀ pc, pc < qsz k → qokB k pc = true := fun k h => (Nat.lt_succ_iff_lt_or_eq.mp h).elim (qs_89 k) (fun e => e ▸ qo_89)
theorem qs_91 : ∀ k, k < 91 → ∀ pc, pc < qsz k → qokB k pc = true := fun k h => (Nat.lt_succ_iff_lt_or_eq.mp h).elim (qs_90 k) (fun e => e ▸ qo_90)
theorem qs_92 : ∀ k, k < 92 → ∀ pc, pc < qsz k → qokB k pc = true := fun k h => (Nat.lt_succ_iff_lt_or_eq.mp h).elim (qs_91 k) (fun e => e ▸ qo_91)
theorem qs_93 : ∀ k, k < 93 → ∀ pc, pc < qsz k → qokB k pc = true := fun k h => (Nat.lt_succ_iff_lt_or_eq.mp h).elim (qs_92 k) (fun e => e ▸ qo_92)
theorem qs_94 : ∀ k, k < 94 → ∀ pc, pc < qsz k → qokB k pc = true := fun k h => (Nat.lt_succ_iff_lt_or_eq.mp h).elim (qs_93 k) (fun e => e ▸ qo_93)
theorem qs_95 : ∀ k, k < 95 → ∀ pc, pc < qsz k → qokB k pc = true := fun k h => (Nat.lt_succ_iff_lt_or_eq.mp h).elim (qs_94 k) (fun e => e ▸ qo_94)
theorem qs_96 : ∀ k, k < 96 → ∀ pc, pc < qsz k → qokB k pc = true := fun k h => (Nat.lt_succ_iff_lt_or_eq.mp h).elim (qs_95 k) (fun e => e ▸ qo_95)
theorem qs_97 : ∀ k, k < 97 → ∀ pc, pc < qsz k → qokB k pc = true := fun k h => (Nat.lt_succ_iff_lt_or_eq.mp h).elim (qs_96 k) (fun e => e ▸ qo_96)
theorem qs_98 : ∀ k, k < 98 → ∀ pc, pc < qsz k → qokB k pc = true := fun k h => (Nat.lt_succ_iff_lt_or_eq.mp h).elim (qs_97 k) (fun e => e ▸ qo_97)
theorem qs_99 : ∀ k, k < 99 → ∀ pc, pc < qsz k → qokB k pc = true := fun k h => (Nat.lt_succ_iff_lt_or_eq.mp h).elim (qs_98 k) (fun e => e ▸ qo_98)
theorem qs_100 : ∀ k, k < 100 → ∀ pc, pc < qsz k → qokB k pc = true := fun k h => (Nat.lt_succ_iff_lt_or_eq.mp h).elim (qs_99 k) (fun e => e ▸ qo_99)
theorem qs_101 : ∀ k, k < 101 → ∀ pc, pc < qsz k → qokB k pc = true := fun k h => (Nat.lt_succ_iff_lt_or_eq.mp h).elim (qs_100 k) (fun e => e ▸ qo_100)
theorem qs_102 : ∀ k, k < 102 → ∀ pc, pc < qsz k → qokB k pc = true := fun k h => (Nat.lt_succ_iff_lt_or_eq.mp h).elim (qs_101 k) (fun e => e ▸ qo_101)
theorem qs_103 : ∀ k, k < 103 → ∀ pc, pc < qsz k → qokB k pc = true := fun k h => (Nat.lt_succ_iff_lt_or_eq.mp h).elim (qs_102 k) (fun e => e ▸ qo_102)
theorem qs_104 : ∀ k, k < 104 → ∀ pc, pc < qsz k → qokB k pc = true := fun k h => (Nat.lt_succ_iff_lt_or_eq.mp h).elim (qs_103 k) (fun e => e ▸ qo_103)
theorem qs_105 : ∀ k, k < 105 → ∀ pc, pc < qsz k → qokB k pc = true := fun k h => (Nat.lt_succ_iff_lt_or_eq.mp h).elim (qs_104 k) (fun e => e ▸ qo_104)
theorem qs_106 : ∀ k, k < 106 → ∀ pc, pc < qsz k → qokB k pc = true := fun k h => (Nat.lt_succ_iff_lt_or_eq.mp h).elim (qs_105 k) (fun e => e ▸ qo_105)
theorem qs_107 : ∀ k, k < 107 → ∀ pc, pc < qsz k → qokB k pc = true := fun k h => (Nat.lt_succ_iff_lt_or_eq.mp h).elim (qs_106 k) (fun e => e ▸ qo_106)
theorem qs_108 : ∀ k, k < 108 → ∀ pc, pc < qsz k → qokB k pc = true := fun k h => (Nat.lt_succ_iff_lt_or_eq.mp h).elim (qs_107 k) (fun e => e ▸ qo_107)
theorem qs_109 : ∀ k, k < 109 → ∀ pc, pc < qsz k → qokB k pc = true := fun k h => (Nat.lt_succ_iff_lt_or_eq.mp h).elim (qs_108 k) (fun e => e ▸ qo_108)
theorem qs_110 : ∀ k, k < 110 → ∀ pc, pc < qsz k → qokB k pc = true := fun k h => (Nat.lt_succ_iff_lt_or_eq.mp h).elim (qs_109 k) (fun e => e ▸ qo_109)
theorem qs_111 : ∀ k, k < 111 → ∀ pc, pc < qsz k → qokB k pc = true := fun k h => (Nat.lt_succ_iff_lt_or_eq.mp h).elim (qs_110 k) (fun e => e ▸ qo_110)
theorem qs_112 : ∀ k, k < 112 → ∀ pc, pc < qsz k → qokB k pc = true := fun k h => (Nat.lt_succ_iff_lt_or_eq.mp h).elim (qs_111 k) (fun e => e ▸ qo_111)
theorem qs_113 : ∀ k, k < 113 → ∀ pc, pc < qsz k → qokB k pc = true := fun k h => (Nat.lt_succ_iff_lt_or_eq.mp h).elim (qs_112 k) (fun e => e ▸ qo_112)
theorem qs_114 : ∀ k, k < 114 → ∀ pc, pc < qsz k → qokB k pc = true := fun k h => (Nat.lt_succ_iff_lt_or_eq.mp h).elim (qs_113 k) (fun e => e ▸ qo_113)
theorem qs_115 : ∀ k, k < 115 → ∀ pc, pc < qsz k → qokB k pc = true := fun k h => (Nat.lt_succ_iff_lt_or_eq.mp h).elim (qs_114 k) (fun e => e ▸ qo_114)
theorem qs_116 : ∀ k, k < 116 → ∀ pc, pc < qsz k → qokB k pc = true := fun k h => (Nat.lt_succ_iff_lt_or_eq.mp h).elim (qs_115 k) (fun e => e ▸ qo_115)
theorem qs_117 : ∀ k, k < 117 → ∀ pc, pc < qsz k → qokB k pc = true := fun k h => (Nat.lt_succ_iff_lt_or_eq.mp h).elim (qs_116 k) (fun e => e ▸ qo_116)
theorem qs_118 : ∀ k, k < 118 → ∀ pc, pc < qsz k → qokB k pc = true := fun k h => (Nat.lt_succ_iff_lt_or_eq.mp h).elim (qs_117 k) (fun e => e ▸ qo_117)
theorem qs_119 : ∀ k, k < 119 → ∀ pc, pc < qsz k → qokB k pc = true := fun k h => (Nat.lt_succ_iff_lt_or_eq.mp h).elim (qs_118 k) (fun e => e ▸ qo_118)
theorem qs_120 : ∀ k, k < 120 → ∀ pc, pc < qsz k → qokB k pc = true := fun k h => (Nat.lt_succ_iff_lt_or_eq.mp h).elim (qs_119 k) (fun e => e ▸ qo_119)
theorem qs_121 : ∀ k, k < 121 → ∀ pc, pc < qsz k → qokB k pc = true := fun k h => (Nat.lt_succ_iff_lt_or_eq.mp h).elim (qs_120 k) (fun e => e ▸ qo_120)
theorem qs_122 : ∀ k, k < 122 → ∀ pc, pc < qsz k → qokB k pc = true := fun k h => (Nat.lt_succ_iff_lt_or_eq.mp h).elim (qs_121 k) (fun e => e ▸ qo_121)
theorem qs_123 : ∀ k, k < 123 → ∀ pc, pc < qsz k → qokB k pc = true := fun k h => (Nat.lt_succ_iff_lt_or_eq.mp h).elim (qs_122 k) (fun e => e ▸ qo_122)
theorem qs_124 : ∀ k, k < 124 → ∀ pc, pc < qsz k → qokB k pc = true := fun k h => (Nat.lt_succ_iff_lt_or_eq.mp h).elim (qs_123 k) (fun e => e ▸ qo_123)
theorem qs_125 : ∀ k, k < 125 → ∀ pc, pc < qsz k → qokB k pc = true := fun k h => (Nat.lt_succ_iff_lt_or_eq.mp h).elim (qs_124 k) (fun e => e ▸ qo_124)
theorem qs_126 : ∀ k, k < 126 → ∀ pc, pc < qsz k → qokB k pc = true := fun k h => (Nat.lt_succ_iff_lt_or_eq.mp h).elim (qs_125 k) (fun e => e ▸ qo_125)
theorem qs_127 : ∀ k, k < 127 → ∀ pc, pc < qsz k → qokB k pc = true := fun k h => (Nat.lt_succ_iff_lt_or_eq.mp h).elim (qs_126 k) (fun e => e ▸ qo_126)
theorem qs_128 : ∀ k, k < 128 → ∀ pc, pc < qsz k → qokB k pc = true := fun k h => (Nat.lt_succ_iff_lt_or_eq.mp h).elim (qs_127 k) (fun e => e ▸ qo_127)
theorem qs_129 : ∀ k, k < 129 → ∀ pc, pc < qsz k → qokB k pc = true := fun k h => (Nat.lt_succ_iff_lt_or_eq.mp h).elim (qs_128 k) (fun e => e ▸ qo_128)
theorem qs_130 : ∀ k, k < 130 → ∀ pc, pc < qsz k → qokB k pc = true := fun k h => (Nat.lt_succ_iff_lt_or_eq.mp h).elim (qs_129 k) (fun e => e ▸ qo_129)
theorem qs_131 : ∀ k, k < 131 → ∀ pc, pc < qsz k → qokB k pc = true := fun k h => (Nat.lt_succ_iff_lt_or_eq.mp h).elim (qs_130 k) (fun e => e ▸ qo_130)
theorem qs_132 : ∀ k, k < 132 → ∀ pc, pc < qsz k → qokB k pc = true := fun k h => (Nat.lt_succ_iff_lt_or_eq.mp h).elim (qs_131 k) (fun e => e ▸ qo_131)
theorem qs_133 : ∀ k, k < 133 → ∀ pc, pc < qsz k → qokB k pc = true := fun k h => (Nat.lt_succ_iff_lt_or_eq.mp h).elim (qs_132 k) (fun e => e ▸ qo_132)
theorem qs_134 : ∀ k, k < 134 → ∀ pc, pc < qsz k → qokB k pc = true := fun k h => (Nat.lt_succ_iff_lt_or_eq.mp h).elim (qs_133 k) (fun e => e ▸ qo_133)
theorem qs_135 : ∀ k, k < 135 → ∀ pc, pc < qsz k → qokB k pc = true := fun k h => (Nat.lt_succ_iff_lt_or_eq.mp h).elim (qs_134 k) (fun e => e ▸ qo_134)
theorem qs_136 : ∀ k, k < 136 → ∀ pc, pc < qsz k → qokB k pc = true := fun k h => (Nat.lt_succ_iff_lt_or_eq.mp h).elim (qs_135 k) (fun e => e ▸ qo_135)
theorem qs_137 : ∀ k, k < 137 → ∀ pc, pc < qsz k → qokB k pc = true := fun k h => (Nat.lt_succ_iff_lt_or_eq.mp h).elim (qs_136 k) (fun e => e ▸ qo_136)
theorem qs_138 : ∀ k, k < 138 → ∀ pc, pc < qsz k → qokB k pc = true := fun k h => (Nat.lt_succ_iff_lt_or_eq.mp h).elim (qs_137 k) (fun e => e ▸ qo_137)
theorem qs_139 : ∀ k, k < 139 → ∀ pc, pc < qsz k → qokB k pc = true := fun k h => (Nat.lt_succ_iff_lt_or_eq.mp h).elim (qs_138 k) (fun e => e ▸ qo_138)
theorem qs_140 : ∀ k, k < 140 → ∀ pc, pc < qsz k → qokB k pc = true := fun k h => (Nat.lt_succ_iff_lt_or_eq.mp h).elim (qs_139 k) (fun e => e ▸ qo_139)
theorem qs_141 : ∀ k, k < 141 → ∀ pc, pc < qsz k → qokB k pc = true := fun k h => (Nat.lt_succ_iff_lt_or_eq.mp h).elim (qs_140 k) (fun e => e ▸ qo_140)
theorem qs_142 : ∀ k, k < 142 → ∀ pc, pc < qsz k → qokB k pc = true := fun k h => (Nat.lt_succ_iff_lt_or_eq.mp h).elim (qs_141 k) (fun e => e ▸ qo_141)
theorem qs_143 : ∀ k, k < 143 → ∀ pc, pc < qsz k → qokB k pc = true := fun k h => (Nat.lt_succ_iff_lt_or_eq.mp h).elim (qs_142 k) (fun e => e ▸ qo_142)
theorem qs_144 : ∀ k, k < 144 → ∀ pc, pc < qsz k → qokB k pc = true := fun k h => (Nat.lt_succ_iff_lt_or_eq.mp h).elim (qs_143 k) (fun e => e ▸ qo_143)
theorem qs_145 : ∀ k, k < 145 → ∀ pc, pc < qsz k → qokB k pc = true := fun k h => (Nat.lt_succ_iff_lt_or_eq.mp h).elim (qs_144 k) (fun e => e ▸ qo_144)
theorem qs_146 : ∀ k, k < 146 → ∀ pc, pc < qsz k → qokB k pc = true := fun k h => (Nat.lt_succ_iff_lt_or_eq.mp h).elim (qs_145 k) (fun e => e ▸ qo_145)
theorem qs_147 : ∀ k, k < 147 → ∀ pc, pc < qsz k → qokB k pc = true := fun k h => (Nat.lt_succ_iff_lt_or_eq.mp h).elim (qs_146 k) (fun e => e ▸ qo_146)
theorem qs_148 : ∀ k, k < 148 → ∀ pc, pc < qsz k → qokB k pc = true := fun k h => (Nat.lt_succ_iff_lt_or_eq.mp h).elim (qs_147 k) (fun e => e ▸ qo_147)
theorem qs_149 : ∀ k, k < 149 → ∀ pc, pc < qsz k → qokB k pc = true := fun k h => (Nat.lt_succ_iff_lt_or_eq.mp h).elim (qs_148 k) (fun e => e ▸ qo_148)
theorem qs_150 : ∀ k, k < 150 → ∀ pc, pc < qsz k → qokB k pc = true := fun k h => (Nat.lt_succ_iff_lt_or_eq.mp h).elim (qs_149 k) (fun e => e ▸ qo_149)
theorem qs_151 : ∀ k, k < 151 → ∀ pc, pc < qsz k → qokB k pc = true := fun k h => (Nat.lt_succ_iff_lt_or_eq.mp h).elim (qs_150 k) (fun e => e ▸ qo_150)
theorem qs_152 : ∀ k, k < 152 → ∀ pc, pc < qsz k → qokB k pc = true := fun k h => (Nat.lt_succ_iff_lt_or_eq.mp h).elim (qs_151 k) (fun e => e ▸ qo_151)
theorem qs_153 : ∀ k, k < 153 → ∀ pc, pc < qsz k → qokB k pc = true := fun k h => (Nat.lt_succ_iff_lt_or_eq.mp h).elim (qs_152 k) (fun e => e ▸ qo_152)
theorem qs_154 : ∀ k, k < 154 → ∀ pc, pc < qsz k → qokB k pc = true := fun k h => (Nat.lt_succ_iff_lt_or_eq.mp h).elim (qs_153 k) (fun e => e ▸ qo_153)
theorem qs_155 : ∀ k, k < 155 → ∀ pc, pc < qsz k → qokB k pc = true := fun k h => (Nat.lt_succ_iff_lt_or_eq.mp h).elim (qs_154 k) (fun e => e ▸ qo_154)
theorem qs_156 : ∀ k, k < 156 → ∀ pc, pc < qsz k → qokB k pc = true := fun k h => (Nat.lt_succ_iff_lt_or_eq.mp h).elim (qs_155 k) (fun e => e ▸ qo_155)
theorem qs_157 : ∀ k, k < 157 → ∀ pc, pc < qsz k → qokB k pc = true := fun k h => (Nat.lt_succ_iff_lt_or_eq.mp h).elim (qs_156 k) (fun e => e ▸ qo_156)
theorem qs_158 : ∀ k, k < 158 → ∀ pc, pc < qsz k → qokB k pc = true := fun k h => (Nat.lt_succ_iff_lt_or_eq.mp h).elim (qs_157 k) (fun e => e ▸ qo_157)
theorem qs_159 : ∀ k, k < 159 → ∀ pc, pc < qsz k → qokB k pc = true := fun k h => (Nat.lt_succ_iff_lt_or_eq.mp h).elim (qs_158 k) (fun e => e ▸ qo_158)
theorem qs_160 : ∀ k, k < 160 → ∀ pc, pc < qsz k → qokB k pc = true := fun k h => (Nat.lt_succ_iff_lt_or_eq.mp h).elim (qs_159 k) (fun e => e ▸ qo_159)
theorem qs_161 : ∀ k, k < 161 → ∀ pc, pc < qsz k → qokB k pc = true := fun k h => (Nat.lt_succ_iff_lt_or_eq.mp h).elim (qs_160 k) (fun e => e ▸ qo_160)
theorem qs_162 : ∀ k, k < 162 → ∀ pc, pc < qsz k → qokB k pc = true := fun k h => (Nat.lt_succ_iff_lt_or_eq.mp h).elim (qs_161 k) (fun e => e ▸ qo_161)
theorem qs_163 : ∀ k, k < 163 → ∀ pc, pc < qsz k → qokB k pc = true := fun k h => (Nat.lt_succ_iff_lt_or_eq.mp h).elim (qs_162 k) (fun e => e ▸ qo_162)
theorem qs_164 : ∀ k, k < 164 → ∀ pc, pc < qsz k → qokB k pc = true := fun k h => (Nat.lt_succ_iff_lt_or_eq.mp h).elim (qs_163 k) (fun e => e ▸ qo_163)
theorem qs_165 : ∀ k, k < 165 → ∀ pc, pc < qsz k → qokB k pc = true := fun k h => (Nat.lt_succ_iff_lt_or_eq.mp h).elim (qs_164 k) (fun e => e ▸ qo_164)
theorem qs_166 : ∀ k, k < 166 → ∀ pc, pc < qsz k → qokB k pc = true := fun k h => (Nat.lt_succ_iff_lt_or_eq.mp h).elim (qs_165 k) (fun e => e ▸ qo_165)
theorem qs_167 : ∀ k, k < 167 → ∀ pc, pc < qsz k → qokB k pc = true := fun k h => (Nat.lt_succ_iff_lt_or_eq.mp h).elim (qs_166 k) (fun e => e ▸ qo_166)
theorem qs_168 : ∀ k, k < 168 → ∀ pc, pc < qsz k → qokB k pc = true := fun k h => (Nat.lt_succ_iff_lt_or_eq.mp h).elim (qs_167 k) (fun e => e ▸ qo_167)
theorem qs_169 : ∀ k, k < 169 → ∀ pc, pc < qsz k → qokB k pc = true := fun k h => (Nat.lt_succ_iff_lt_or_eq.mp h).elim (qs_168 k) (fun e => e ▸ qo_168)
theorem qs_170 : ∀ k, k < 170 → ∀ pc, pc < qsz k → qokB k pc = true := fun k h => (Nat.lt_succ_iff_lt_or_eq.mp h).elim (qs_169 k) (fun e => e ▸ qo_169)
theorem qs_171 : ∀ k, k < 171 → ∀ pc, pc < qsz k → qokB k pc = true := fun k h => (Nat.lt_succ_iff_lt_or_eq.mp h).elim (qs_170 k) (fun e => e ▸ qo_170)
theorem qs_172 : ∀ k, k < 172 → ∀ pc, pc < qsz k → qokB k pc = true := fun k h => (Nat.lt_succ_iff_lt_or_eq.mp h).elim (qs_171 k) (fun e => e ▸ qo_171)
theorem qs_173 : ∀ k, k < 173 → ∀ pc, pc < qsz k → qokB k pc = true := fun k h => (Nat.lt_succ_iff_lt_or_eq.mp h).elim (qs_172 k) (fun e => e ▸ qo_172)
theorem qs_174 : ∀ k, k < 174 → ∀ pc, pc < qsz k → qokB k pc = true := fun k h => (Nat.lt_succ_iff_lt_or_eq.mp h).elim (qs_173 k) (fun e => e ▸ qo_173)
theorem qs_175 : ∀ k, k < 175 → ∀ pc, pc < qsz k → qokB k pc = true := fun k h => (Nat.lt_succ_iff_lt_or_eq.mp h).elim (qs_174 k) (fun e => e ▸ qo_174)
theorem qs_176 : ∀ k, k < 176 → ∀ pc, pc < qsz k → qokB k pc = true := fun k h => (Nat.lt_succ_iff_lt_or_eq.mp h).elim (qs_175 k) (fun e => e ▸ qo_175)
theorem qs_177 : ∀ k, k < 177 → ∀ pc, pc < qsz k → qokB k pc = true := fun k h => (Nat.lt_succ_iff_lt_or_eq.mp h).elim (qs_176 k) (fun e => e ▸ qo_176)
theorem qs_178 : ∀ k, k < 178 → ∀ pc, pc < qsz k → qokB k pc = true := fun k h => (Nat.lt_succ_iff_lt_or_eq.mp h).elim (qs_177 k) (fun e => e ▸ qo_177)
theorem qs_179 : ∀ k, k < 179 → ∀ pc, pc < qsz k → qokB k pc = true := fun k h => (Nat.lt_succ_iff_lt_or_eq.mp h).elim (qs_178 k) (fun e => e ▸ qo_178)
theorem qs_180 : ∀ k, k < 180 → ∀ pc, pc < qsz k → qokB k pc = true := fun k h => (Nat.lt_succ_iff_lt_or_eq.mp h).elim (qs_179 k) (fun e => e ▸ qo_179)
theorem qs_181 : ∀ k, k < 181 → ∀ pc, pc < qsz k → qokB k pc = true := fun k h => (Nat.lt_succ_iff_lt_or_eq.mp h).elim (qs_180 k) (fun e => e ▸ qo_180)
theorem qs_182 : ∀ k, k < 182 → ∀ pc, pc < qsz k → qokB k pc = true := fun k h => (Nat.lt_succ_iff_lt_or_eq.mp h).elim (qs_181 k) (fun e => e ▸ qo_181)
theorem qs_183 : ∀ k, k < 183 → ∀ pc, pc < qsz k → qokB k pc = true := fun k h => (Nat.lt_succ_iff_lt_or_eq.mp h).elim (qs_182 k) (fun e => e ▸ qo_182)
theorem qs_184 : ∀ k, k < 184 → ∀ pc, pc < qsz k → qokB k pc = true := fun k h => (Nat.lt_succ_iff_lt_or_eq.mp h).elim (qs_183 k) (fun e => e ▸ qo_183)
theorem qs_185 : ∀ k, k < 185 → ∀ pc, pc < qsz k → qokB k pc = true := fun k h => (Nat.lt_succ_iff_lt_or_eq.mp h).elim (qs_184 k) (fun e => e ▸ qo_184)
theorem qs_186 : ∀ k, k < 186 → ∀ pc, pc < qsz k → qokB k pc = true := fun k h => (Nat.lt_succ_iff_lt_or_eq.mp h).elim (qs_185 k) (fun e => e ▸ qo_185)
theorem qs_187 : ∀ k, k < 187 → ∀ pc, pc < qsz k → qokB k pc = true := fun k h => (Nat.lt_succ_iff_lt_or_eq.mp h).elim (qs_186 k) (fun e => e ▸ qo_186)
theorem qs_188 : ∀ k, k < 188 → ∀ pc, pc < qsz k → qokB k pc = true := fun k h => (Nat.lt_succ_iff_lt_or_eq.mp h).elim (qs_187 k) (fun e => e ▸ qo_187)
theorem qs_189 : ∀ k, k < 189 → ∀ pc, pc < qsz k → qokB k pc = true := fun k h => (Nat.lt_succ_iff_lt_or_eq.mp h).elim (qs_188 k) (fun e => e ▸ qo_188)
theorem qs_190 : ∀ k, k < 190 → ∀ pc, pc < qsz k → qokB k pc = true := fun k h => (Nat.lt_succ_iff_lt_or_eq.mp h).elim (qs_189 k) (fun e => e ▸ qo_189)
theorem qs_191 : ∀ k, k < 191 → ∀ pc, pc < qsz k → qokB k pc = true := fun k h => (Nat.lt_succ_iff_lt_or_eq.mp h).elim (qs_190 k) (fun e => e ▸ qo_190)
theorem qok {k pc nx r1 r2 : Nat} {i : Instr} (h : qins k pc = some (i, nx, r1, r2)) : decode (qcode k) pc = .ok (i, nx - pc) ∧ pc ≤ nx ∧ (qil i = 0 ∨ nx = pc + qil i) ∧ qarg k pc i r1 r2 = true := by
  have hb : qokB k pc = true := by
    by_cases hk : (Nat.blt k 191 && Nat.blt pc (qsz k)) = true
    · simp only [Bool.and_eq_true, Nat.blt_eq] at hk
      exact qs_191 k hk.1 pc hk.2
    · unfold qins at h
      rw [Bool.eq_false_iff.mpr hk] at h
      cases h
  unfold qokB at hb
  rw [h] at hb
  simp only [Bool.and_eq_true, decide_eq_true_eq, Nat.ble_eq, Bool.or_eq_true, Nat.beq_eq] at hb
  exact ⟨hb.1, hb.2.1, hb.2.2.1, hb.2.2.2⟩
theorem qt0 {w : Jvm.Cond} {p : Nat} (h : (k2_sels lw_privs)[p]? = some w) (hg : goodWord w = true) : w ∈ qtb := List.mem_filter.mpr ⟨show w ∈ k2_sels lw_privs ++ tables_1 from List.mem_append_left _ (List.mem_of_getElem? h), hg⟩
theorem qt1 {w : Jvm.Cond} {p : Nat} (h : (tables_1_1)[p]? = some w) (hg : goodWord w = true) : w ∈ qtb := List.mem_filter.mpr ⟨show w ∈ k2_sels lw_privs ++ tables_1 from List.mem_append_right _ (show _ ∈ tables_1 from List.mem_append_left _ (List.mem_of_getElem? h)), hg⟩
theorem qt2 {w : Jvm.Cond} {p : Nat} (h : (tables_1_2)[p]? = some w) (hg : goodWord w = true) : w ∈ qtb := List.mem_filter.mpr ⟨show w ∈ k2_sels lw_privs ++ tables_1 from List.mem_append_right _ (show _ ∈ tables_1 from List.mem_append_right _ (List.mem_append_left _ (List.mem_of_getElem? h))), hg⟩
theorem qt3 {w : Jvm.Cond} {p : Nat} (h : (tables_1_3)[p]? = some w) (hg : goodWord w = true) : w ∈ qtb := List.mem_filter.mpr ⟨show w ∈ k2_sels lw_privs ++ tables_1 from List.mem_append_right _ (show _ ∈ tables_1 from List.mem_append_right _ (List.mem_append_right _ (List.mem_append_left _ (List.mem_of_getElem? h)))), hg⟩
theorem qt4 {w : Jvm.Cond} {p : Nat} (h : (tables_1_4)[p]? = some w) (hg : goodWord w = true) : w ∈ qtb := List.mem_filter.mpr ⟨show w ∈ k2_sels lw_privs ++ tables_1 from List.mem_append_right _ (show _ ∈ tables_1 from List.mem_append_right _ (List.mem_append_right _ (List.mem_append_right _ (List.mem_append_left _ (List.mem_of_getElem? h))))), hg⟩
theorem qt5 {w : Jvm.Cond} {p : Nat} (h : (tables_1_5)[p]? = some w) (hg : goodWord w = true) : w ∈ qtb := List.mem_filter.mpr ⟨show w ∈ k2_sels lw_privs ++ tables_1 from List.mem_append_right _ (show _ ∈ tables_1 from List.mem_append_right _ (List.mem_append_right _ (List.mem_append_right _ (List.mem_append_right _ (List.mem_of_getElem? h))))), hg⟩
def qFLp (q : Nat × Nat × Nat × Nat × Nat) : Prop := q.2.2.1 < 11 ∧ q.2.2.2.1 < qcS q.2.2.1 ∧ .fieldLink (qcn q.1) q.2.1 (qcT q.2.2.1 q.2.2.2.1).1 (qcT q.2.2.1 q.2.2.2.1).2.1 (qcT q.2.2.1 q.2.2.2.1).2.2.1 ∈ qtb
theorem qFLo_0 : qFLp ((0, 16, 0, 1, 405)) := ⟨by decide +kernel, by decide +kernel, qt2 (p := 85) rfl rfl⟩
theorem qFLo_1 : qFLp ((0, 20, 0, 2, 408)) := ⟨by decide +kernel, by decide +kernel, qt2 (p := 88) rfl rfl⟩
theorem qFLo_2 : qFLp ((0, 23, 0, 3, 410)) := ⟨by decide +kernel, by decide +kernel, qt2 (p := 90) rfl rfl⟩
theorem qFLo_3 : qFLp ((0, 26, 0, 4, 411)) := ⟨by decide +kernel, by decide +kernel, qt2 (p := 91) rfl rfl⟩
theorem qFLo_4 : qFLp ((0, 30, 0, 5, 414)) := ⟨by decide +kernel, by decide +kernel, qt2 (p := 94) rfl rfl⟩
theorem qFLo_5 : qFLp ((0, 33, 0, 6, 417)) := ⟨by decide +kernel, by decide +kernel, qt2 (p := 97) rfl rfl⟩
theorem qFLo_6 : qFLp ((0, 36, 0, 0, 404)) := ⟨by decide +kernel, by decide +kernel, qt2 (p := 84) rfl rfl⟩
theorem qFLo_7 : qFLp ((0, 44, 0, 7, 420)) := ⟨by decide +kernel, by decide +kernel, qt2 (p := 100) rfl rfl⟩
theorem qFLo_8 : qFLp ((0, 47, 8, 1, 121)) := ⟨by decide +kernel, by decide +kernel, qt1 (p := 41) rfl rfl⟩
theorem qFLo_9 : qFLp ((1, 13, 1, 0, 133)) := ⟨by decide +kernel, by decide +kernel, qt1 (p := 53) rfl rfl⟩
theorem qFLo_10 : qFLp ((1, 22, 1, 2, 135)) := ⟨by decide +kernel, by decide +kernel, qt1 (p := 55) rfl rfl⟩
theorem qFLo_11 : qFLp ((1, 28, 1, 3, 139)) := ⟨by decide +kernel, by decide +kernel, qt1 (p := 59) rfl rfl⟩
theorem qFLo_12 : qFLp ((1, 32, 1, 1, 134)) := ⟨by decide +kernel, by decide +kernel, qt1 (p := 54) rfl rfl⟩
theorem qFLo_13 : qFLp ((1, 37, 1, 4, 140)) := ⟨by decide +kernel, by decide +kernel, qt1 (p := 60) rfl rfl⟩
theorem qFLo_14 : qFLp ((1, 49, 7, 1, 320)) := ⟨by decide +kernel, by decide +kernel, qt2 (p := 0) rfl rfl⟩
theorem qFLo_15 : qFLp ((1, 56, 8, 1, 123)) := ⟨by decide +kernel, by decide +kernel, qt1 (p := 43) rfl rfl⟩
theorem qFLo_c0 : ∀ q ∈ ([(0, 16, 0, 1, 405), (0, 20, 0, 2, 408), (0, 23, 0, 3, 410), (0, 26, 0, 4, 411), (0, 30, 0, 5, 414), (0, 33, 0, 6, 417), (0, 36, 0, 0, 404), (0, 44, 0, 7, 420), (0, 47, 8, 1, 121), (1, 13, 1, 0, 133), (1, 22, 1, 2, 135), (1, 28, 1, 3, 139), (1, 32, 1, 1, 134), (1, 37, 1, 4, 140), (1, 49, 7, 1, 320), (1, 56, 8, 1, 123)] : List (Nat × Nat × Nat × Nat × Nat)), qFLp q := List.forall_mem_cons.mpr ⟨qFLo_0, List.forall_mem_cons.mpr ⟨qFLo_1, List.forall_mem_cons.mpr ⟨qFLo_2, List.forall_mem_cons.mpr ⟨qFLo_3, List.forall_mem_cons.mpr ⟨qFLo_4, List.forall_mem_cons.mpr ⟨qFLo_5, List.forall_mem_cons.mpr ⟨qFLo_6, List.forall_mem_cons.mpr ⟨qFLo_7, List.forall_mem_cons.mpr ⟨qFLo_8, List.forall_mem_cons.mpr ⟨qFLo_9, List.forall_mem_cons.mpr ⟨qFLo_10, List.forall_mem_cons.mpr ⟨qFLo_11, List.forall_mem_cons.mpr ⟨qFLo_12, List.forall_mem_cons.mpr ⟨qFLo_13, List.forall_mem_cons.mpr ⟨qFLo_14, List.forall_mem_cons.mpr ⟨qFLo_15, fun _ h => absurd h List.not_mem_nil⟩⟩⟩⟩⟩⟩⟩⟩⟩⟩⟩⟩⟩⟩⟩⟩
theorem qFLo_16 : qFLp ((1, 79, 7, 0, 317)) := ⟨by decide +kernel, by decide +kernel, qt1 (p := 237) rfl rfl⟩
theorem qFLo_17 : qFLp ((2, 11, 2, 0, 220)) := ⟨by decide +kernel, by decide +kernel, qt1 (p := 140) rfl rfl⟩
theorem qFLo_18 : qFLp ((2, 27, 2, 1, 222)) := ⟨by decide +kernel, by decide +kernel, qt1 (p := 142) rfl rfl⟩
theorem qFLo_19 : qFLp ((2, 31, 2, 2, 224)) := ⟨by decide +kernel, by decide +kernel, qt1 (p := 144) rfl rfl⟩
theorem qFLo_20 : qFLp ((2, 35, 2, 3, 226)) := ⟨by decide +kernel, by decide +kernel, qt1 (p := 146) rfl rfl⟩
theorem qFLo_21 : qFLp ((2, 38, 2, 4, 228)) := ⟨by decide +kernel, by decide +kernel, qt1 (p := 148) rfl rfl⟩
theorem qFLo_22 : qFLp ((2, 41, 2, 5, 229)) := ⟨by decide +kernel, by decide +kernel, qt1 (p := 149) rfl rfl⟩
theorem qFLo_23 : qFLp ((2, 66, 0, 1, 406)) := ⟨by decide +kernel, by decide +kernel, qt2 (p := 86) rfl rfl⟩
theorem qFLo_24 : qFLp ((2, 70, 8, 1, 120)) := ⟨by decide +kernel, by decide +kernel, qt1 (p := 40) rfl rfl⟩
theorem qFLo_25 : qFLp ((3, 12, 3, 2, 269)) := ⟨by decide +kernel, by decide +kernel, qt1 (p := 189) rfl rfl⟩
theorem qFLo_26 : qFLp ((3, 20, 3, 3, 271)) := ⟨by decide +kernel, by decide +kernel, qt1 (p := 191) rfl rfl⟩
theorem qFLo_27 : qFLp ((3, 24, 3, 7, 275)) := ⟨by decide +kernel, by decide +kernel, qt1 (p := 195) rfl rfl⟩
theorem qFLo_28 : qFLp ((3, 28, 3, 0, 267)) := ⟨by decide +kernel, by decide +kernel, qt1 (p := 187) rfl rfl⟩
theorem qFLo_29 : qFLp ((3, 37, 3, 1, 268)) := ⟨by decide +kernel, by decide +kernel, qt1 (p := 188) rfl rfl⟩
theorem qFLo_30 : qFLp ((3, 41, 3, 4, 272)) := ⟨by decide +kernel, by decide +kernel, qt1 (p := 192) rfl rfl⟩
theorem qFLo_31 : qFLp ((3, 45, 3, 6, 274)) := ⟨by decide +kernel, by decide +kernel, qt1 (p := 194) rfl rfl⟩
theorem qFLo_c1 : ∀ q ∈ ([(1, 79, 7, 0, 317), (2, 11, 2, 0, 220), (2, 27, 2, 1, 222), (2, 31, 2, 2, 224), (2, 35, 2, 3, 226), (2, 38, 2, 4, 228), (2, 41, 2, 5, 229), (2, 66, 0, 1, 406), (2, 70, 8, 1, 120), (3, 12, 3, 2, 269), (3, 20, 3, 3, 271), (3, 24, 3, 7, 275), (3, 28, 3, 0, 267), (3, 37, 3, 1, 268), (3, 41, 3, 4, 272), (3, 45, 3, 6, 274)] : List (Nat × Nat × Nat × Nat × Nat)), qFLp q := List.forall_mem_cons.mpr ⟨qFLo_16, List.forall_mem_cons.mpr ⟨qFLo_17, List.forall_mem_cons.mpr ⟨qFLo_18, List.forall_mem_cons.mpr ⟨qFLo_19, List.forall_mem_cons.mpr ⟨qFLo_20, List.forall_mem_cons.mpr ⟨qFLo_21, List.forall_mem_cons.mpr ⟨qFLo_22, List.forall_mem_cons.mpr ⟨qFLo_23, List.forall_mem_cons.mpr ⟨qFLo_24, List.forall_mem_cons.mpr ⟨qFLo_25, List.forall_mem_cons.mpr ⟨qFLo_26, List.forall_mem_cons.mpr ⟨qFLo_27, List.forall_mem_cons.mpr ⟨qFLo_28, List.forall_mem_cons.mpr ⟨qFLo_29, List.forall_mem_cons.mpr ⟨qFLo_30, List.forall_mem_cons.mpr ⟨qFLo_31, fun _ h => absurd h List.not_mem_nil⟩⟩⟩⟩⟩⟩⟩⟩⟩⟩⟩⟩⟩⟩⟩⟩
theorem qFLo_32 : qFLp ((3, 60, 0, 7, 421)) := ⟨by decide +kernel, by decide +kernel, qt2 (p := 101) rfl rfl⟩
theorem qFLo_33 : qFLp ((3, 76, 3, 5, 273)) := ⟨by decide +kernel, by decide +kernel, qt1 (p := 193) rfl rfl⟩
theorem qFLo_34 : qFLp ((3, 79, 4, 2, 247)) := ⟨by decide +kernel, by decide +kernel, qt1 (p := 167) rfl rfl⟩
theorem qFLo_35 : qFLp ((3, 91, 0, 4, 413)) := ⟨by decide +kernel, by decide +kernel, qt2 (p := 93) rfl rfl⟩
theorem qFLo_36 : qFLp ((3, 100, 0, 5, 416)) := ⟨by decide +kernel, by decide +kernel, qt2 (p := 96) rfl rfl⟩
theorem qFLo_37 : qFLp ((3, 106, 4, 1, 245)) := ⟨by decide +kernel, by decide +kernel, qt1 (p := 165) rfl rfl⟩
theorem qFLo_38 : qFLp ((3, 115, 5, 3, 196)) := ⟨by decide +kernel, by decide +kernel, qt1 (p := 116) rfl rfl⟩
theorem qFLo_39 : qFLp ((3, 126, 0, 6, 419)) := ⟨by decide +kernel, by decide +kernel, qt2 (p := 99) rfl rfl⟩
theorem qFLo_40 : qFLp ((3, 143, 1, 2, 137)) := ⟨by decide +kernel, by decide +kernel, qt1 (p := 57) rfl rfl⟩
theorem qFLo_41 : qFLp ((4, 12, 4, 1, 244)) := ⟨by decide +kernel, by decide +kernel, qt1 (p := 164) rfl rfl⟩
theorem qFLo_42 : qFLp ((4, 21, 4, 2, 246)) := ⟨by decide +kernel, by decide +kernel, qt1 (p := 166) rfl rfl⟩
theorem qFLo_43 : qFLp ((4, 27, 4, 3, 248)) := ⟨by decide +kernel, by decide +kernel, qt1 (p := 168) rfl rfl⟩
theorem qFLo_44 : qFLp ((4, 31, 4, 0, 243)) := ⟨by decide +kernel, by decide +kernel, qt1 (p := 163) rfl rfl⟩
theorem qFLo_45 : qFLp ((4, 35, 4, 4, 249)) := ⟨by decide +kernel, by decide +kernel, qt1 (p := 169) rfl rfl⟩
theorem qFLo_46 : qFLp ((4, 39, 0, 5, 415)) := ⟨by decide +kernel, by decide +kernel, qt2 (p := 95) rfl rfl⟩
theorem qFLo_47 : qFLp ((4, 43, 4, 5, 250)) := ⟨by decide +kernel, by decide +kernel, qt1 (p := 170) rfl rfl⟩
theorem qFLo_c2 : ∀ q ∈ ([(3, 60, 0, 7, 421), (3, 76, 3, 5, 273), (3, 79, 4, 2, 247), (3, 91, 0, 4, 413), (3, 100, 0, 5, 416), (3, 106, 4, 1, 245), (3, 115, 5, 3, 196), (3, 126, 0, 6, 419), (3, 143, 1, 2, 137), (4, 12, 4, 1, 244), (4, 21, 4, 2, 246), (4, 27, 4, 3, 248), (4, 31, 4, 0, 243), (4, 35, 4, 4, 249), (4, 39, 0, 5, 415), (4, 43, 4, 5, 250)] : List (Nat × Nat × Nat × Nat × Nat)), qFLp q := List.forall_mem_cons.mpr ⟨qFLo_32, List.forall_mem_cons.mpr ⟨qFLo_33, List.forall_mem_cons.mpr ⟨qFLo_34, List.forall_mem_cons.mpr ⟨qFLo_35, List.forall_mem_cons.mpr ⟨qFLo_36, List.forall_mem_cons.mpr ⟨qFLo_37, List.forall_mem_cons.mpr ⟨qFLo_38, List.forall_mem_cons.mpr ⟨qFLo_39, List.forall_mem_cons.mpr ⟨qFLo_40, List.forall_mem_cons.mpr ⟨qFLo_41, List.forall_mem_cons.mpr ⟨qFLo_42, List.forall_mem_cons.mpr ⟨qFLo_43, List.forall_mem_cons.mpr ⟨qFLo_44, List.forall_mem_cons.mpr ⟨qFLo_45, List.forall_mem_cons.mpr ⟨qFLo_46, List.forall_mem_cons.mpr ⟨qFLo_47, fun _ h => absurd h List.not_mem_nil⟩⟩⟩⟩⟩⟩⟩⟩⟩⟩⟩⟩⟩⟩⟩⟩
theorem qFLo_48 : qFLp ((4, 47, 0, 6, 418)) := ⟨by decide +kernel, by decide +kernel, qt2 (p := 98) rfl rfl⟩
theorem qFLo_49 : qFLp ((4, 50, 4, 6, 251)) := ⟨by decide +kernel, by decide +kernel, qt1 (p := 171) rfl rfl⟩
theorem qFLo_50 : qFLp ((4, 53, 0, 4, 412)) := ⟨by decide +kernel, by decide +kernel, qt2 (p := 92) rfl rfl⟩
theorem qFLo_51 : qFLp ((4, 98, 5, 3, 195)) := ⟨by decide +kernel, by decide +kernel, qt1 (p := 115) rfl rfl⟩
theorem qFLo_52 : qFLp ((4, 104, 5, 4, 197)) := ⟨by decide +kernel, by decide +kernel, qt1 (p := 117) rfl rfl⟩
theorem qFLo_53 : qFLp ((4, 114, 0, 2, 409)) := ⟨by decide +kernel, by decide +kernel, qt2 (p := 89) rfl rfl⟩
theorem qFLo_54 : qFLp ((4, 182, 5, 5, 200)) := ⟨by decide +kernel, by decide +kernel, qt1 (p := 120) rfl rfl⟩
theorem qFLo_55 : qFLp ((4, 262, 0, 1, 407)) := ⟨by decide +kernel, by decide +kernel, qt2 (p := 87) rfl rfl⟩
theorem qFLo_56 : qFLp ((4, 265, 8, 1, 124)) := ⟨by decide +kernel, by decide +kernel, qt1 (p := 44) rfl rfl⟩
theorem qFLo_57 : qFLp ((4, 306, 1, 2, 138)) := ⟨by decide +kernel, by decide +kernel, qt1 (p := 58) rfl rfl⟩
theorem qFLo_58 : qFLp ((6, 11, 5, 0, 191)) := ⟨by decide +kernel, by decide +kernel, qt1 (p := 111) rfl rfl⟩
theorem qFLo_59 : qFLp ((6, 15, 5, 1, 192)) := ⟨by decide +kernel, by decide +kernel, qt1 (p := 112) rfl rfl⟩
theorem qFLo_60 : qFLp ((6, 19, 5, 2, 193)) := ⟨by decide +kernel, by decide +kernel, qt1 (p := 113) rfl rfl⟩
theorem qFLo_61 : qFLp ((6, 22, 5, 3, 194)) := ⟨by decide +kernel, by decide +kernel, qt1 (p := 114) rfl rfl⟩
theorem qFLo_62 : qFLp ((6, 32, 5, 4, 198)) := ⟨by decide +kernel, by decide +kernel, qt1 (p := 118) rfl rfl⟩
theorem qFLo_63 : qFLp ((6, 36, 5, 5, 199)) := ⟨by decide +kernel, by decide +kernel, qt1 (p := 119) rfl rfl⟩
theorem qFLo_c3 : ∀ q ∈ ([(4, 47, 0, 6, 418), (4, 50, 4, 6, 251), (4, 53, 0, 4, 412), (4, 98, 5, 3, 195), (4, 104, 5, 4, 197), (4, 114, 0, 2, 409), (4, 182, 5, 5, 200), (4, 262, 0, 1, 407), (4, 265, 8, 1, 124), (4, 306, 1, 2, 138), (6, 11, 5, 0, 191), (6, 15, 5, 1, 192), (6, 19, 5, 2, 193), (6, 22, 5, 3, 194), (6, 32, 5, 4, 198), (6, 36, 5, 5, 199)] : List (Nat × Nat × Nat × Nat × Nat)), qFLp q := List.forall_mem_cons.mpr ⟨qFLo_48, List.forall_mem_cons.mpr ⟨qFLo_49, List.forall_mem_cons.mpr ⟨qFLo_50, List.forall_mem_cons.mpr ⟨qFLo_51, List.forall_mem_cons.mpr ⟨qFLo_52, List.forall_mem_cons.mpr ⟨qFLo_53, List.forall_mem_cons.mpr ⟨qFLo_54, List.forall_mem_cons.mpr ⟨qFLo_55, List.forall_mem_cons.mpr ⟨qFLo_56, List.forall_mem_cons.mpr ⟨qFLo_57, List.forall_mem_cons.mpr ⟨qFLo_58, List.forall_mem_cons.mpr ⟨qFLo_59, List.forall_mem_cons.mpr ⟨qFLo_60, List.forall_mem_cons.mpr ⟨qFLo_61, List.forall_mem_cons.mpr ⟨qFLo_62, List.forall_mem_cons.mpr ⟨qFLo_63, fun _ h => absurd h List.not_mem_nil⟩⟩⟩⟩⟩⟩⟩⟩⟩⟩⟩⟩⟩⟩⟩⟩
theorem qFLo_64 : qFLp ((6, 43, 8, 1, 122)) := ⟨by decide +kernel, by decide +kernel, qt1 (p := 42) rfl rfl⟩
theorem qFLo_65 : qFLp ((7, 11, 6, 0, 164)) := ⟨by decide +kernel, by decide +kernel, qt1 (p := 84) rfl rfl⟩
theorem qFLo_66 : qFLp ((7, 17, 6, 1, 165)) := ⟨by decide +kernel, by decide +kernel, qt1 (p := 85) rfl rfl⟩
theorem qFLo_67 : qFLp ((7, 21, 6, 2, 166)) := ⟨by decide +kernel, by decide +kernel, qt1 (p := 86) rfl rfl⟩
theorem qFLo_68 : qFLp ((7, 25, 6, 3, 167)) := ⟨by decide +kernel, by decide +kernel, qt1 (p := 87) rfl rfl⟩
theorem qFLo_69 : qFLp ((7, 46, 2, 2, 225)) := ⟨by decide +kernel, by decide +kernel, qt1 (p := 145) rfl rfl⟩
theorem qFLo_70 : qFLp ((7, 49, 2, 0, 221)) := ⟨by decide +kernel, by decide +kernel, qt1 (p := 141) rfl rfl⟩
theorem qFLo_71 : qFLp ((7, 50, 2, 1, 223)) := ⟨by decide +kernel, by decide +kernel, qt1 (p := 143) rfl rfl⟩
theorem qFLo_72 : qFLp ((7, 64, 2, 3, 227)) := ⟨by decide +kernel, by decide +kernel, qt1 (p := 147) rfl rfl⟩
theorem qFLo_73 : qFLp ((8, 14, 7, 1, 318)) := ⟨by decide +kernel, by decide +kernel, qt1 (p := 238) rfl rfl⟩
theorem qFLo_74 : qFLp ((8, 18, 7, 0, 316)) := ⟨by decide +kernel, by decide +kernel, qt1 (p := 236) rfl rfl⟩
theorem qFLo_75 : qFLp ((10, 9, 8, 0, 118)) := ⟨by decide +kernel, by decide +kernel, qt1 (p := 38) rfl rfl⟩
theorem qFLo_76 : qFLp ((10, 15, 8, 1, 119)) := ⟨by decide +kernel, by decide +kernel, qt1 (p := 39) rfl rfl⟩
theorem qFLo_77 : qFLp ((11, 12, 9, 0, 294)) := ⟨by decide +kernel, by decide +kernel, qt1 (p := 214) rfl rfl⟩
theorem qFLo_78 : qFLp ((11, 21, 9, 1, 295)) := ⟨by decide +kernel, by decide +kernel, qt1 (p := 215) rfl rfl⟩
theorem qFLo_79 : qFLp ((11, 42, 7, 1, 319)) := ⟨by decide +kernel, by decide +kernel, qt1 (p := 239) rfl rfl⟩
theorem qFLo_c4 : ∀ q ∈ ([(6, 43, 8, 1, 122), (7, 11, 6, 0, 164), (7, 17, 6, 1, 165), (7, 21, 6, 2, 166), (7, 25, 6, 3, 167), (7, 46, 2, 2, 225), (7, 49, 2, 0, 221), (7, 50, 2, 1, 223), (7, 64, 2, 3, 227), (8, 14, 7, 1, 318), (8, 18, 7, 0, 316), (10, 9, 8, 0, 118), (10, 15, 8, 1, 119), (11, 12, 9, 0, 294), (11, 21, 9, 1, 295), (11, 42, 7, 1, 319)] : List (Nat × Nat × Nat × Nat × Nat)), qFLp q := List.forall_mem_cons.mpr ⟨qFLo_64, List.forall_mem_cons.mpr ⟨qFLo_65, List.forall_mem_cons.mpr ⟨qFLo_66, List.forall_mem_cons.mpr ⟨qFLo_67, List.forall_mem_cons.mpr ⟨qFLo_68, List.forall_mem_cons.mpr ⟨qFLo_69, List.forall_mem_cons.mpr ⟨qFLo_70, List.forall_mem_cons.mpr ⟨qFLo_71, List.forall_mem_cons.mpr ⟨qFLo_72, List.forall_mem_cons.mpr ⟨qFLo_73, List.forall_mem_cons.mpr ⟨qFLo_74, List.forall_mem_cons.mpr ⟨qFLo_75, List.forall_mem_cons.mpr ⟨qFLo_76, List.forall_mem_cons.mpr ⟨qFLo_77, List.forall_mem_cons.mpr ⟨qFLo_78, List.forall_mem_cons.mpr ⟨qFLo_79, fun _ h => absurd h List.not_mem_nil⟩⟩⟩⟩⟩⟩⟩⟩⟩⟩⟩⟩⟩⟩⟩⟩
theorem qFLo_80 : qFLp ((11, 65, 1, 2, 136)) := ⟨by decide +kernel, by decide +kernel, qt1 (p := 56) rfl rfl⟩
theorem qFLo_81 : qFLp ((11, 95, 0, 7, 422)) := ⟨by decide +kernel, by decide +kernel, qt2 (p := 102) rfl rfl⟩
theorem qFLo_82 : qFLp ((11, 106, 3, 7, 276)) := ⟨by decide +kernel, by decide +kernel, qt1 (p := 196) rfl rfl⟩
theorem qFLo_83 : qFLp ((11, 113, 3, 2, 270)) := ⟨by decide +kernel, by decide +kernel, qt1 (p := 190) rfl rfl⟩
theorem qFLo_84 : qFLp ((12, 7, 10, 1, 904)) := ⟨by decide +kernel, by decide +kernel, qt4 (p := 104) rfl rfl⟩
theorem qFLo_85 : qFLp ((12, 13, 10, 2, 905)) := ⟨by decide +kernel, by decide +kernel, qt4 (p := 105) rfl rfl⟩
theorem qFLo_86 : qFLp ((12, 16, 10, 3, 906)) := ⟨by decide +kernel, by decide +kernel, qt4 (p := 106) rfl rfl⟩
theorem qFLo_87 : qFLp ((12, 20, 10, 5, 908)) := ⟨by decide +kernel, by decide +kernel, qt4 (p := 108) rfl rfl⟩
theorem qFLo_88 : qFLp ((12, 23, 10, 7, 910)) := ⟨by decide +kernel, by decide +kernel, qt4 (p := 110) rfl rfl⟩
theorem qFLo_89 : qFLp ((12, 26, 10, 8, 911)) := ⟨by decide +kernel, by decide +kernel, qt4 (p := 111) rfl rfl⟩
theorem qFLo_90 : qFLp ((12, 29, 10, 9, 912)) := ⟨by decide +kernel, by decide +kernel, qt4 (p := 112) rfl rfl⟩
theorem qFLo_91 : qFLp ((12, 32, 10, 10, 913)) := ⟨by decide +kernel, by decide +kernel, qt4 (p := 113) rfl rfl⟩
theorem qFLo_92 : qFLp ((12, 35, 10, 11, 914)) := ⟨by decide +kernel, by decide +kernel, qt4 (p := 114) rfl rfl⟩
theorem qFLo_93 : qFLp ((12, 38, 10, 12, 915)) := ⟨by decide +kernel, by decide +kernel, qt4 (p := 115) rfl rfl⟩
theorem qFLo_94 : qFLp ((12, 41, 10, 13, 916)) := ⟨by decide +kernel, by decide +kernel, qt4 (p := 116) rfl rfl⟩
theorem qFLo_95 : qFLp ((12, 44, 10, 14, 917)) := ⟨by decide +kernel, by decide +kernel, qt4 (p := 117) rfl rfl⟩
theorem qFLo_c5 : ∀ q ∈ ([(11, 65, 1, 2, 136), (11, 95, 0, 7, 422), (11, 106, 3, 7, 276), (11, 113, 3, 2, 270), (12, 7, 10, 1, 904), (12, 13, 10, 2, 905), (12, 16, 10, 3, 906), (12, 20, 10, 5, 908), (12, 23, 10, 7, 910), (12, 26, 10, 8, 911), (12, 29, 10, 9, 912), (12, 32, 10, 10, 913), (12, 35, 10, 11, 914), (12, 38, 10, 12, 915), (12, 41, 10, 13, 916), (12, 44, 10, 14, 917)] : List (Nat × Nat × Nat × Nat × Nat)), qFLp q := List.forall_mem_cons.mpr ⟨qFLo_80, List.forall_mem_cons.mpr ⟨qFLo_81, List.forall_mem_cons.mpr ⟨qFLo_82, List.forall_mem_cons.mpr ⟨qFLo_83, List.forall_mem_cons.mpr ⟨qFLo_84, List.forall_mem_cons.mpr ⟨qFLo_85, List.forall_mem_cons.mpr ⟨qFLo_86, List.forall_mem_cons.mpr ⟨qFLo_87, List.forall_mem_cons.mpr ⟨qFLo_88, List.forall_mem_cons.mpr ⟨qFLo_89, List.forall_mem_cons.mpr ⟨qFLo_90, List.forall_mem_cons.mpr ⟨qFLo_91, List.forall_mem_cons.mpr ⟨qFLo_92, List.forall_mem_cons.mpr ⟨qFLo_93, List.forall_mem_cons.mpr ⟨qFLo_94, List.forall_mem_cons.mpr ⟨qFLo_95, fun _ h => absurd h List.not_mem_nil⟩⟩⟩⟩⟩⟩⟩⟩⟩⟩⟩⟩⟩⟩⟩⟩
theorem qFLo_96 : qFLp ((12, 47, 10, 15, 918)) := ⟨by decide +kernel, by decide +kernel, qt4 (p := 118) rfl rfl⟩
theorem qFLo_97 : qFLp ((12, 51, 10, 16, 919)) := ⟨by decide +kernel, by decide +kernel, qt4 (p := 119) rfl rfl⟩
theorem qFLo_98 : qFLp ((12, 54, 10, 17, 920)) := ⟨by decide +kernel, by decide +kernel, qt4 (p := 120) rfl rfl⟩
theorem qFLo_99 : qFLp ((12, 57, 10, 19, 922)) := ⟨by decide +kernel, by decide +kernel, qt4 (p := 122) rfl rfl⟩
theorem qFLo_100 : qFLp ((12, 61, 10, 20, 923)) := ⟨by decide +kernel, by decide +kernel, qt4 (p := 123) rfl rfl⟩
theorem qFLo_101 : qFLp ((12, 64, 10, 21, 924)) := ⟨by decide +kernel, by decide +kernel, qt4 (p := 124) rfl rfl⟩
theorem qFLo_102 : qFLp ((12, 68, 10, 22, 925)) := ⟨by decide +kernel, by decide +kernel, qt4 (p := 125) rfl rfl⟩
theorem qFLo_103 : qFLp ((12, 71, 10, 23, 926)) := ⟨by decide +kernel, by decide +kernel, qt4 (p := 126) rfl rfl⟩
theorem qFLo_104 : qFLp ((12, 74, 10, 24, 927)) := ⟨by decide +kernel, by decide +kernel, qt4 (p := 127) rfl rfl⟩
theorem qFLo_105 : qFLp ((12, 77, 10, 25, 928)) := ⟨by decide +kernel, by decide +kernel, qt4 (p := 128) rfl rfl⟩
theorem qFLo_106 : qFLp ((12, 80, 10, 26, 929)) := ⟨by decide +kernel, by decide +kernel, qt4 (p := 129) rfl rfl⟩
theorem qFLo_107 : qFLp ((12, 83, 10, 27, 930)) := ⟨by decide +kernel, by decide +kernel, qt4 (p := 130) rfl rfl⟩
theorem qFLo_108 : qFLp ((12, 86, 10, 28, 931)) := ⟨by decide +kernel, by decide +kernel, qt4 (p := 131) rfl rfl⟩
theorem qFLo_109 : qFLp ((12, 89, 10, 29, 932)) := ⟨by decide +kernel, by decide +kernel, qt4 (p := 132) rfl rfl⟩
theorem qFLo_110 : qFLp ((12, 92, 10, 31, 934)) := ⟨by decide +kernel, by decide +kernel, qt4 (p := 134) rfl rfl⟩
theorem qFLo_111 : qFLp ((12, 95, 10, 32, 935)) := ⟨by decide +kernel, by decide +kernel, qt4 (p := 135) rfl rfl⟩
theorem qFLo_c6 : ∀ q ∈ ([(12, 47, 10, 15, 918), (12, 51, 10, 16, 919), (12, 54, 10, 17, 920), (12, 57, 10, 19, 922), (12, 61, 10, 20, 923), (12, 64, 10, 21, 924), (12, 68, 10, 22, 925), (12, 71, 10, 23, 926), (12, 74, 10, 24, 927), (12, 77, 10, 25, 928), (12, 80, 10, 26, 929), (12, 83, 10, 27, 930), (12, 86, 10, 28, 931), (12, 89, 10, 29, 932), (12, 92, 10, 31, 934), (12, 95, 10, 32, 935)] : List (Nat × Nat × Nat × Nat × Nat)), qFLp q := List.forall_mem_cons.mpr ⟨qFLo_96, List.forall_mem_cons.mpr ⟨qFLo_97, List.forall_mem_cons.mpr ⟨qFLo_98, List.forall_mem_cons.mpr ⟨qFLo_99, List.forall_mem_cons.mpr ⟨qFLo_100, List.forall_mem_cons.mpr ⟨qFLo_101, List.forall_mem_cons.mpr ⟨qFLo_102, List.forall_mem_cons.mpr ⟨qFLo_103, List.forall_mem_cons.mpr ⟨qFLo_104, List.forall_mem_cons.mpr ⟨qFLo_105, List.forall_mem_cons.mpr ⟨qFLo_106, List.forall_mem_cons.mpr ⟨qFLo_107, List.forall_mem_cons.mpr ⟨qFLo_108, List.forall_mem_cons.mpr ⟨qFLo_109, List.forall_mem_cons.mpr ⟨qFLo_110, List.forall_mem_cons.mpr ⟨qFLo_111, fun _ h => absurd h List.not_mem_nil⟩⟩⟩⟩⟩⟩⟩⟩⟩⟩⟩⟩⟩⟩⟩⟩
theorem qFLo_112 : qFLp ((12, 98, 10, 33, 936)) := ⟨by decide +kernel, by decide +kernel, qt4 (p := 136) rfl rfl⟩
theorem qFLo_113 : qFLp ((12, 107, 10, 0, 903)) := ⟨by decide +kernel, by decide +kernel, qt4 (p := 103) rfl rfl⟩
theorem qFLo_114 : qFLp ((12, 131, 10, 4, 907)) := ⟨by decide +kernel, by decide +kernel, qt4 (p := 107) rfl rfl⟩
theorem qFLo_115 : qFLp ((12, 134, 10, 6, 909)) := ⟨by decide +kernel, by decide +kernel, qt4 (p := 109) rfl rfl⟩
theorem qFLo_116 : qFLp ((12, 141, 10, 18, 921)) := ⟨by decide +kernel, by decide +kernel, qt4 (p := 121) rfl rfl⟩
theorem qFLo_117 : qFLp ((12, 144, 10, 34, 937)) := ⟨by decide +kernel, by decide +kernel, qt4 (p := 137) rfl rfl⟩
theorem qFLo_118 : qFLp ((12, 150, 10, 30, 933)) := ⟨by decide +kernel, by decide +kernel, qt4 (p := 133) rfl rfl⟩
theorem qFLo_119 : qFLp ((12, 157, 10, 35, 938)) := ⟨by decide +kernel, by decide +kernel, qt4 (p := 138) rfl rfl⟩
theorem qFLo_120 : qFLp ((12, 161, 10, 36, 939)) := ⟨by decide +kernel, by decide +kernel, qt4 (p := 139) rfl rfl⟩
theorem qFLo_121 : qFLp ((12, 164, 10, 37, 940)) := ⟨by decide +kernel, by decide +kernel, qt4 (p := 140) rfl rfl⟩
theorem qFLo_c7 : ∀ q ∈ ([(12, 98, 10, 33, 936), (12, 107, 10, 0, 903), (12, 131, 10, 4, 907), (12, 134, 10, 6, 909), (12, 141, 10, 18, 921), (12, 144, 10, 34, 937), (12, 150, 10, 30, 933), (12, 157, 10, 35, 938), (12, 161, 10, 36, 939), (12, 164, 10, 37, 940)] : List (Nat × Nat × Nat × Nat × Nat)), qFLp q := List.forall_mem_cons.mpr ⟨qFLo_112, List.forall_mem_cons.mpr ⟨qFLo_113, List.forall_mem_cons.mpr ⟨qFLo_114, List.forall_mem_cons.mpr ⟨qFLo_115, List.forall_mem_cons.mpr ⟨qFLo_116, List.forall_mem_cons.mpr ⟨qFLo_117, List.forall_mem_cons.mpr ⟨qFLo_118, List.forall_mem_cons.mpr ⟨qFLo_119, List.forall_mem_cons.mpr ⟨qFLo_120, List.forall_mem_cons.mpr ⟨qFLo_121, fun _ h => absurd h List.not_mem_nil⟩⟩⟩⟩⟩⟩⟩⟩⟩⟩
set_option maxRecDepth 100000 in
theorem qFL_ok : ∀ q ∈ qFL, qFLp q := by
  show ∀ q ∈ ([(0, 16, 0, 1, 405), (0, 20, 0, 2, 408), (0, 23, 0, 3, 410), (0, 26, 0, 4, 411), (0, 30, 0, 5, 414), (0, 33, 0, 6, 417), (0, 36, 0, 0, 404), (0, 44, 0, 7, 420), (0, 47, 8, 1, 121), (1, 13, 1, 0, 133), (1, 22, 1, 2, 135), (1, 28, 1, 3, 139), (1, 32, 1, 1, 134), (1, 37, 1, 4, 140), (1, 49, 7, 1, 320), (1, 56, 8, 1, 123)] : List (Nat × Nat × Nat × Nat × Nat)) ++ (([(1, 79, 7, 0, 317), (2, 11, 2, 0, 220), (2, 27, 2, 1, 222), (2, 31, 2, 2, 224), (2, 35, 2, 3, 226), (2, 38, 2, 4, 228), (2, 41, 2, 5, 229), (2, 66, 0, 1, 406), (2, 70, 8, 1, 120), (3, 12, 3, 2, 269), (3, 20, 3, 3, 271), (3, 24, 3, 7, 275), (3, 28, 3, 0, 267), (3, 37, 3, 1, 268), (3, 41, 3, 4, 272), (3, 45, 3, 6, 274)] : List (Nat × Nat × Nat × Nat × Nat)) ++ (([(3, 60, 0, 7, 421), (3, 76, 3, 5, 273), (3, 79, 4, 2, 247), (3, 91, 0, 4, 413), (3, 100, 0, 5, 416), (3, 106, 4, 1, 245), (3, 115, 5, 3, 196), (3, 126, 0, 6, 419), (3, 143, 1, 2, 137), (4, 12, 4, 1, 244), (4, 21, 4, 2, 246), (4, 27, 4, 3, 248), (4, 31, 4, 0, 243), (4, 35, 4, 4, 249), (4, 39, 0, 5, 415), (4, 43, 4, 5, 250)] : List (Nat × Nat × Nat × Nat × Nat)) ++ (([(4, 47, 0, 6, 418), (4, 50, 4, 6, 251), (4, 53, 0, 4, 412), (4, 98, 5, 3, 195), (4, 104, 5, 4, 197), (4, 114, 0, 2, 409), (4, 182, 5, 5, 200), (4, 262, 0, 1, 407), (4, 265, 8, 1, 124), (4, 306, 1, 2, 138), (6, 11, 5, 0, 191), (6, 15, 5, 1, 192), (6, 19, 5, 2, 193), (6, 22, 5, 3, 194), (6, 32, 5, 4, 198), (6, 36, 5, 5, 199)] : List (Nat × Nat × Nat × Nat × Nat)) ++ (([(6, 43, 8, 1, 122), (7, 11, 6, 0, 164), (7, 17, 6, 1, 165), (7, 21, 6, 2, 166), (7, 25, 6, 3, 167), (7, 46, 2, 2, 225), (7, 49, 2, 0, 221), (7, 50, 2, 1, 223), (7, 64, 2, 3, 227), (8, 14, 7, 1, 318), (8, 18, 7, 0, 316), (10, 9, 8, 0, 118), (10, 15, 8, 1, 119), (11, 12, 9, 0, 294), (11, 21, 9, 1, 295), (11, 42, 7, 1, 319)] : List (Nat × Nat × Nat × Nat × Nat)) ++ (([(11, 65, 1, 2, 136), (11, 95, 0, 7, 422), (11, 106, 3, 7, 276), (11, 113, 3, 2, 270), (12, 7, 10, 1, 904), (12, 13, 10, 2, 905), (12, 16, 10, 3, 906), (12, 20, 10, 5, 908), (12, 23, 10, 7, 910), (12, 26, 10, 8, 911), (12, 29, 10, 9, 912), (12, 32, 10, 10, 913), (12, 35, 10, 11, 914), (12, 38, 10, 12, 915), (12, 41, 10, 13, 916), (12, 44, 10, 14, 917)] : List (Nat × Nat × Nat × Nat × Nat)) ++ (([(12, 47, 10, 15, 918), (12, 51, 10, 16, 919), (12, 54, 10, 17, 920), (12, 57, 10, 19, 922), (12, 61, 10, 20, 923), (12, 64, 10, 21, 924), (12, 68, 10, 22, 925), (12, 71, 10, 23, 926), (12, 74, 10, 24, 927), (12, 77, 10, 25, 928), (12, 80, 10, 26, 929), (12, 83, 10, 27, 930), (12, 86, 10, 28, 931), (12, 89, 10, 29, 932), (12, 92, 10, 31, 934), (12, 95, 10, 32, 935)] : List (Nat × Nat × Nat × Nat × Nat)) ++ (([(12, 98, 10, 33, 936), (12, 107, 10, 0, 903), (12, 131, 10, 4, 907), (12, 134, 10, 6, 909), (12, 141, 10, 18, 921), (12, 144, 10, 34, 937), (12, 150, 10, 30, 933), (12, 157, 10, 35, 938), (12, 161, 10, 36, 939), (12, 164, 10, 37, 940)] : List (Nat × Nat × Nat × Nat × Nat))))))))), qFLp q
  exact List.forall_mem_append.mpr ⟨qFLo_c0, List.forall_mem_append.mpr ⟨qFLo_c1, List.forall_mem_append.mpr ⟨qFLo_c2, List.forall_mem_append.mpr ⟨qFLo_c3, List.forall_mem_append.mpr ⟨qFLo_c4, List.forall_mem_append.mpr ⟨qFLo_c5, List.forall_mem_append.mpr ⟨qFLo_c6, qFLo_c7⟩⟩⟩⟩⟩⟩⟩
def qCLp (q : Nat × Nat × Nat × Nat) : Prop := q.2.2.1 < 11 ∧ .classLink (qcn q.1) q.2.1 (qcN q.2.2.1) ∈ qtb
theorem qCLo_0 : qCLp ((0, 11, 8, 402)) := ⟨by decide +kernel, qt2 (p := 82) rfl rfl⟩
theorem qCLo_1 : qCLp ((1, 17, 8, 112)) := ⟨by decide +kernel, qt1 (p := 32) rfl rfl⟩
theorem qCLo_2 : qCLp ((1, 11, 7, 110)) := ⟨by decide +kernel, qt1 (p := 30) rfl rfl⟩
theorem qCLo_3 : qCLp ((1, 26, 0, 131)) := ⟨by decide +kernel, qt1 (p := 51) rfl rfl⟩
theorem qCLo_4 : qCLp ((3, 9, 6, 158)) := ⟨by decide +kernel, qt1 (p := 78) rfl rfl⟩
theorem qCLo_5 : qCLp ((3, 32, 4, 179)) := ⟨by decide +kernel, qt1 (p := 99) rfl rfl⟩
theorem qCLo_6 : qCLp ((4, 9, 5, 185)) := ⟨by decide +kernel, qt1 (p := 105) rfl rfl⟩
theorem qCLo_7 : qCLp ((4, 18, 2, 214)) := ⟨by decide +kernel, qt1 (p := 134) rfl rfl⟩
theorem qCLo_8 : qCLp ((8, 7, 8, 314)) := ⟨by decide +kernel, qt1 (p := 234) rfl rfl⟩
theorem qCLo_9 : qCLp ((11, 9, 1, 104)) := ⟨by decide +kernel, qt1 (p := 24) rfl rfl⟩
theorem qCLo_10 : qCLp ((11, 16, 3, 152)) := ⟨by decide +kernel, qt1 (p := 72) rfl rfl⟩
theorem qCLo_11 : qCLp ((13, 7, 9, 96)) := ⟨by decide +kernel, qt1 (p := 16) rfl rfl⟩
theorem qCLo_12 : qCLp ((13, 10, 10, 897)) := ⟨by decide +kernel, qt4 (p := 97) rfl rfl⟩
theorem qCLo_c0 : ∀ q ∈ ([(0, 11, 8, 402), (1, 17, 8, 112), (1, 11, 7, 110), (1, 26, 0, 131), (3, 9, 6, 158), (3, 32, 4, 179), (4, 9, 5, 185), (4, 18, 2, 214), (8, 7, 8, 314), (11, 9, 1, 104), (11, 16, 3, 152), (13, 7, 9, 96), (13, 10, 10, 897)] : List (Nat × Nat × Nat × Nat)), qCLp q := List.forall_mem_cons.mpr ⟨qCLo_0, List.forall_mem_cons.mpr ⟨qCLo_1, List.forall_mem_cons.mpr ⟨qCLo_2, List.forall_mem_cons.mpr ⟨qCLo_3, List.forall_mem_cons.mpr ⟨qCLo_4, List.forall_mem_cons.mpr ⟨qCLo_5, List.forall_mem_cons.mpr ⟨qCLo_6, List.forall_mem_cons.mpr ⟨qCLo_7, List.forall_mem_cons.mpr ⟨qCLo_8, List.forall_mem_cons.mpr ⟨qCLo_9, List.forall_mem_cons.mpr ⟨qCLo_10, List.forall_mem_cons.mpr ⟨qCLo_11, List.forall_mem_cons.mpr ⟨qCLo_12, fun _ h => absurd h List.not_mem_nil⟩⟩⟩⟩⟩⟩⟩⟩⟩⟩⟩⟩⟩
set_option maxRecDepth 100000 in
theorem qCL_ok : ∀ q ∈ qCLs, qCLp q := by
  show ∀ q ∈ ([(0, 11, 8, 402), (1, 17, 8, 112), (1, 11, 7, 110), (1, 26, 0, 131), (3, 9, 6, 158), (3, 32, 4, 179), (4, 9, 5, 185), (4, 18, 2, 214), (8, 7, 8, 314), (11, 9, 1, 104), (11, 16, 3, 152), (13, 7, 9, 96), (13, 10, 10, 897)] : List (Nat × Nat × Nat × Nat)), qCLp q
  exact qCLo_c0
def qacn (t : Nat) : String := cond (Nat.beq t 4) RX8 RX0
def qALp (q : Nat × Nat × Nat × Nat) : Prop := (q.2.2.1 = 4 ∨ q.2.2.1 = 5) ∧ .classLink (qcn q.1) q.2.1 (qacn q.2.2.1) ∈ qtb
theorem qALo_0 : qALp ((1, 11, 4, 110)) := ⟨by decide +kernel, qt1 (p := 30) rfl rfl⟩
theorem qALo_1 : qALp ((1, 26, 5, 131)) := ⟨by decide +kernel, qt1 (p := 51) rfl rfl⟩
theorem qALo_c0 : ∀ q ∈ ([(1, 11, 4, 110), (1, 26, 5, 131)] : List (Nat × Nat × Nat × Nat)), qALp q := List.forall_mem_cons.mpr ⟨qALo_0, List.forall_mem_cons.mpr ⟨qALo_1, fun _ h => absurd h List.not_mem_nil⟩⟩
set_option maxRecDepth 100000 in
theorem qAL_ok : ∀ q ∈ qALs, qALp q := by
  show ∀ q ∈ ([(1, 11, 4, 110), (1, 26, 5, 131)] : List (Nat × Nat × Nat × Nat)), qALp q
  exact qALo_c0
def qDLp (q : Nat × Nat × Nat × Nat) : Prop := .constantLong (qcn q.1) q.2.1 (qlc q.2.2.1) ∈ qtb
theorem qDLo_0 : qDLp ((1, 73, 0, 344)) := qt2 (p := 24) rfl rfl
theorem qDLo_1 : qDLp ((2, 80, 1, 618)) := qt3 (p := 58) rfl rfl
theorem qDLo_2 : qDLp ((4, 92, 2, 619)) := qt3 (p := 59) rfl rfl
theorem qDLo_3 : qDLp ((4, 126, 3, 613)) := qt3 (p := 53) rfl rfl
theorem qDLo_4 : qDLp ((4, 132, 4, 629)) := qt3 (p := 69) rfl rfl
theorem qDLo_5 : qDLp ((4, 138, 5, 635)) := qt3 (p := 75) rfl rfl
theorem qDLo_6 : qDLp ((4, 140, 0, 636)) := qt3 (p := 76) rfl rfl
theorem qDLo_7 : qDLp ((4, 216, 6, 721)) := qt3 (p := 161) rfl rfl
theorem qDLo_8 : qDLp ((4, 256, 7, 776)) := qt3 (p := 216) rfl rfl
theorem qDLo_9 : qDLp ((4, 280, 8, 668)) := qt3 (p := 108) rfl rfl
theorem qDLo_10 : qDLp ((4, 329, 9, 838)) := qt4 (p := 38) rfl rfl
theorem qDLo_11 : qDLp ((7, 67, 1, 855)) := qt4 (p := 55) rfl rfl
theorem qDLo_12 : qDLp ((9, 9, 10, 343)) := qt2 (p := 23) rfl rfl
theorem qDLo_13 : qDLp ((9, 15, 11, 707)) := qt3 (p := 147) rfl rfl
theorem qDLo_14 : qDLp ((9, 21, 4, 796)) := qt3 (p := 236) rfl rfl
theorem qDLo_15 : qDLp ((9, 23, 5, 797)) := qt3 (p := 237) rfl rfl
theorem qDLo_c0 : ∀ q ∈ ([(1, 73, 0, 344), (2, 80, 1, 618), (4, 92, 2, 619), (4, 126, 3, 613), (4, 132, 4, 629), (4, 138, 5, 635), (4, 140, 0, 636), (4, 216, 6, 721), (4, 256, 7, 776), (4, 280, 8, 668), (4, 329, 9, 838), (7, 67, 1, 855), (9, 9, 10, 343), (9, 15, 11, 707), (9, 21, 4, 796), (9, 23, 5, 797)] : List (Nat × Nat × Nat × Nat)), qDLp q := List.forall_mem_cons.mpr ⟨qDLo_0, List.forall_mem_cons.mpr ⟨qDLo_1, List.forall_mem_cons.mpr ⟨qDLo_2, List.forall_mem_cons.mpr ⟨qDLo_3, List.forall_mem_cons.mpr ⟨qDLo_4, List.forall_mem_cons.mpr ⟨qDLo_5, List.forall_mem_cons.mpr ⟨qDLo_6, List.forall_mem_cons.mpr ⟨qDLo_7, List.forall_mem_cons.mpr ⟨qDLo_8, List.forall_mem_cons.mpr ⟨qDLo_9, List.forall_mem_cons.mpr ⟨qDLo_10, List.forall_mem_cons.mpr ⟨qDLo_11, List.forall_mem_cons.mpr ⟨qDLo_12, List.forall_mem_cons.mpr ⟨qDLo_13, List.forall_mem_cons.mpr ⟨qDLo_14, List.forall_mem_cons.mpr ⟨qDLo_15, fun _ h => absurd h List.not_mem_nil⟩⟩⟩⟩⟩⟩⟩⟩⟩⟩⟩⟩⟩⟩⟩⟩
theorem qDLo_16 : qDLp ((12, 101, 10, 1037)) := qt4 (p := 237) rfl rfl
theorem qDLo_17 : qDLp ((12, 118, 11, 1161)) := qt5 (p := 121) rfl rfl
theorem qDLo_18 : qDLp ((12, 182, 4, 1192)) := qt5 (p := 152) rfl rfl
theorem qDLo_19 : qDLp ((12, 184, 2, 1130)) := qt5 (p := 90) rfl rfl
theorem qDLo_20 : qDLp ((12, 186, 5, 1193)) := qt5 (p := 153) rfl rfl
theorem qDLo_21 : qDLp ((12, 230, 12, 1194)) := qt5 (p := 154) rfl rfl
theorem qDLo_22 : qDLp ((12, 232, 0, 1131)) := qt5 (p := 91) rfl rfl
theorem qDLo_23 : qDLp ((12, 234, 9, 1203)) := qt5 (p := 163) rfl rfl
theorem qDLo_24 : qDLp ((12, 236, 13, 1125)) := qt5 (p := 85) rfl rfl
theorem qDLo_25 : qDLp ((12, 270, 1, 1216)) := qt5 (p := 176) rfl rfl
theorem qDLo_26 : qDLp ((12, 295, 6, 1238)) := qt5 (p := 198) rfl rfl
theorem qDLo_27 : qDLp ((13, 18, 14, 1239)) := qt5 (p := 199) rfl rfl
theorem qDLo_c1 : ∀ q ∈ ([(12, 101, 10, 1037), (12, 118, 11, 1161), (12, 182, 4, 1192), (12, 184, 2, 1130), (12, 186, 5, 1193), (12, 230, 12, 1194), (12, 232, 0, 1131), (12, 234, 9, 1203), (12, 236, 13, 1125), (12, 270, 1, 1216), (12, 295, 6, 1238), (13, 18, 14, 1239)] : List (Nat × Nat × Nat × Nat)), qDLp q := List.forall_mem_cons.mpr ⟨qDLo_16, List.forall_mem_cons.mpr ⟨qDLo_17, List.forall_mem_cons.mpr ⟨qDLo_18, List.forall_mem_cons.mpr ⟨qDLo_19, List.forall_mem_cons.mpr ⟨qDLo_20, List.forall_mem_cons.mpr ⟨qDLo_21, List.forall_mem_cons.mpr ⟨qDLo_22, List.forall_mem_cons.mpr ⟨qDLo_23, List.forall_mem_cons.mpr ⟨qDLo_24, List.forall_mem_cons.mpr ⟨qDLo_25, List.forall_mem_cons.mpr ⟨qDLo_26, List.forall_mem_cons.mpr ⟨qDLo_27, fun _ h => absurd h List.not_mem_nil⟩⟩⟩⟩⟩⟩⟩⟩⟩⟩⟩⟩
set_option maxRecDepth 100000 in
theorem qDL_ok : ∀ q ∈ qDLs, qDLp q := by
  show ∀ q ∈ ([(1, 73, 0, 344), (2, 80, 1, 618), (4, 92, 2, 619), (4, 126, 3, 613), (4, 132, 4, 629), (4, 138, 5, 635), (4, 140, 0, 636), (4, 216, 6, 721), (4, 256, 7, 776), (4, 280, 8, 668), (4, 329, 9, 838), (7, 67, 1, 855), (9, 9, 10, 343), (9, 15, 11, 707), (9, 21, 4, 796), (9, 23, 5, 797)] : List (Nat × Nat × Nat × Nat)) ++ (([(12, 101, 10, 1037), (12, 118, 11, 1161), (12, 182, 4, 1192), (12, 184, 2, 1130), (12, 186, 5, 1193), (12, 230, 12, 1194), (12, 232, 0, 1131), (12, 234, 9, 1203), (12, 236, 13, 1125), (12, 270, 1, 1216), (12, 295, 6, 1238), (13, 18, 14, 1239)] : List (Nat × Nat × Nat × Nat))), qDLp q
  exact List.forall_mem_append.mpr ⟨qDLo_c0, qDLo_c1⟩
def qmnm (r1 : Nat) : MethodName := cond (Nat.beq r1 1000) Lib.Math.min.name (cond (Nat.beq r1 1001) arraycopyName (cond (Nat.beq r1 1002) Lib.objectInit (qyn r1)))
def qnest : List Jvm.Cond := [.methodLinkNest (qcn 3) 11 (qmnm 93) "AbilityChecker", .methodLinkNest (qcn 4) 11 (qmnm 86) "AbilityChecker", .methodLinkNest (qcn 4) 20 (qmnm 22) "AbilityChecker", .methodLinkNest (qcn 11) 11 (qmnm 8) "AbilityChecker"]
def qMLp (q : Nat × Nat × Nat × Nat × Nat) : Prop := (q.2.2.2.1 = 0 ∧ .methodLink (qcn q.1) q.2.1 (qmnm q.2.2.1) ∈ qtb) ∨ (q.2.2.2.1 = 1 ∧ .methodLinkNest (qcn q.1) q.2.1 (qmnm q.2.2.1) "AbilityChecker" ∈ qnest)
theorem qMLo_0 : qMLp ((0, 5, 1002, 0, 401)) := Or.inl ⟨rfl, qt2 (p := 81) rfl rfl⟩
theorem qMLo_1 : qMLp ((0, 13, 116, 0, 403)) := Or.inl ⟨rfl, qt2 (p := 83) rfl rfl⟩
theorem qMLo_2 : qMLp ((0, 40, 117, 0, 456)) := Or.inl ⟨rfl, qt2 (p := 136) rfl rfl⟩
theorem qMLo_3 : qMLp ((0, 50, 5, 0, 574)) := Or.inl ⟨rfl, qt3 (p := 14) rfl rfl⟩
theorem qMLo_4 : qMLp ((0, 54, 119, 0, 506)) := Or.inl ⟨rfl, qt2 (p := 186) rfl rfl⟩
theorem qMLo_5 : qMLp ((1, 3, 1002, 0, 109)) := Or.inl ⟨rfl, qt1 (p := 29) rfl rfl⟩
theorem qMLo_6 : qMLp ((1, 19, 116, 0, 114)) := Or.inl ⟨rfl, qt1 (p := 34) rfl rfl⟩
theorem qMLo_7 : qMLp ((1, 36, 106, 0, 310)) := Or.inl ⟨rfl, qt1 (p := 230) rfl rfl⟩
theorem qMLo_8 : qMLp ((1, 40, 0, 0, 398)) := Or.inl ⟨rfl, qt2 (p := 78) rfl rfl⟩
theorem qMLo_9 : qMLp ((1, 41, 11, 0, 345)) := Or.inl ⟨rfl, qt2 (p := 25) rfl rfl⟩
theorem qMLo_10 : qMLp ((1, 45, 13, 0, 448)) := Or.inl ⟨rfl, qt2 (p := 128) rfl rfl⟩
theorem qMLo_11 : qMLp ((1, 52, 118, 0, 579)) := Or.inl ⟨rfl, qt3 (p := 19) rfl rfl⟩
theorem qMLo_12 : qMLp ((1, 59, 119, 0, 376)) := Or.inl ⟨rfl, qt2 (p := 56) rfl rfl⟩
theorem qMLo_13 : qMLp ((1, 65, 107, 0, 334)) := Or.inl ⟨rfl, qt2 (p := 14) rfl rfl⟩
theorem qMLo_14 : qMLp ((1, 69, 113, 0, 337)) := Or.inl ⟨rfl, qt2 (p := 17) rfl rfl⟩
theorem qMLo_15 : qMLp ((1, 75, 108, 0, 366)) := Or.inl ⟨rfl, qt2 (p := 46) rfl rfl⟩
theorem qMLo_c0 : ∀ q ∈ ([(0, 5, 1002, 0, 401), (0, 13, 116, 0, 403), (0, 40, 117, 0, 456), (0, 50, 5, 0, 574), (0, 54, 119, 0, 506), (1, 3, 1002, 0, 109), (1, 19, 116, 0, 114), (1, 36, 106, 0, 310), (1, 40, 0, 0, 398), (1, 41, 11, 0, 345), (1, 45, 13, 0, 448), (1, 52, 118, 0, 579), (1, 59, 119, 0, 376), (1, 65, 107, 0, 334), (1, 69, 113, 0, 337), (1, 75, 108, 0, 366)] : List (Nat × Nat × Nat × Nat × Nat)), qMLp q := List.forall_mem_cons.mpr ⟨qMLo_0, List.forall_mem_cons.mpr ⟨qMLo_1, List.forall_mem_cons.mpr ⟨qMLo_2, List.forall_mem_cons.mpr ⟨qMLo_3, List.forall_mem_cons.mpr ⟨qMLo_4, List.forall_mem_cons.mpr ⟨qMLo_5, List.forall_mem_cons.mpr ⟨qMLo_6, List.forall_mem_cons.mpr ⟨qMLo_7, List.forall_mem_cons.mpr ⟨qMLo_8, List.forall_mem_cons.mpr ⟨qMLo_9, List.forall_mem_cons.mpr ⟨qMLo_10, List.forall_mem_cons.mpr ⟨qMLo_11, List.forall_mem_cons.mpr ⟨qMLo_12, List.forall_mem_cons.mpr ⟨qMLo_13, List.forall_mem_cons.mpr ⟨qMLo_14, List.forall_mem_cons.mpr ⟨qMLo_15, fun _ h => absurd h List.not_mem_nil⟩⟩⟩⟩⟩⟩⟩⟩⟩⟩⟩⟩⟩⟩⟩⟩
theorem qMLo_16 : qMLp ((1, 82, 19, 0, 384)) := Or.inl ⟨rfl, qt2 (p := 64) rfl rfl⟩
theorem qMLo_17 : qMLp ((2, 3, 1002, 0, 219)) := Or.inl ⟨rfl, qt1 (p := 139) rfl rfl⟩
theorem qMLo_18 : qMLp ((2, 17, 5, 0, 495)) := Or.inl ⟨rfl, qt2 (p := 175) rfl rfl⟩
theorem qMLo_19 : qMLp ((2, 21, 1000, 0, 499)) := Or.inl ⟨rfl, qt2 (p := 179) rfl rfl⟩
theorem qMLo_20 : qMLp ((2, 44, 7, 0, 502)) := Or.inl ⟨rfl, qt2 (p := 182) rfl rfl⟩
theorem qMLo_21 : qMLp ((2, 48, 20, 0, 507)) := Or.inl ⟨rfl, qt2 (p := 187) rfl rfl⟩
theorem qMLo_22 : qMLp ((2, 54, 24, 0, 511)) := Or.inl ⟨rfl, qt2 (p := 191) rfl rfl⟩
theorem qMLo_23 : qMLp ((2, 57, 113, 0, 514)) := Or.inl ⟨rfl, qt2 (p := 194) rfl rfl⟩
theorem qMLo_24 : qMLp ((2, 63, 114, 0, 515)) := Or.inl ⟨rfl, qt2 (p := 195) rfl rfl⟩
theorem qMLo_25 : qMLp ((2, 73, 26, 0, 518)) := Or.inl ⟨rfl, qt2 (p := 198) rfl rfl⟩
theorem qMLo_26 : qMLp ((2, 76, 30, 0, 522)) := Or.inl ⟨rfl, qt2 (p := 202) rfl rfl⟩
theorem qMLo_27 : qMLp ((3, 3, 1002, 0, 157)) := Or.inl ⟨rfl, qt1 (p := 77) rfl rfl⟩
theorem qMLo_28 : qMLp ((3, 11, 93, 1, 160)) := Or.inr ⟨rfl, List.mem_of_getElem? (i := 0) rfl⟩
theorem qMLo_29 : qMLp ((3, 34, 43, 0, 181)) := Or.inl ⟨rfl, qt1 (p := 101) rfl rfl⟩
theorem qMLo_30 : qMLp ((3, 49, 4, 0, 543)) := Or.inl ⟨rfl, qt2 (p := 223) rfl rfl⟩
theorem qMLo_31 : qMLp ((3, 53, 6, 0, 570)) := Or.inl ⟨rfl, qt3 (p := 10) rfl rfl⟩
theorem qMLo_c1 : ∀ q ∈ ([(1, 82, 19, 0, 384), (2, 3, 1002, 0, 219), (2, 17, 5, 0, 495), (2, 21, 1000, 0, 499), (2, 44, 7, 0, 502), (2, 48, 20, 0, 507), (2, 54, 24, 0, 511), (2, 57, 113, 0, 514), (2, 63, 114, 0, 515), (2, 73, 26, 0, 518), (2, 76, 30, 0, 522), (3, 3, 1002, 0, 157), (3, 11, 93, 1, 160), (3, 34, 43, 0, 181), (3, 49, 4, 0, 543), (3, 53, 6, 0, 570)] : List (Nat × Nat × Nat × Nat × Nat)), qMLp q := List.forall_mem_cons.mpr ⟨qMLo_16, List.forall_mem_cons.mpr ⟨qMLo_17, List.forall_mem_cons.mpr ⟨qMLo_18, List.forall_mem_cons.mpr ⟨qMLo_19, List.forall_mem_cons.mpr ⟨qMLo_20, List.forall_mem_cons.mpr ⟨qMLo_21, List.forall_mem_cons.mpr ⟨qMLo_22, List.forall_mem_cons.mpr ⟨qMLo_23, List.forall_mem_cons.mpr ⟨qMLo_24, List.forall_mem_cons.mpr ⟨qMLo_25, List.forall_mem_cons.mpr ⟨qMLo_26, List.forall_mem_cons.mpr ⟨qMLo_27, List.forall_mem_cons.mpr ⟨qMLo_28, List.forall_mem_cons.mpr ⟨qMLo_29, List.forall_mem_cons.mpr ⟨qMLo_30, List.forall_mem_cons.mpr ⟨qMLo_31, fun _ h => absurd h List.not_mem_nil⟩⟩⟩⟩⟩⟩⟩⟩⟩⟩⟩⟩⟩⟩⟩⟩
theorem qMLo_32 : qMLp ((3, 56, 39, 0, 486)) := Or.inl ⟨rfl, qt2 (p := 166) rfl rfl⟩
theorem qMLo_33 : qMLp ((3, 63, 40, 0, 547)) := Or.inl ⟨rfl, qt2 (p := 227) rfl rfl⟩
theorem qMLo_34 : qMLp ((3, 67, 44, 0, 583)) := Or.inl ⟨rfl, qt3 (p := 23) rfl rfl⟩
theorem qMLo_35 : qMLp ((3, 70, 42, 0, 843)) := Or.inl ⟨rfl, qt4 (p := 43) rfl rfl⟩
theorem qMLo_36 : qMLp ((3, 73, 34, 0, 490)) := Or.inl ⟨rfl, qt2 (p := 170) rfl rfl⟩
theorem qMLo_37 : qMLp ((3, 83, 23, 0, 491)) := Or.inl ⟨rfl, qt2 (p := 171) rfl rfl⟩
theorem qMLo_38 : qMLp ((3, 88, 94, 0, 526)) := Or.inl ⟨rfl, qt2 (p := 206) rfl rfl⟩
theorem qMLo_39 : qMLp ((3, 95, 85, 0, 540)) := Or.inl ⟨rfl, qt2 (p := 220) rfl rfl⟩
theorem qMLo_40 : qMLp ((3, 103, 95, 0, 551)) := Or.inl ⟨rfl, qt2 (p := 231) rfl rfl⟩
theorem qMLo_41 : qMLp ((3, 110, 87, 0, 558)) := Or.inl ⟨rfl, qt2 (p := 238) rfl rfl⟩
theorem qMLo_42 : qMLp ((3, 118, 99, 0, 562)) := Or.inl ⟨rfl, qt3 (p := 2) rfl rfl⟩
theorem qMLo_43 : qMLp ((3, 122, 41, 0, 566)) := Or.inl ⟨rfl, qt3 (p := 6) rfl rfl⟩
theorem qMLo_44 : qMLp ((3, 129, 15, 0, 575)) := Or.inl ⟨rfl, qt3 (p := 15) rfl rfl⟩
theorem qMLo_45 : qMLp ((3, 135, 11, 0, 580)) := Or.inl ⟨rfl, qt3 (p := 20) rfl rfl⟩
theorem qMLo_46 : qMLp ((3, 139, 13, 0, 581)) := Or.inl ⟨rfl, qt3 (p := 21) rfl rfl⟩
theorem qMLo_47 : qMLp ((3, 147, 118, 0, 582)) := Or.inl ⟨rfl, qt3 (p := 22) rfl rfl⟩
theorem qMLo_c2 : ∀ q ∈ ([(3, 56, 39, 0, 486), (3, 63, 40, 0, 547), (3, 67, 44, 0, 583), (3, 70, 42, 0, 843), (3, 73, 34, 0, 490), (3, 83, 23, 0, 491), (3, 88, 94, 0, 526), (3, 95, 85, 0, 540), (3, 103, 95, 0, 551), (3, 110, 87, 0, 558), (3, 118, 99, 0, 562), (3, 122, 41, 0, 566), (3, 129, 15, 0, 575), (3, 135, 11, 0, 580), (3, 139, 13, 0, 581), (3, 147, 118, 0, 582)] : List (Nat × Nat × Nat × Nat × Nat)), qMLp q := List.forall_mem_cons.mpr ⟨qMLo_32, List.forall_mem_cons.mpr ⟨qMLo_33, List.forall_mem_cons.mpr ⟨qMLo_34, List.forall_mem_cons.mpr ⟨qMLo_35, List.forall_mem_cons.mpr ⟨qMLo_36, List.forall_mem_cons.mpr ⟨qMLo_37, List.forall_mem_cons.mpr ⟨qMLo_38, List.forall_mem_cons.mpr ⟨qMLo_39, List.forall_mem_cons.mpr ⟨qMLo_40, List.forall_mem_cons.mpr ⟨qMLo_41, List.forall_mem_cons.mpr ⟨qMLo_42, List.forall_mem_cons.mpr ⟨qMLo_43, List.forall_mem_cons.mpr ⟨qMLo_44, List.forall_mem_cons.mpr ⟨qMLo_45, List.forall_mem_cons.mpr ⟨qMLo_46, List.forall_mem_cons.mpr ⟨qMLo_47, fun _ h => absurd h List.not_mem_nil⟩⟩⟩⟩⟩⟩⟩⟩⟩⟩⟩⟩⟩⟩⟩⟩
theorem qMLo_48 : qMLp ((3, 152, 100, 0, 847)) := Or.inl ⟨rfl, qt4 (p := 47) rfl rfl⟩
theorem qMLo_49 : qMLp ((4, 3, 1002, 0, 184)) := Or.inl ⟨rfl, qt1 (p := 104) rfl rfl⟩
theorem qMLo_50 : qMLp ((4, 11, 86, 1, 187)) := Or.inr ⟨rfl, List.mem_of_getElem? (i := 1) rfl⟩
theorem qMLo_51 : qMLp ((4, 20, 22, 1, 216)) := Or.inr ⟨rfl, List.mem_of_getElem? (i := 2) rfl⟩
theorem qMLo_52 : qMLp ((4, 58, 45, 0, 587)) := Or.inl ⟨rfl, qt3 (p := 27) rfl rfl⟩
theorem qMLo_53 : qMLp ((4, 62, 48, 0, 625)) := Or.inl ⟨rfl, qt3 (p := 65) rfl rfl⟩
theorem qMLo_54 : qMLp ((4, 65, 49, 0, 637)) := Or.inl ⟨rfl, qt3 (p := 77) rfl rfl⟩
theorem qMLo_55 : qMLp ((4, 68, 54, 0, 696)) := Or.inl ⟨rfl, qt3 (p := 136) rfl rfl⟩
theorem qMLo_56 : qMLp ((4, 71, 59, 0, 738)) := Or.inl ⟨rfl, qt3 (p := 178) rfl rfl⟩
theorem qMLo_57 : qMLp ((4, 74, 67, 0, 781)) := Or.inl ⟨rfl, qt3 (p := 221) rfl rfl⟩
theorem qMLo_58 : qMLp ((4, 77, 73, 0, 809)) := Or.inl ⟨rfl, qt4 (p := 9) rfl rfl⟩
theorem qMLo_59 : qMLp ((4, 80, 75, 0, 817)) := Or.inl ⟨rfl, qt4 (p := 17) rfl rfl⟩
theorem qMLo_60 : qMLp ((4, 83, 46, 0, 591)) := Or.inl ⟨rfl, qt3 (p := 31) rfl rfl⟩
theorem qMLo_61 : qMLp ((4, 87, 47, 0, 600)) := Or.inl ⟨rfl, qt3 (p := 40) rfl rfl⟩
theorem qMLo_62 : qMLp ((4, 94, 90, 0, 620)) := Or.inl ⟨rfl, qt3 (p := 60) rfl rfl⟩
theorem qMLo_63 : qMLp ((4, 101, 89, 0, 595)) := Or.inl ⟨rfl, qt3 (p := 35) rfl rfl⟩
theorem qMLo_c3 : ∀ q ∈ ([(3, 152, 100, 0, 847), (4, 3, 1002, 0, 184), (4, 11, 86, 1, 187), (4, 20, 22, 1, 216), (4, 58, 45, 0, 587), (4, 62, 48, 0, 625), (4, 65, 49, 0, 637), (4, 68, 54, 0, 696), (4, 71, 59, 0, 738), (4, 74, 67, 0, 781), (4, 77, 73, 0, 809), (4, 80, 75, 0, 817), (4, 83, 46, 0, 591), (4, 87, 47, 0, 600), (4, 94, 90, 0, 620), (4, 101, 89, 0, 595)] : List (Nat × Nat × Nat × Nat × Nat)), qMLp q := List.forall_mem_cons.mpr ⟨qMLo_48, List.forall_mem_cons.mpr ⟨qMLo_49, List.forall_mem_cons.mpr ⟨qMLo_50, List.forall_mem_cons.mpr ⟨qMLo_51, List.forall_mem_cons.mpr ⟨qMLo_52, List.forall_mem_cons.mpr ⟨qMLo_53, List.forall_mem_cons.mpr ⟨qMLo_54, List.forall_mem_cons.mpr ⟨qMLo_55, List.forall_mem_cons.mpr ⟨qMLo_56, List.forall_mem_cons.mpr ⟨qMLo_57, List.forall_mem_cons.mpr ⟨qMLo_58, List.forall_mem_cons.mpr ⟨qMLo_59, List.forall_mem_cons.mpr ⟨qMLo_60, List.forall_mem_cons.mpr ⟨qMLo_61, List.forall_mem_cons.mpr ⟨qMLo_62, List.forall_mem_cons.mpr ⟨qMLo_63, fun _ h => absurd h List.not_mem_nil⟩⟩⟩⟩⟩⟩⟩⟩⟩⟩⟩⟩⟩⟩⟩⟩
theorem qMLo_64 : qMLp ((4, 108, 20, 0, 599)) := Or.inl ⟨rfl, qt3 (p := 39) rfl rfl⟩
theorem qMLo_65 : qMLp ((4, 118, 91, 0, 604)) := Or.inl ⟨rfl, qt3 (p := 44) rfl rfl⟩
theorem qMLo_66 : qMLp ((4, 122, 92, 0, 609)) := Or.inl ⟨rfl, qt3 (p := 49) rfl rfl⟩
theorem qMLo_67 : qMLp ((4, 128, 28, 0, 614)) := Or.inl ⟨rfl, qt3 (p := 54) rfl rfl⟩
theorem qMLo_68 : qMLp ((4, 134, 88, 0, 630)) := Or.inl ⟨rfl, qt3 (p := 70) rfl rfl⟩
theorem qMLo_69 : qMLp ((4, 142, 52, 0, 641)) := Or.inl ⟨rfl, qt3 (p := 81) rfl rfl⟩
theorem qMLo_70 : qMLp ((4, 145, 25, 0, 646)) := Or.inl ⟨rfl, qt3 (p := 86) rfl rfl⟩
theorem qMLo_71 : qMLp ((4, 149, 50, 0, 670)) := Or.inl ⟨rfl, qt3 (p := 110) rfl rfl⟩
theorem qMLo_72 : qMLp ((4, 152, 51, 0, 678)) := Or.inl ⟨rfl, qt3 (p := 118) rfl rfl⟩
theorem qMLo_73 : qMLp ((4, 155, 53, 0, 686)) := Or.inl ⟨rfl, qt3 (p := 126) rfl rfl⟩
theorem qMLo_74 : qMLp ((4, 159, 7, 0, 645)) := Or.inl ⟨rfl, qt3 (p := 85) rfl rfl⟩
theorem qMLo_75 : qMLp ((4, 162, 26, 0, 654)) := Or.inl ⟨rfl, qt3 (p := 94) rfl rfl⟩
theorem qMLo_76 : qMLp ((4, 165, 24, 0, 655)) := Or.inl ⟨rfl, qt3 (p := 95) rfl rfl⟩
theorem qMLo_77 : qMLp ((4, 168, 83, 0, 656)) := Or.inl ⟨rfl, qt3 (p := 96) rfl rfl⟩
theorem qMLo_78 : qMLp ((4, 172, 29, 0, 674)) := Or.inl ⟨rfl, qt3 (p := 114) rfl rfl⟩
theorem qMLo_79 : qMLp ((4, 175, 31, 0, 682)) := Or.inl ⟨rfl, qt3 (p := 122) rfl rfl⟩
theorem qMLo_c4 : ∀ q ∈ ([(4, 108, 20, 0, 599), (4, 118, 91, 0, 604), (4, 122, 92, 0, 609), (4, 128, 28, 0, 614), (4, 134, 88, 0, 630), (4, 142, 52, 0, 641), (4, 145, 25, 0, 646), (4, 149, 50, 0, 670), (4, 152, 51, 0, 678), (4, 155, 53, 0, 686), (4, 159, 7, 0, 645), (4, 162, 26, 0, 654), (4, 165, 24, 0, 655), (4, 168, 83, 0, 656), (4, 172, 29, 0, 674), (4, 175, 31, 0, 682)] : List (Nat × Nat × Nat × Nat × Nat)), qMLp q := List.forall_mem_cons.mpr ⟨qMLo_64, List.forall_mem_cons.mpr ⟨qMLo_65, List.forall_mem_cons.mpr ⟨qMLo_66, List.forall_mem_cons.mpr ⟨qMLo_67, List.forall_mem_cons.mpr ⟨qMLo_68, List.forall_mem_cons.mpr ⟨qMLo_69, List.forall_mem_cons.mpr ⟨qMLo_70, List.forall_mem_cons.mpr ⟨qMLo_71, List.forall_mem_cons.mpr ⟨qMLo_72, List.forall_mem_cons.mpr ⟨qMLo_73, List.forall_mem_cons.mpr ⟨qMLo_74, List.forall_mem_cons.mpr ⟨qMLo_75, List.forall_mem_cons.mpr ⟨qMLo_76, List.forall_mem_cons.mpr ⟨qMLo_77, List.forall_mem_cons.mpr ⟨qMLo_78, List.forall_mem_cons.mpr ⟨qMLo_79, fun _ h => absurd h List.not_mem_nil⟩⟩⟩⟩⟩⟩⟩⟩⟩⟩⟩⟩⟩⟩⟩⟩
theorem qMLo_80 : qMLp ((4, 179, 27, 0, 650)) := Or.inl ⟨rfl, qt3 (p := 90) rfl rfl⟩
theorem qMLo_81 : qMLp ((4, 185, 30, 0, 669)) := Or.inl ⟨rfl, qt3 (p := 109) rfl rfl⟩
theorem qMLo_82 : qMLp ((4, 189, 111, 0, 690)) := Or.inl ⟨rfl, qt3 (p := 130) rfl rfl⟩
theorem qMLo_83 : qMLp ((4, 193, 55, 0, 700)) := Or.inl ⟨rfl, qt3 (p := 140) rfl rfl⟩
theorem qMLo_84 : qMLp ((4, 196, 56, 0, 722)) := Or.inl ⟨rfl, qt3 (p := 162) rfl rfl⟩
theorem qMLo_85 : qMLp ((4, 199, 57, 0, 726)) := Or.inl ⟨rfl, qt3 (p := 166) rfl rfl⟩
theorem qMLo_86 : qMLp ((4, 202, 58, 0, 734)) := Or.inl ⟨rfl, qt3 (p := 174) rfl rfl⟩
theorem qMLo_87 : qMLp ((4, 205, 112, 0, 704)) := Or.inl ⟨rfl, qt3 (p := 144) rfl rfl⟩
theorem qMLo_88 : qMLp ((4, 208, 81, 0, 708)) := Or.inl ⟨rfl, qt3 (p := 148) rfl rfl⟩
theorem qMLo_89 : qMLp ((4, 212, 17, 0, 717)) := Or.inl ⟨rfl, qt3 (p := 157) rfl rfl⟩
theorem qMLo_90 : qMLp ((4, 218, 109, 0, 713)) := Or.inl ⟨rfl, qt3 (p := 153) rfl rfl⟩
theorem qMLo_91 : qMLp ((4, 222, 82, 0, 730)) := Or.inl ⟨rfl, qt3 (p := 170) rfl rfl⟩
theorem qMLo_92 : qMLp ((4, 225, 60, 0, 742)) := Or.inl ⟨rfl, qt3 (p := 182) rfl rfl⟩
theorem qMLo_93 : qMLp ((4, 228, 61, 0, 750)) := Or.inl ⟨rfl, qt3 (p := 190) rfl rfl⟩
theorem qMLo_94 : qMLp ((4, 231, 62, 0, 754)) := Or.inl ⟨rfl, qt3 (p := 194) rfl rfl⟩
theorem qMLo_95 : qMLp ((4, 234, 16, 0, 746)) := Or.inl ⟨rfl, qt3 (p := 186) rfl rfl⟩
theorem qMLo_c5 : ∀ q ∈ ([(4, 179, 27, 0, 650), (4, 185, 30, 0, 669), (4, 189, 111, 0, 690), (4, 193, 55, 0, 700), (4, 196, 56, 0, 722), (4, 199, 57, 0, 726), (4, 202, 58, 0, 734), (4, 205, 112, 0, 704), (4, 208, 81, 0, 708), (4, 212, 17, 0, 717), (4, 218, 109, 0, 713), (4, 222, 82, 0, 730), (4, 225, 60, 0, 742), (4, 228, 61, 0, 750), (4, 231, 62, 0, 754), (4, 234, 16, 0, 746)] : List (Nat × Nat × Nat × Nat × Nat)), qMLp q := List.forall_mem_cons.mpr ⟨qMLo_80, List.forall_mem_cons.mpr ⟨qMLo_81, List.forall_mem_cons.mpr ⟨qMLo_82, List.forall_mem_cons.mpr ⟨qMLo_83, List.forall_mem_cons.mpr ⟨qMLo_84, List.forall_mem_cons.mpr ⟨qMLo_85, List.forall_mem_cons.mpr ⟨qMLo_86, List.forall_mem_cons.mpr ⟨qMLo_87, List.forall_mem_cons.mpr ⟨qMLo_88, List.forall_mem_cons.mpr ⟨qMLo_89, List.forall_mem_cons.mpr ⟨qMLo_90, List.forall_mem_cons.mpr ⟨qMLo_91, List.forall_mem_cons.mpr ⟨qMLo_92, List.forall_mem_cons.mpr ⟨qMLo_93, List.forall_mem_cons.mpr ⟨qMLo_94, List.forall_mem_cons.mpr ⟨qMLo_95, fun _ h => absurd h List.not_mem_nil⟩⟩⟩⟩⟩⟩⟩⟩⟩⟩⟩⟩⟩⟩⟩⟩
theorem qMLo_96 : qMLp ((4, 237, 13, 0, 758)) := Or.inl ⟨rfl, qt3 (p := 198) rfl rfl⟩
theorem qMLo_97 : qMLp ((4, 241, 63, 0, 759)) := Or.inl ⟨rfl, qt3 (p := 199) rfl rfl⟩
theorem qMLo_98 : qMLp ((4, 245, 3, 0, 764)) := Or.inl ⟨rfl, qt3 (p := 204) rfl rfl⟩
theorem qMLo_99 : qMLp ((4, 248, 64, 0, 768)) := Or.inl ⟨rfl, qt3 (p := 208) rfl rfl⟩
theorem qMLo_100 : qMLp ((4, 252, 65, 0, 772)) := Or.inl ⟨rfl, qt3 (p := 212) rfl rfl⟩
theorem qMLo_101 : qMLp ((4, 258, 66, 0, 777)) := Or.inl ⟨rfl, qt3 (p := 217) rfl rfl⟩
theorem qMLo_102 : qMLp ((4, 270, 119, 0, 763)) := Or.inl ⟨rfl, qt3 (p := 203) rfl rfl⟩
theorem qMLo_103 : qMLp ((4, 273, 84, 0, 660)) := Or.inl ⟨rfl, qt3 (p := 100) rfl rfl⟩
theorem qMLo_104 : qMLp ((4, 276, 114, 0, 716)) := Or.inl ⟨rfl, qt3 (p := 156) rfl rfl⟩
theorem qMLo_105 : qMLp ((4, 282, 113, 0, 712)) := Or.inl ⟨rfl, qt3 (p := 152) rfl rfl⟩
theorem qMLo_106 : qMLp ((4, 284, 70, 0, 785)) := Or.inl ⟨rfl, qt3 (p := 225) rfl rfl⟩
theorem qMLo_107 : qMLp ((4, 287, 71, 0, 798)) := Or.inl ⟨rfl, qt3 (p := 238) rfl rfl⟩
theorem qMLo_108 : qMLp ((4, 290, 72, 0, 802)) := Or.inl ⟨rfl, qt4 (p := 2) rfl rfl⟩
theorem qMLo_109 : qMLp ((4, 293, 69, 0, 789)) := Or.inl ⟨rfl, qt3 (p := 229) rfl rfl⟩
theorem qMLo_110 : qMLp ((4, 296, 68, 0, 806)) := Or.inl ⟨rfl, qt4 (p := 6) rfl rfl⟩
theorem qMLo_111 : qMLp ((4, 299, 115, 0, 793)) := Or.inl ⟨rfl, qt3 (p := 233) rfl rfl⟩
theorem qMLo_c6 : ∀ q ∈ ([(4, 237, 13, 0, 758), (4, 241, 63, 0, 759), (4, 245, 3, 0, 764), (4, 248, 64, 0, 768), (4, 252, 65, 0, 772), (4, 258, 66, 0, 777), (4, 270, 119, 0, 763), (4, 273, 84, 0, 660), (4, 276, 114, 0, 716), (4, 282, 113, 0, 712), (4, 284, 70, 0, 785), (4, 287, 71, 0, 798), (4, 290, 72, 0, 802), (4, 293, 69, 0, 789), (4, 296, 68, 0, 806), (4, 299, 115, 0, 793)] : List (Nat × Nat × Nat × Nat × Nat)), qMLp q := List.forall_mem_cons.mpr ⟨qMLo_96, List.forall_mem_cons.mpr ⟨qMLo_97, List.forall_mem_cons.mpr ⟨qMLo_98, List.forall_mem_cons.mpr ⟨qMLo_99, List.forall_mem_cons.mpr ⟨qMLo_100, List.forall_mem_cons.mpr ⟨qMLo_101, List.forall_mem_cons.mpr ⟨qMLo_102, List.forall_mem_cons.mpr ⟨qMLo_103, List.forall_mem_cons.mpr ⟨qMLo_104, List.forall_mem_cons.mpr ⟨qMLo_105, List.forall_mem_cons.mpr ⟨qMLo_106, List.forall_mem_cons.mpr ⟨qMLo_107, List.forall_mem_cons.mpr ⟨qMLo_108, List.forall_mem_cons.mpr ⟨qMLo_109, List.forall_mem_cons.mpr ⟨qMLo_110, List.forall_mem_cons.mpr ⟨qMLo_111, fun _ h => absurd h List.not_mem_nil⟩⟩⟩⟩⟩⟩⟩⟩⟩⟩⟩⟩⟩⟩⟩⟩
theorem qMLo_112 : qMLp ((4, 302, 74, 0, 813)) := Or.inl ⟨rfl, qt4 (p := 13) rfl rfl⟩
theorem qMLo_113 : qMLp ((4, 309, 76, 0, 821)) := Or.inl ⟨rfl, qt4 (p := 21) rfl rfl⟩
theorem qMLo_114 : qMLp ((4, 312, 77, 0, 826)) := Or.inl ⟨rfl, qt4 (p := 26) rfl rfl⟩
theorem qMLo_115 : qMLp ((4, 315, 78, 0, 830)) := Or.inl ⟨rfl, qt4 (p := 30) rfl rfl⟩
theorem qMLo_116 : qMLp ((4, 318, 80, 0, 834)) := Or.inl ⟨rfl, qt4 (p := 34) rfl rfl⟩
theorem qMLo_117 : qMLp ((4, 321, 79, 0, 839)) := Or.inl ⟨rfl, qt4 (p := 39) rfl rfl⟩
theorem qMLo_118 : qMLp ((4, 325, 110, 0, 825)) := Or.inl ⟨rfl, qt4 (p := 25) rfl rfl⟩
theorem qMLo_119 : qMLp ((4, 331, 32, 0, 664)) := Or.inl ⟨rfl, qt3 (p := 104) rfl rfl⟩
theorem qMLo_120 : qMLp ((6, 3, 1002, 0, 190)) := Or.inl ⟨rfl, qt1 (p := 110) rfl rfl⟩
theorem qMLo_121 : qMLp ((6, 26, 108, 0, 634)) := Or.inl ⟨rfl, qt3 (p := 74) rfl rfl⟩
theorem qMLo_122 : qMLp ((6, 39, 89, 0, 624)) := Or.inl ⟨rfl, qt3 (p := 64) rfl rfl⟩
theorem qMLo_123 : qMLp ((6, 48, 119, 0, 608)) := Or.inl ⟨rfl, qt3 (p := 48) rfl rfl⟩
theorem qMLo_124 : qMLp ((7, 3, 1002, 0, 163)) := Or.inl ⟨rfl, qt1 (p := 83) rfl rfl⟩
theorem qMLo_125 : qMLp ((7, 28, 101, 0, 530)) := Or.inl ⟨rfl, qt2 (p := 210) rfl rfl⟩
theorem qMLo_126 : qMLp ((7, 32, 104, 0, 555)) := Or.inl ⟨rfl, qt2 (p := 235) rfl rfl⟩
theorem qMLo_127 : qMLp ((7, 36, 24, 0, 856)) := Or.inl ⟨rfl, qt4 (p := 56) rfl rfl⟩
theorem qMLo_c7 : ∀ q ∈ ([(4, 302, 74, 0, 813), (4, 309, 76, 0, 821), (4, 312, 77, 0, 826), (4, 315, 78, 0, 830), (4, 318, 80, 0, 834), (4, 321, 79, 0, 839), (4, 325, 110, 0, 825), (4, 331, 32, 0, 664), (6, 3, 1002, 0, 190), (6, 26, 108, 0, 634), (6, 39, 89, 0, 624), (6, 48, 119, 0, 608), (7, 3, 1002, 0, 163), (7, 28, 101, 0, 530), (7, 32, 104, 0, 555), (7, 36, 24, 0, 856)] : List (Nat × Nat × Nat × Nat × Nat)), qMLp q := List.forall_mem_cons.mpr ⟨qMLo_112, List.forall_mem_cons.mpr ⟨qMLo_113, List.forall_mem_cons.mpr ⟨qMLo_114, List.forall_mem_cons.mpr ⟨qMLo_115, List.forall_mem_cons.mpr ⟨qMLo_116, List.forall_mem_cons.mpr ⟨qMLo_117, List.forall_mem_cons.mpr ⟨qMLo_118, List.forall_mem_cons.mpr ⟨qMLo_119, List.forall_mem_cons.mpr ⟨qMLo_120, List.forall_mem_cons.mpr ⟨qMLo_121, List.forall_mem_cons.mpr ⟨qMLo_122, List.forall_mem_cons.mpr ⟨qMLo_123, List.forall_mem_cons.mpr ⟨qMLo_124, List.forall_mem_cons.mpr ⟨qMLo_125, List.forall_mem_cons.mpr ⟨qMLo_126, List.forall_mem_cons.mpr ⟨qMLo_127, fun _ h => absurd h List.not_mem_nil⟩⟩⟩⟩⟩⟩⟩⟩⟩⟩⟩⟩⟩⟩⟩⟩
theorem qMLo_128 : qMLp ((7, 42, 105, 0, 534)) := Or.inl ⟨rfl, qt2 (p := 214) rfl rfl⟩
theorem qMLo_129 : qMLp ((7, 54, 1001, 0, 537)) := Or.inl ⟨rfl, qt2 (p := 217) rfl rfl⟩
theorem qMLo_130 : qMLp ((7, 60, 103, 0, 851)) := Or.inl ⟨rfl, qt4 (p := 51) rfl rfl⟩
theorem qMLo_131 : qMLp ((7, 69, 102, 0, 857)) := Or.inl ⟨rfl, qt4 (p := 57) rfl rfl⟩
theorem qMLo_132 : qMLp ((8, 1, 1002, 0, 313)) := Or.inl ⟨rfl, qt1 (p := 233) rfl rfl⟩
theorem qMLo_133 : qMLp ((8, 11, 116, 0, 315)) := Or.inl ⟨rfl, qt1 (p := 235) rfl rfl⟩
theorem qMLo_134 : qMLp ((9, 11, 110, 0, 693)) := Or.inl ⟨rfl, qt3 (p := 133) rfl rfl⟩
theorem qMLo_135 : qMLp ((9, 17, 108, 0, 340)) := Or.inl ⟨rfl, qt2 (p := 20) rfl rfl⟩
theorem qMLo_136 : qMLp ((10, 3, 1002, 0, 117)) := Or.inl ⟨rfl, qt1 (p := 37) rfl rfl⟩
theorem qMLo_137 : qMLp ((10, 19, 118, 0, 380)) := Or.inl ⟨rfl, qt2 (p := 60) rfl rfl⟩
theorem qMLo_138 : qMLp ((11, 3, 1002, 0, 101)) := Or.inl ⟨rfl, qt1 (p := 21) rfl rfl⟩
theorem qMLo_139 : qMLp ((11, 11, 8, 1, 106)) := Or.inr ⟨rfl, List.mem_of_getElem? (i := 3) rfl⟩
theorem qMLo_140 : qMLp ((11, 18, 33, 0, 154)) := Or.inl ⟨rfl, qt1 (p := 74) rfl rfl⟩
theorem qMLo_141 : qMLp ((11, 25, 9, 0, 305)) := Or.inl ⟨rfl, qt1 (p := 225) rfl rfl⟩
theorem qMLo_142 : qMLp ((11, 29, 18, 0, 330)) := Or.inl ⟨rfl, qt2 (p := 10) rfl rfl⟩
theorem qMLo_143 : qMLp ((11, 33, 113, 0, 349)) := Or.inl ⟨rfl, qt2 (p := 29) rfl rfl⟩
theorem qMLo_c8 : ∀ q ∈ ([(7, 42, 105, 0, 534), (7, 54, 1001, 0, 537), (7, 60, 103, 0, 851), (7, 69, 102, 0, 857), (8, 1, 1002, 0, 313), (8, 11, 116, 0, 315), (9, 11, 110, 0, 693), (9, 17, 108, 0, 340), (10, 3, 1002, 0, 117), (10, 19, 118, 0, 380), (11, 3, 1002, 0, 101), (11, 11, 8, 1, 106), (11, 18, 33, 0, 154), (11, 25, 9, 0, 305), (11, 29, 18, 0, 330), (11, 33, 113, 0, 349)] : List (Nat × Nat × Nat × Nat × Nat)), qMLp q := List.forall_mem_cons.mpr ⟨qMLo_128, List.forall_mem_cons.mpr ⟨qMLo_129, List.forall_mem_cons.mpr ⟨qMLo_130, List.forall_mem_cons.mpr ⟨qMLo_131, List.forall_mem_cons.mpr ⟨qMLo_132, List.forall_mem_cons.mpr ⟨qMLo_133, List.forall_mem_cons.mpr ⟨qMLo_134, List.forall_mem_cons.mpr ⟨qMLo_135, List.forall_mem_cons.mpr ⟨qMLo_136, List.forall_mem_cons.mpr ⟨qMLo_137, List.forall_mem_cons.mpr ⟨qMLo_138, List.forall_mem_cons.mpr ⟨qMLo_139, List.forall_mem_cons.mpr ⟨qMLo_140, List.forall_mem_cons.mpr ⟨qMLo_141, List.forall_mem_cons.mpr ⟨qMLo_142, List.forall_mem_cons.mpr ⟨qMLo_143, fun _ h => absurd h List.not_mem_nil⟩⟩⟩⟩⟩⟩⟩⟩⟩⟩⟩⟩⟩⟩⟩⟩
theorem qMLo_144 : qMLp ((11, 38, 12, 0, 350)) := Or.inl ⟨rfl, qt2 (p := 30) rfl rfl⟩
theorem qMLo_145 : qMLp ((11, 48, 117, 0, 354)) := Or.inl ⟨rfl, qt2 (p := 34) rfl rfl⟩
theorem qMLo_146 : qMLp ((11, 54, 19, 0, 362)) := Or.inl ⟨rfl, qt2 (p := 42) rfl rfl⟩
theorem qMLo_147 : qMLp ((11, 57, 11, 0, 371)) := Or.inl ⟨rfl, qt2 (p := 51) rfl rfl⟩
theorem qMLo_148 : qMLp ((11, 61, 21, 0, 372)) := Or.inl ⟨rfl, qt2 (p := 52) rfl rfl⟩
theorem qMLo_149 : qMLp ((11, 70, 10, 0, 393)) := Or.inl ⟨rfl, qt2 (p := 73) rfl rfl⟩
theorem qMLo_150 : qMLp ((11, 73, 14, 0, 444)) := Or.inl ⟨rfl, qt2 (p := 124) rfl rfl⟩
theorem qMLo_151 : qMLp ((11, 77, 1, 0, 452)) := Or.inl ⟨rfl, qt2 (p := 132) rfl rfl⟩
theorem qMLo_152 : qMLp ((11, 81, 134, 0, 457)) := Or.inl ⟨rfl, qt2 (p := 137) rfl rfl⟩
theorem qMLo_153 : qMLp ((11, 87, 2, 0, 469)) := Or.inl ⟨rfl, qt2 (p := 149) rfl rfl⟩
theorem qMLo_154 : qMLp ((11, 91, 13, 0, 477)) := Or.inl ⟨rfl, qt2 (p := 157) rfl rfl⟩
theorem qMLo_155 : qMLp ((11, 99, 34, 0, 478)) := Or.inl ⟨rfl, qt2 (p := 158) rfl rfl⟩
theorem qMLo_156 : qMLp ((11, 102, 38, 0, 482)) := Or.inl ⟨rfl, qt2 (p := 162) rfl rfl⟩
theorem qMLo_157 : qMLp ((11, 109, 36, 0, 869)) := Or.inl ⟨rfl, qt4 (p := 69) rfl rfl⟩
theorem qMLo_158 : qMLp ((11, 117, 96, 0, 873)) := Or.inl ⟨rfl, qt4 (p := 73) rfl rfl⟩
theorem qMLo_159 : qMLp ((11, 122, 37, 0, 881)) := Or.inl ⟨rfl, qt4 (p := 81) rfl rfl⟩
theorem qMLo_c9 : ∀ q ∈ ([(11, 38, 12, 0, 350), (11, 48, 117, 0, 354), (11, 54, 19, 0, 362), (11, 57, 11, 0, 371), (11, 61, 21, 0, 372), (11, 70, 10, 0, 393), (11, 73, 14, 0, 444), (11, 77, 1, 0, 452), (11, 81, 134, 0, 457), (11, 87, 2, 0, 469), (11, 91, 13, 0, 477), (11, 99, 34, 0, 478), (11, 102, 38, 0, 482), (11, 109, 36, 0, 869), (11, 117, 96, 0, 873), (11, 122, 37, 0, 881)] : List (Nat × Nat × Nat × Nat × Nat)), qMLp q := List.forall_mem_cons.mpr ⟨qMLo_144, List.forall_mem_cons.mpr ⟨qMLo_145, List.forall_mem_cons.mpr ⟨qMLo_146, List.forall_mem_cons.mpr ⟨qMLo_147, List.forall_mem_cons.mpr ⟨qMLo_148, List.forall_mem_cons.mpr ⟨qMLo_149, List.forall_mem_cons.mpr ⟨qMLo_150, List.forall_mem_cons.mpr ⟨qMLo_151, List.forall_mem_cons.mpr ⟨qMLo_152, List.forall_mem_cons.mpr ⟨qMLo_153, List.forall_mem_cons.mpr ⟨qMLo_154, List.forall_mem_cons.mpr ⟨qMLo_155, List.forall_mem_cons.mpr ⟨qMLo_156, List.forall_mem_cons.mpr ⟨qMLo_157, List.forall_mem_cons.mpr ⟨qMLo_158, List.forall_mem_cons.mpr ⟨qMLo_159, fun _ h => absurd h List.not_mem_nil⟩⟩⟩⟩⟩⟩⟩⟩⟩⟩⟩⟩⟩⟩⟩⟩
theorem qMLo_160 : qMLp ((11, 125, 97, 0, 885)) := Or.inl ⟨rfl, qt4 (p := 85) rfl rfl⟩
theorem qMLo_161 : qMLp ((11, 129, 98, 0, 893)) := Or.inl ⟨rfl, qt4 (p := 93) rfl rfl⟩
theorem qMLo_162 : qMLp ((11, 133, 35, 0, 461)) := Or.inl ⟨rfl, qt2 (p := 141) rfl rfl⟩
theorem qMLo_163 : qMLp ((12, 1, 1002, 0, 902)) := Or.inl ⟨rfl, qt4 (p := 102) rfl rfl⟩
theorem qMLo_164 : qMLp ((12, 103, 137, 0, 1034)) := Or.inl ⟨rfl, qt4 (p := 234) rfl rfl⟩
theorem qMLo_165 : qMLp ((12, 110, 136, 0, 1031)) := Or.inl ⟨rfl, qt4 (p := 231) rfl rfl⟩
theorem qMLo_166 : qMLp ((12, 114, 138, 0, 1038)) := Or.inl ⟨rfl, qt4 (p := 238) rfl rfl⟩
theorem qMLo_167 : qMLp ((12, 120, 140, 0, 1050)) := Or.inl ⟨rfl, qt5 (p := 10) rfl rfl⟩
theorem qMLo_168 : qMLp ((12, 124, 145, 0, 1046)) := Or.inl ⟨rfl, qt5 (p := 6) rfl rfl⟩
theorem qMLo_169 : qMLp ((12, 127, 139, 0, 1027)) := Or.inl ⟨rfl, qt4 (p := 227) rfl rfl⟩
theorem qMLo_170 : qMLp ((12, 137, 154, 0, 1069)) := Or.inl ⟨rfl, qt5 (p := 29) rfl rfl⟩
theorem qMLo_171 : qMLp ((12, 147, 158, 0, 1101)) := Or.inl ⟨rfl, qt5 (p := 61) rfl rfl⟩
theorem qMLo_172 : qMLp ((12, 153, 160, 0, 1136)) := Or.inl ⟨rfl, qt5 (p := 96) rfl rfl⟩
theorem qMLo_173 : qMLp ((12, 168, 162, 0, 1113)) := Or.inl ⟨rfl, qt5 (p := 73) rfl rfl⟩
theorem qMLo_174 : qMLp ((12, 171, 142, 0, 1166)) := Or.inl ⟨rfl, qt5 (p := 126) rfl rfl⟩
theorem qMLo_175 : qMLp ((12, 175, 159, 0, 1097)) := Or.inl ⟨rfl, qt5 (p := 57) rfl rfl⟩
theorem qMLo_c10 : ∀ q ∈ ([(11, 125, 97, 0, 885), (11, 129, 98, 0, 893), (11, 133, 35, 0, 461), (12, 1, 1002, 0, 902), (12, 103, 137, 0, 1034), (12, 110, 136, 0, 1031), (12, 114, 138, 0, 1038), (12, 120, 140, 0, 1050), (12, 124, 145, 0, 1046), (12, 127, 139, 0, 1027), (12, 137, 154, 0, 1069), (12, 147, 158, 0, 1101), (12, 153, 160, 0, 1136), (12, 168, 162, 0, 1113), (12, 171, 142, 0, 1166), (12, 175, 159, 0, 1097)] : List (Nat × Nat × Nat × Nat × Nat)), qMLp q := List.forall_mem_cons.mpr ⟨qMLo_160, List.forall_mem_cons.mpr ⟨qMLo_161, List.forall_mem_cons.mpr ⟨qMLo_162, List.forall_mem_cons.mpr ⟨qMLo_163, List.forall_mem_cons.mpr ⟨qMLo_164, List.forall_mem_cons.mpr ⟨qMLo_165, List.forall_mem_cons.mpr ⟨qMLo_166, List.forall_mem_cons.mpr ⟨qMLo_167, List.forall_mem_cons.mpr ⟨qMLo_168, List.forall_mem_cons.mpr ⟨qMLo_169, List.forall_mem_cons.mpr ⟨qMLo_170, List.forall_mem_cons.mpr ⟨qMLo_171, List.forall_mem_cons.mpr ⟨qMLo_172, List.forall_mem_cons.mpr ⟨qMLo_173, List.forall_mem_cons.mpr ⟨qMLo_174, List.forall_mem_cons.mpr ⟨qMLo_175, fun _ h => absurd h List.not_mem_nil⟩⟩⟩⟩⟩⟩⟩⟩⟩⟩⟩⟩⟩⟩⟩⟩
theorem qMLo_176 : qMLp ((12, 179, 141, 0, 1148)) := Or.inl ⟨rfl, qt5 (p := 108) rfl rfl⟩
theorem qMLo_177 : qMLp ((12, 188, 165, 0, 1189)) := Or.inl ⟨rfl, qt5 (p := 149) rfl rfl⟩
theorem qMLo_178 : qMLp ((12, 191, 163, 0, 1126)) := Or.inl ⟨rfl, qt5 (p := 86) rfl rfl⟩
theorem qMLo_179 : qMLp ((12, 194, 156, 0, 1085)) := Or.inl ⟨rfl, qt5 (p := 45) rfl rfl⟩
theorem qMLo_180 : qMLp ((12, 198, 157, 0, 1089)) := Or.inl ⟨rfl, qt5 (p := 49) rfl rfl⟩
theorem qMLo_181 : qMLp ((12, 202, 146, 0, 1117)) := Or.inl ⟨rfl, qt5 (p := 77) rfl rfl⟩
theorem qMLo_182 : qMLp ((12, 205, 167, 0, 1144)) := Or.inl ⟨rfl, qt5 (p := 104) rfl rfl⟩
theorem qMLo_183 : qMLp ((12, 209, 143, 0, 1151)) := Or.inl ⟨rfl, qt5 (p := 111) rfl rfl⟩
theorem qMLo_184 : qMLp ((12, 213, 144, 0, 1158)) := Or.inl ⟨rfl, qt5 (p := 118) rfl rfl⟩
theorem qMLo_185 : qMLp ((12, 216, 164, 0, 1162)) := Or.inl ⟨rfl, qt5 (p := 122) rfl rfl⟩
theorem qMLo_186 : qMLp ((12, 220, 161, 0, 1132)) := Or.inl ⟨rfl, qt5 (p := 92) rfl rfl⟩
theorem qMLo_187 : qMLp ((12, 223, 168, 0, 1169)) := Or.inl ⟨rfl, qt5 (p := 129) rfl rfl⟩
theorem qMLo_188 : qMLp ((12, 226, 166, 0, 1185)) := Or.inl ⟨rfl, qt5 (p := 145) rfl rfl⟩
theorem qMLo_189 : qMLp ((12, 238, 175, 0, 1121)) := Or.inl ⟨rfl, qt5 (p := 81) rfl rfl⟩
theorem qMLo_190 : qMLp ((12, 241, 169, 0, 1140)) := Or.inl ⟨rfl, qt5 (p := 100) rfl rfl⟩
theorem qMLo_191 : qMLp ((12, 245, 170, 0, 1154)) := Or.inl ⟨rfl, qt5 (p := 114) rfl rfl⟩
theorem qMLo_c11 : ∀ q ∈ ([(12, 179, 141, 0, 1148), (12, 188, 165, 0, 1189), (12, 191, 163, 0, 1126), (12, 194, 156, 0, 1085), (12, 198, 157, 0, 1089), (12, 202, 146, 0, 1117), (12, 205, 167, 0, 1144), (12, 209, 143, 0, 1151), (12, 213, 144, 0, 1158), (12, 216, 164, 0, 1162), (12, 220, 161, 0, 1132), (12, 223, 168, 0, 1169), (12, 226, 166, 0, 1185), (12, 238, 175, 0, 1121), (12, 241, 169, 0, 1140), (12, 245, 170, 0, 1154)] : List (Nat × Nat × Nat × Nat × Nat)), qMLp q := List.forall_mem_cons.mpr ⟨qMLo_176, List.forall_mem_cons.mpr ⟨qMLo_177, List.forall_mem_cons.mpr ⟨qMLo_178, List.forall_mem_cons.mpr ⟨qMLo_179, List.forall_mem_cons.mpr ⟨qMLo_180, List.forall_mem_cons.mpr ⟨qMLo_181, List.forall_mem_cons.mpr ⟨qMLo_182, List.forall_mem_cons.mpr ⟨qMLo_183, List.forall_mem_cons.mpr ⟨qMLo_184, List.forall_mem_cons.mpr ⟨qMLo_185, List.forall_mem_cons.mpr ⟨qMLo_186, List.forall_mem_cons.mpr ⟨qMLo_187, List.forall_mem_cons.mpr ⟨qMLo_188, List.forall_mem_cons.mpr ⟨qMLo_189, List.forall_mem_cons.mpr ⟨qMLo_190, List.forall_mem_cons.mpr ⟨qMLo_191, fun _ h => absurd h List.not_mem_nil⟩⟩⟩⟩⟩⟩⟩⟩⟩⟩⟩⟩⟩⟩⟩⟩
theorem qMLo_192 : qMLp ((12, 249, 177, 0, 1173)) := Or.inl ⟨rfl, qt5 (p := 133) rfl rfl⟩
theorem qMLo_193 : qMLp ((12, 252, 171, 0, 1177)) := Or.inl ⟨rfl, qt5 (p := 137) rfl rfl⟩
theorem qMLo_194 : qMLp ((12, 255, 172, 0, 1181)) := Or.inl ⟨rfl, qt5 (p := 141) rfl rfl⟩
theorem qMLo_195 : qMLp ((12, 258, 173, 0, 1195)) := Or.inl ⟨rfl, qt5 (p := 155) rfl rfl⟩
theorem qMLo_196 : qMLp ((12, 261, 174, 0, 1199)) := Or.inl ⟨rfl, qt5 (p := 159) rfl rfl⟩
theorem qMLo_197 : qMLp ((12, 264, 180, 0, 1208)) := Or.inl ⟨rfl, qt5 (p := 168) rfl rfl⟩
theorem qMLo_198 : qMLp ((12, 267, 181, 0, 1212)) := Or.inl ⟨rfl, qt5 (p := 172) rfl rfl⟩
theorem qMLo_199 : qMLp ((12, 272, 178, 0, 1105)) := Or.inl ⟨rfl, qt5 (p := 65) rfl rfl⟩
theorem qMLo_200 : qMLp ((12, 276, 176, 0, 1109)) := Or.inl ⟨rfl, qt5 (p := 69) rfl rfl⟩
theorem qMLo_201 : qMLp ((12, 279, 179, 0, 1204)) := Or.inl ⟨rfl, qt5 (p := 164) rfl rfl⟩
theorem qMLo_202 : qMLp ((12, 282, 182, 0, 1081)) := Or.inl ⟨rfl, qt5 (p := 41) rfl rfl⟩
theorem qMLo_203 : qMLp ((12, 285, 183, 0, 1093)) := Or.inl ⟨rfl, qt5 (p := 53) rfl rfl⟩
theorem qMLo_204 : qMLp ((12, 288, 186, 0, 1225)) := Or.inl ⟨rfl, qt5 (p := 185) rfl rfl⟩
theorem qMLo_205 : qMLp ((12, 292, 188, 0, 1237)) := Or.inl ⟨rfl, qt5 (p := 197) rfl rfl⟩
theorem qMLo_206 : qMLp ((13, 9, 120, 0, 98)) := Or.inl ⟨rfl, qt1 (p := 18) rfl rfl⟩
theorem qMLo_207 : qMLp ((13, 12, 135, 0, 899)) := Or.inl ⟨rfl, qt4 (p := 99) rfl rfl⟩
theorem qMLo_c12 : ∀ q ∈ ([(12, 249, 177, 0, 1173), (12, 252, 171, 0, 1177), (12, 255, 172, 0, 1181), (12, 258, 173, 0, 1195), (12, 261, 174, 0, 1199), (12, 264, 180, 0, 1208), (12, 267, 181, 0, 1212), (12, 272, 178, 0, 1105), (12, 276, 176, 0, 1109), (12, 279, 179, 0, 1204), (12, 282, 182, 0, 1081), (12, 285, 183, 0, 1093), (12, 288, 186, 0, 1225), (12, 292, 188, 0, 1237), (13, 9, 120, 0, 98), (13, 12, 135, 0, 899)] : List (Nat × Nat × Nat × Nat × Nat)), qMLp q := List.forall_mem_cons.mpr ⟨qMLo_192, List.forall_mem_cons.mpr ⟨qMLo_193, List.forall_mem_cons.mpr ⟨qMLo_194, List.forall_mem_cons.mpr ⟨qMLo_195, List.forall_mem_cons.mpr ⟨qMLo_196, List.forall_mem_cons.mpr ⟨qMLo_197, List.forall_mem_cons.mpr ⟨qMLo_198, List.forall_mem_cons.mpr ⟨qMLo_199, List.forall_mem_cons.mpr ⟨qMLo_200, List.forall_mem_cons.mpr ⟨qMLo_201, List.forall_mem_cons.mpr ⟨qMLo_202, List.forall_mem_cons.mpr ⟨qMLo_203, List.forall_mem_cons.mpr ⟨qMLo_204, List.forall_mem_cons.mpr ⟨qMLo_205, List.forall_mem_cons.mpr ⟨qMLo_206, List.forall_mem_cons.mpr ⟨qMLo_207, fun _ h => absurd h List.not_mem_nil⟩⟩⟩⟩⟩⟩⟩⟩⟩⟩⟩⟩⟩⟩⟩⟩
theorem qMLo_208 : qMLp ((13, 13, 121, 0, 301)) := Or.inl ⟨rfl, qt1 (p := 221) rfl rfl⟩
theorem qMLo_209 : qMLp ((13, 17, 147, 0, 1019)) := Or.inl ⟨rfl, qt4 (p := 219) rfl rfl⟩
theorem qMLo_210 : qMLp ((13, 20, 122, 0, 326)) := Or.inl ⟨rfl, qt2 (p := 6) rfl rfl⟩
theorem qMLo_211 : qMLp ((13, 24, 148, 0, 1023)) := Or.inl ⟨rfl, qt4 (p := 223) rfl rfl⟩
theorem qMLo_212 : qMLp ((13, 25, 123, 0, 358)) := Or.inl ⟨rfl, qt2 (p := 38) rfl rfl⟩
theorem qMLo_213 : qMLp ((13, 28, 149, 0, 1042)) := Or.inl ⟨rfl, qt5 (p := 2) rfl rfl⟩
theorem qMLo_214 : qMLp ((13, 29, 124, 0, 367)) := Or.inl ⟨rfl, qt2 (p := 47) rfl rfl⟩
theorem qMLo_215 : qMLp ((13, 32, 150, 0, 1053)) := Or.inl ⟨rfl, qt5 (p := 13) rfl rfl⟩
theorem qMLo_216 : qMLp ((13, 33, 125, 0, 385)) := Or.inl ⟨rfl, qt2 (p := 65) rfl rfl⟩
theorem qMLo_217 : qMLp ((13, 36, 151, 0, 1057)) := Or.inl ⟨rfl, qt5 (p := 17) rfl rfl⟩
theorem qMLo_218 : qMLp ((13, 37, 126, 0, 389)) := Or.inl ⟨rfl, qt2 (p := 69) rfl rfl⟩
theorem qMLo_219 : qMLp ((13, 40, 152, 0, 1061)) := Or.inl ⟨rfl, qt5 (p := 21) rfl rfl⟩
theorem qMLo_220 : qMLp ((13, 41, 127, 0, 440)) := Or.inl ⟨rfl, qt2 (p := 120) rfl rfl⟩
theorem qMLo_221 : qMLp ((13, 45, 153, 0, 1065)) := Or.inl ⟨rfl, qt5 (p := 25) rfl rfl⟩
theorem qMLo_222 : qMLp ((13, 46, 128, 0, 465)) := Or.inl ⟨rfl, qt2 (p := 145) rfl rfl⟩
theorem qMLo_223 : qMLp ((13, 50, 155, 0, 1073)) := Or.inl ⟨rfl, qt5 (p := 33) rfl rfl⟩
theorem qMLo_c13 : ∀ q ∈ ([(13, 13, 121, 0, 301), (13, 17, 147, 0, 1019), (13, 20, 122, 0, 326), (13, 24, 148, 0, 1023), (13, 25, 123, 0, 358), (13, 28, 149, 0, 1042), (13, 29, 124, 0, 367), (13, 32, 150, 0, 1053), (13, 33, 125, 0, 385), (13, 36, 151, 0, 1057), (13, 37, 126, 0, 389), (13, 40, 152, 0, 1061), (13, 41, 127, 0, 440), (13, 45, 153, 0, 1065), (13, 46, 128, 0, 465), (13, 50, 155, 0, 1073)] : List (Nat × Nat × Nat × Nat × Nat)), qMLp q := List.forall_mem_cons.mpr ⟨qMLo_208, List.forall_mem_cons.mpr ⟨qMLo_209, List.forall_mem_cons.mpr ⟨qMLo_210, List.forall_mem_cons.mpr ⟨qMLo_211, List.forall_mem_cons.mpr ⟨qMLo_212, List.forall_mem_cons.mpr ⟨qMLo_213, List.forall_mem_cons.mpr ⟨qMLo_214, List.forall_mem_cons.mpr ⟨qMLo_215, List.forall_mem_cons.mpr ⟨qMLo_216, List.forall_mem_cons.mpr ⟨qMLo_217, List.forall_mem_cons.mpr ⟨qMLo_218, List.forall_mem_cons.mpr ⟨qMLo_219, List.forall_mem_cons.mpr ⟨qMLo_220, List.forall_mem_cons.mpr ⟨qMLo_221, List.forall_mem_cons.mpr ⟨qMLo_222, List.forall_mem_cons.mpr ⟨qMLo_223, fun _ h => absurd h List.not_mem_nil⟩⟩⟩⟩⟩⟩⟩⟩⟩⟩⟩⟩⟩⟩⟩⟩
theorem qMLo_224 : qMLp ((13, 51, 129, 0, 473)) := Or.inl ⟨rfl, qt2 (p := 153) rfl rfl⟩
theorem qMLo_225 : qMLp ((13, 54, 184, 0, 1077)) := Or.inl ⟨rfl, qt5 (p := 37) rfl rfl⟩
theorem qMLo_226 : qMLp ((13, 55, 130, 0, 861)) := Or.inl ⟨rfl, qt4 (p := 61) rfl rfl⟩
theorem qMLo_227 : qMLp ((13, 59, 185, 0, 1217)) := Or.inl ⟨rfl, qt5 (p := 177) rfl rfl⟩
theorem qMLo_228 : qMLp ((13, 60, 131, 0, 865)) := Or.inl ⟨rfl, qt4 (p := 65) rfl rfl⟩
theorem qMLo_229 : qMLp ((13, 63, 187, 0, 1221)) := Or.inl ⟨rfl, qt5 (p := 181) rfl rfl⟩
theorem qMLo_230 : qMLp ((13, 64, 132, 0, 877)) := Or.inl ⟨rfl, qt4 (p := 77) rfl rfl⟩
theorem qMLo_231 : qMLp ((13, 68, 188, 0, 1229)) := Or.inl ⟨rfl, qt5 (p := 189) rfl rfl⟩
theorem qMLo_232 : qMLp ((13, 69, 133, 0, 889)) := Or.inl ⟨rfl, qt4 (p := 89) rfl rfl⟩
theorem qMLo_233 : qMLp ((13, 73, 189, 0, 1233)) := Or.inl ⟨rfl, qt5 (p := 193) rfl rfl⟩
theorem qMLo_c14 : ∀ q ∈ ([(13, 51, 129, 0, 473), (13, 54, 184, 0, 1077), (13, 55, 130, 0, 861), (13, 59, 185, 0, 1217), (13, 60, 131, 0, 865), (13, 63, 187, 0, 1221), (13, 64, 132, 0, 877), (13, 68, 188, 0, 1229), (13, 69, 133, 0, 889), (13, 73, 189, 0, 1233)] : List (Nat × Nat × Nat × Nat × Nat)), qMLp q := List.forall_mem_cons.mpr ⟨qMLo_224, List.forall_mem_cons.mpr ⟨qMLo_225, List.forall_mem_cons.mpr ⟨qMLo_226, List.forall_mem_cons.mpr ⟨qMLo_227, List.forall_mem_cons.mpr ⟨qMLo_228, List.forall_mem_cons.mpr ⟨qMLo_229, List.forall_mem_cons.mpr ⟨qMLo_230, List.forall_mem_cons.mpr ⟨qMLo_231, List.forall_mem_cons.mpr ⟨qMLo_232, List.forall_mem_cons.mpr ⟨qMLo_233, fun _ h => absurd h List.not_mem_nil⟩⟩⟩⟩⟩⟩⟩⟩⟩⟩
set_option maxRecDepth 100000 in
theorem qML_ok : ∀ q ∈ qMLs, qMLp q := by
  show ∀ q ∈ ([(0, 5, 1002, 0, 401), (0, 13, 116, 0, 403), (0, 40, 117, 0, 456), (0, 50, 5, 0, 574), (0, 54, 119, 0, 506), (1, 3, 1002, 0, 109), (1, 19, 116, 0, 114), (1, 36, 106, 0, 310), (1, 40, 0, 0, 398), (1, 41, 11, 0, 345), (1, 45, 13, 0, 448), (1, 52, 118, 0, 579), (1, 59, 119, 0, 376), (1, 65, 107, 0, 334), (1, 69, 113, 0, 337), (1, 75, 108, 0, 366)] : List (Nat × Nat × Nat × Nat × Nat)) ++ (([(1, 82, 19, 0, 384), (2, 3, 1002, 0, 219), (2, 17, 5, 0, 495), (2, 21, 1000, 0, 499), (2, 44, 7, 0, 502), (2, 48, 20, 0, 507), (2, 54, 24, 0, 511), (2, 57, 113, 0, 514), (2, 63, 114, 0, 515), (2, 73, 26, 0, 518), (2, 76, 30, 0, 522), (3, 3, 1002, 0, 157), (3, 11, 93, 1, 160), (3, 34, 43, 0, 181), (3, 49, 4, 0, 543), (3, 53, 6, 0, 570)] : List (Nat × Nat × Nat × Nat × Nat)) ++ (([(3, 56, 39, 0, 486), (3, 63, 40, 0, 547), (3, 67, 44, 0, 583), (3, 70, 42, 0, 843), (3, 73, 34, 0, 490), (3, 83, 23, 0, 491), (3, 88, 94, 0, 526), (3, 95, 85, 0, 540), (3, 103, 95, 0, 551), (3, 110, 87, 0, 558), (3, 118, 99, 0, 562), (3, 122, 41, 0, 566), (3, 129, 15, 0, 575), (3, 135, 11, 0, 580), (3, 139, 13, 0, 581), (3, 147, 118, 0, 582)] : List (Nat × Nat × Nat × Nat × Nat)) ++ (([(3, 152, 100, 0, 847), (4, 3, 1002, 0, 184), (4, 11, 86, 1, 187), (4, 20, 22, 1, 216), (4, 58, 45, 0, 587), (4, 62, 48, 0, 625), (4, 65, 49, 0, 637), (4, 68, 54, 0, 696), (4, 71, 59, 0, 738), (4, 74, 67, 0, 781), (4, 77, 73, 0, 809), (4, 80, 75, 0, 817), (4, 83, 46, 0, 591), (4, 87, 47, 0, 600), (4, 94, 90, 0, 620), (4, 101, 89, 0, 595)] : List (Nat × Nat × Nat × Nat × Nat)) ++ (([(4, 108, 20, 0, 599), (4, 118, 91, 0, 604), (4, 122, 92, 0, 609), (4, 128, 28, 0, 614), (4, 134, 88, 0, 630), (4, 142, 52, 0, 641), (4, 145, 25, 0, 646), (4, 149, 50, 0, 670), (4, 152, 51, 0, 678), (4, 155, 53, 0, 686), (4, 159, 7, 0, 645), (4, 162, 26, 0, 654), (4, 165, 24, 0, 655), (4, 168, 83, 0, 656), (4, 172, 29, 0, 674), (4, 175, 31, 0, 682)] : List (Nat × Nat × Nat × Nat × Nat)) ++ (([(4, 179, 27, 0, 650), (4, 185, 30, 0, 669), (4, 189, 111, 0, 690), (4, 193, 55, 0, 700), (4, 196, 56, 0, 722), (4, 199, 57, 0, 726), (4, 202, 58, 0, 734), (4, 205, 112, 0, 704), (4, 208, 81, 0, 708), (4, 212, 17, 0, 717), (4, 218, 109, 0, 713), (4, 222, 82, 0, 730), (4, 225, 60, 0, 742), (4, 228, 61, 0, 750), (4, 231, 62, 0, 754), (4, 234, 16, 0, 746)] : List (Nat × Nat × Nat × Nat × Nat)) ++ (([(4, 237, 13, 0, 758), (4, 241, 63, 0, 759), (4, 245, 3, 0, 764), (4, 248, 64, 0, 768), (4, 252, 65, 0, 772), (4, 258, 66, 0, 777), (4, 270, 119, 0, 763), (4, 273, 84, 0, 660), (4, 276, 114, 0, 716), (4, 282, 113, 0, 712), (4, 284, 70, 0, 785), (4, 287, 71, 0, 798), (4, 290, 72, 0, 802), (4, 293, 69, 0, 789), (4, 296, 68, 0, 806), (4, 299, 115, 0, 793)] : List (Nat × Nat × Nat × Nat × Nat)) ++ (([(4, 302, 74, 0, 813), (4, 309, 76, 0, 821), (4, 312, 77, 0, 826), (4, 315, 78, 0, 830), (4, 318, 80, 0, 834), (4, 321, 79, 0, 839), (4, 325, 110, 0, 825), (4, 331, 32, 0, 664), (6, 3, 1002, 0, 190), (6, 26, 108, 0, 634), (6, 39, 89, 0, 624), (6, 48, 119, 0, 608), (7, 3, 1002, 0, 163), (7, 28, 101, 0, 530), (7, 32, 104, 0, 555), (7, 36, 24, 0, 856)] : List (Nat × Nat × Nat × Nat × Nat)) ++ (([(7, 42, 105, 0, 534), (7, 54, 1001, 0, 537), (7, 60, 103, 0, 851), (7, 69, 102, 0, 857), (8, 1, 1002, 0, 313), (8, 11, 116, 0, 315), (9, 11, 110, 0, 693), (9, 17, 108, 0, 340), (10, 3, 1002, 0, 117), (10, 19, 118, 0, 380), (11, 3, 1002, 0, 101), (11, 11, 8, 1, 106), (11, 18, 33, 0, 154), (11, 25, 9, 0, 305), (11, 29, 18, 0, 330), (11, 33, 113, 0, 349)] : List (Nat × Nat × Nat × Nat × Nat)) ++ (([(11, 38, 12, 0, 350), (11, 48, 117, 0, 354), (11, 54, 19, 0, 362), (11, 57, 11, 0, 371), (11, 61, 21, 0, 372), (11, 70, 10, 0, 393), (11, 73, 14, 0, 444), (11, 77, 1, 0, 452), (11, 81, 134, 0, 457), (11, 87, 2, 0, 469), (11, 91, 13, 0, 477), (11, 99, 34, 0, 478), (11, 102, 38, 0, 482), (11, 109, 36, 0, 869), (11, 117, 96, 0, 873), (11, 122, 37, 0, 881)] : List (Nat × Nat × Nat × Nat × Nat)) ++ (([(11, 125, 97, 0, 885), (11, 129, 98, 0, 893), (11, 133, 35, 0, 461), (12, 1, 1002, 0, 902), (12, 103, 137, 0, 1034), (12, 110, 136, 0, 1031), (12, 114, 138, 0, 1038), (12, 120, 140, 0, 1050), (12, 124, 145, 0, 1046), (12, 127, 139, 0, 1027), (12, 137, 154, 0, 1069), (12, 147, 158, 0, 1101), (12, 153, 160, 0, 1136), (12, 168, 162, 0, 1113), (12, 171, 142, 0, 1166), (12, 175, 159, 0, 1097)] : List (Nat × Nat × Nat × Nat × Nat)) ++ (([(12, 179, 141, 0, 1148), (12, 188, 165, 0, 1189), (12, 191, 163, 0, 1126), (12, 194, 156, 0, 1085), (12, 198, 157, 0, 1089), (12, 202, 146, 0, 1117), (12, 205, 167, 0, 1144), (12, 209, 143, 0, 1151), (12, 213, 144, 0, 1158), (12, 216, 164, 0, 1162), (12, 220, 161, 0, 1132), (12, 223, 168, 0, 1169), (12, 226, 166, 0, 1185), (12, 238, 175, 0, 1121), (12, 241, 169, 0, 1140), (12, 245, 170, 0, 1154)] : List (Nat × Nat × Nat × Nat × Nat)) ++ (([(12, 249, 177, 0, 1173), (12, 252, 171, 0, 1177), (12, 255, 172, 0, 1181), (12, 258, 173, 0, 1195), (12, 261, 174, 0, 1199), (12, 264, 180, 0, 1208), (12, 267, 181, 0, 1212), (12, 272, 178, 0, 1105), (12, 276, 176, 0, 1109), (12, 279, 179, 0, 1204), (12, 282, 182, 0, 1081), (12, 285, 183, 0, 1093), (12, 288, 186, 0, 1225), (12, 292, 188, 0, 1237), (13, 9, 120, 0, 98), (13, 12, 135, 0, 899)] : List (Nat × Nat × Nat × Nat × Nat)) ++ (([(13, 13, 121, 0, 301), (13, 17, 147, 0, 1019), (13, 20, 122, 0, 326), (13, 24, 148, 0, 1023), (13, 25, 123, 0, 358), (13, 28, 149, 0, 1042), (13, 29, 124, 0, 367), (13, 32, 150, 0, 1053), (13, 33, 125, 0, 385), (13, 36, 151, 0, 1057), (13, 37, 126, 0, 389), (13, 40, 152, 0, 1061), (13, 41, 127, 0, 440), (13, 45, 153, 0, 1065), (13, 46, 128, 0, 465), (13, 50, 155, 0, 1073)] : List (Nat × Nat × Nat × Nat × Nat)) ++ (([(13, 51, 129, 0, 473), (13, 54, 184, 0, 1077), (13, 55, 130, 0, 861), (13, 59, 185, 0, 1217), (13, 60, 131, 0, 865), (13, 63, 187, 0, 1221), (13, 64, 132, 0, 877), (13, 68, 188, 0, 1229), (13, 69, 133, 0, 889), (13, 73, 189, 0, 1233)] : List (Nat × Nat × Nat × Nat × Nat)))))))))))))))), qMLp q
  exact List.forall_mem_append.mpr ⟨qMLo_c0, List.forall_mem_append.mpr ⟨qMLo_c1, List.forall_mem_append.mpr ⟨qMLo_c2, List.forall_mem_append.mpr ⟨qMLo_c3, List.forall_mem_append.mpr ⟨qMLo_c4, List.forall_mem_append.mpr ⟨qMLo_c5, List.forall_mem_append.mpr ⟨qMLo_c6, List.forall_mem_append.mpr ⟨qMLo_c7, List.forall_mem_append.mpr ⟨qMLo_c8, List.forall_mem_append.mpr ⟨qMLo_c9, List.forall_mem_append.mpr ⟨qMLo_c10, List.forall_mem_append.mpr ⟨qMLo_c11, List.forall_mem_append.mpr ⟨qMLo_c12, List.forall_mem_append.mpr ⟨qMLo_c13, qMLo_c14⟩⟩⟩⟩⟩⟩⟩⟩⟩⟩⟩⟩⟩⟩
theorem qnest_0 : (.methodLinkNest (qcn 3) 11 (qmnm 93) "AbilityChecker" : Jvm.Cond) ∈ lw_tbl := by
  have h : (.methodLinkNest (qcn 3) 11 (qmnm 93) "AbilityChecker" : Jvm.Cond) ∈ tables_1_1 := List.mem_of_getElem? (i := 80) rfl
  exact List.mem_append_right _ (show _ ∈ tables_1_1 ++ (tables_1_2 ++ (tables_1_3 ++ (tables_1_4 ++ tables_1_5))) from by simp only [List.mem_append]; simp only [h, true_or, or_true])
theorem qnest_1 : (.methodLinkNest (qcn 4) 11 (qmnm 86) "AbilityChecker" : Jvm.Cond) ∈ lw_tbl := by
  have h : (.methodLinkNest (qcn 4) 11 (qmnm 86) "AbilityChecker" : Jvm.Cond) ∈ tables_1_1 := List.mem_of_getElem? (i := 107) rfl
  exact List.mem_append_right _ (show _ ∈ tables_1_1 ++ (tables_1_2 ++ (tables_1_3 ++ (tables_1_4 ++ tables_1_5))) from by simp only [List.mem_append]; simp only [h, true_or, or_true])
theorem qnest_2 : (.methodLinkNest (qcn 4) 20 (qmnm 22) "AbilityChecker" : Jvm.Cond) ∈ lw_tbl := by
  have h : (.methodLinkNest (qcn 4) 20 (qmnm 22) "AbilityChecker" : Jvm.Cond) ∈ tables_1_1 := List.mem_of_getElem? (i := 136) rfl
  exact List.mem_append_right _ (show _ ∈ tables_1_1 ++ (tables_1_2 ++ (tables_1_3 ++ (tables_1_4 ++ tables_1_5))) from by simp only [List.mem_append]; simp only [h, true_or, or_true])
theorem qnest_3 : (.methodLinkNest (qcn 11) 11 (qmnm 8) "AbilityChecker" : Jvm.Cond) ∈ lw_tbl := by
  have h : (.methodLinkNest (qcn 11) 11 (qmnm 8) "AbilityChecker" : Jvm.Cond) ∈ tables_1_1 := List.mem_of_getElem? (i := 26) rfl
  exact List.mem_append_right _ (show _ ∈ tables_1_1 ++ (tables_1_2 ++ (tables_1_3 ++ (tables_1_4 ++ tables_1_5))) from by simp only [List.mem_append]; simp only [h, true_or, or_true])
theorem qnest_in : ∀ w ∈ qnest, w ∈ lw_tbl := List.forall_mem_cons.mpr ⟨qnest_0, List.forall_mem_cons.mpr ⟨qnest_1, List.forall_mem_cons.mpr ⟨qnest_2, List.forall_mem_cons.mpr ⟨qnest_3, fun _ h => absurd h List.not_mem_nil⟩⟩⟩⟩
def qMF (k : Nat) : Prop := .code (qyn k) (qcode k) (qmaxL k) (qret k) ∈ qtb ∧ .initialized (qyn k).cls ∈ qtb ∧ (parseMethodDescriptor (qyn k).desc).map (fun d => d.parameters.length) = some (qnp k) ∧ (qyn k).cls = qcn (qown k) ∧ qown k < 13 ∧
  (match qkd k with
  | 0 => .static (qyn k) ∈ qtb
  | 1 => .instanceMethod (qyn k) ∈ qtb ∧ qck k < 11 ∧ (qyn k).cls = qcN (qck k) ∧ .selects (qyn k).cls (qyn k) (qyn k) ∈ qtb
  | 2 => .instanceMethod (qyn k) ∈ qtb ∧ (qyn k).name = "<init>" ∧ qret k = none
  | _ => False)
theorem qmf_0 : qMF 0 := ⟨qt2 (p := 80) rfl rfl, qt1 (p := 12) rfl rfl, by decide +kernel, rfl, by decide +kernel, qt2 (p := 79) rfl rfl, rfl, rfl⟩
theorem qmf_1 : qMF 1 := ⟨qt2 (p := 135) rfl rfl, qt1 (p := 12) rfl rfl, by decide +kernel, rfl, by decide +kernel, qt2 (p := 133) rfl rfl, by decide +kernel, rfl, qt2 (p := 134) rfl rfl⟩
theorem qmf_2 : qMF 2 := ⟨qt2 (p := 152) rfl rfl, qt1 (p := 12) rfl rfl, by decide +kernel, rfl, by decide +kernel, qt2 (p := 150) rfl rfl, by decide +kernel, rfl, qt2 (p := 151) rfl rfl⟩
theorem qmf_3 : qMF 3 := ⟨qt3 (p := 207) rfl rfl, qt1 (p := 12) rfl rfl, by decide +kernel, rfl, by decide +kernel, qt3 (p := 205) rfl rfl, by decide +kernel, rfl, qt3 (p := 206) rfl rfl⟩
theorem qmf_4 : qMF 4 := ⟨qt2 (p := 226) rfl rfl, qt1 (p := 12) rfl rfl, by decide +kernel, rfl, by decide +kernel, qt2 (p := 224) rfl rfl, by decide +kernel, rfl, qt2 (p := 225) rfl rfl⟩
theorem qmf_5 : qMF 5 := ⟨qt2 (p := 178) rfl rfl, qt1 (p := 12) rfl rfl, by decide +kernel, rfl, by decide +kernel, qt2 (p := 176) rfl rfl, by decide +kernel, rfl, qt2 (p := 177) rfl rfl⟩
theorem qmf_6 : qMF 6 := ⟨qt3 (p := 13) rfl rfl, qt1 (p := 12) rfl rfl, by decide +kernel, rfl, by decide +kernel, qt3 (p := 11) rfl rfl, by decide +kernel, rfl, qt3 (p := 12) rfl rfl⟩
theorem qmf_7 : qMF 7 := ⟨qt2 (p := 185) rfl rfl, qt1 (p := 12) rfl rfl, by decide +kernel, rfl, by decide +kernel, qt2 (p := 183) rfl rfl, by decide +kernel, rfl, qt2 (p := 184) rfl rfl⟩
theorem qmf_8 : qMF 8 := ⟨qt1 (p := 28) rfl rfl, qt1 (p := 2) rfl rfl, by decide +kernel, rfl, by decide +kernel, qt1 (p := 27) rfl rfl, rfl, rfl⟩
theorem qmf_9 : qMF 9 := ⟨qt1 (p := 228) rfl rfl, qt1 (p := 2) rfl rfl, by decide +kernel, rfl, by decide +kernel, qt1 (p := 226) rfl rfl, by decide +kernel, rfl, qt1 (p := 227) rfl rfl⟩
theorem qmf_10 : qMF 10 := ⟨qt2 (p := 76) rfl rfl, qt1 (p := 2) rfl rfl, by decide +kernel, rfl, by decide +kernel, qt2 (p := 74) rfl rfl, by decide +kernel, rfl, qt2 (p := 75) rfl rfl⟩
theorem qmf_11 : qMF 11 := ⟨qt2 (p := 28) rfl rfl, qt1 (p := 2) rfl rfl, by decide +kernel, rfl, by decide +kernel, qt2 (p := 26) rfl rfl, by decide +kernel, rfl, qt2 (p := 27) rfl rfl⟩
theorem qmf_12 : qMF 12 := ⟨qt2 (p := 33) rfl rfl, qt1 (p := 2) rfl rfl, by decide +kernel, rfl, by decide +kernel, qt2 (p := 31) rfl rfl, by decide +kernel, rfl, qt2 (p := 32) rfl rfl⟩
theorem qmf_13 : qMF 13 := ⟨qt2 (p := 131) rfl rfl, qt1 (p := 2) rfl rfl, by decide +kernel, rfl, by decide +kernel, qt2 (p := 129) rfl rfl, by decide +kernel, rfl, qt2 (p := 130) rfl rfl⟩
theorem qmf_14 : qMF 14 := ⟨qt2 (p := 127) rfl rfl, qt1 (p := 2) rfl rfl, by decide +kernel, rfl, by decide +kernel, qt2 (p := 125) rfl rfl, by decide +kernel, rfl, qt2 (p := 126) rfl rfl⟩
theorem qmf_15 : qMF 15 := ⟨qt3 (p := 18) rfl rfl, qt1 (p := 2) rfl rfl, by decide +kernel, rfl, by decide +kernel, qt3 (p := 16) rfl rfl, by decide +kernel, rfl, qt3 (p := 17) rfl rfl⟩
theorem qmf_16 : qMF 16 := ⟨qt3 (p := 189) rfl rfl, qt1 (p := 2) rfl rfl, by decide +kernel, rfl, by decide +kernel, qt3 (p := 187) rfl rfl, by decide +kernel, rfl, qt3 (p := 188) rfl rfl⟩
theorem qmf_17 : qMF 17 := ⟨qt3 (p := 160) rfl rfl, qt1 (p := 2) rfl rfl, by decide +kernel, rfl, by decide +kernel, qt3 (p := 158) rfl rfl, by decide +kernel, rfl, qt3 (p := 159) rfl rfl⟩
theorem qmf_18 : qMF 18 := ⟨qt2 (p := 13) rfl rfl, qt1 (p := 2) rfl rfl, by decide +kernel, rfl, by decide +kernel, qt2 (p := 11) rfl rfl, by decide +kernel, rfl, qt2 (p := 12) rfl rfl⟩
theorem qmf_19 : qMF 19 := ⟨qt2 (p := 45) rfl rfl, qt1 (p := 2) rfl rfl, by decide +kernel, rfl, by decide +kernel, qt2 (p := 43) rfl rfl, by decide +kernel, rfl, qt2 (p := 44) rfl rfl⟩
theorem qmf_20 : qMF 20 := ⟨qt2 (p := 190) rfl rfl, qt1 (p := 2) rfl rfl, by decide +kernel, rfl, by decide +kernel, qt2 (p := 188) rfl rfl, by decide +kernel, rfl, qt2 (p := 189) rfl rfl⟩
theorem qmf_21 : qMF 21 := ⟨qt2 (p := 55) rfl rfl, qt1 (p := 2) rfl rfl, by decide +kernel, rfl, by decide +kernel, qt2 (p := 53) rfl rfl, by decide +kernel, rfl, qt2 (p := 54) rfl rfl⟩
theorem qmf_22 : qMF 22 := ⟨qt1 (p := 138) rfl rfl, qt1 (p := 8) rfl rfl, by decide +kernel, rfl, by decide +kernel, qt1 (p := 137) rfl rfl, rfl, rfl⟩
theorem qmf_23 : qMF 23 := ⟨qt2 (p := 174) rfl rfl, qt1 (p := 8) rfl rfl, by decide +kernel, rfl, by decide +kernel, qt2 (p := 172) rfl rfl, by decide +kernel, rfl, qt2 (p := 173) rfl rfl⟩
theorem qmf_24 : qMF 24 := ⟨qt2 (p := 193) rfl rfl, qt1 (p := 8) rfl rfl, by decide +kernel, rfl, by decide +kernel, qt2 (p := 192) rfl rfl⟩
theorem qmf_25 : qMF 25 := ⟨qt3 (p := 89) rfl rfl, qt1 (p := 8) rfl rfl, by decide +kernel, rfl, by decide +kernel, qt3 (p := 87) rfl rfl, by decide +kernel, rfl, qt3 (p := 88) rfl rfl⟩
theorem qmf_26 : qMF 26 := ⟨qt2 (p := 201) rfl rfl, qt1 (p := 8) rfl rfl, by decide +kernel, rfl, by decide +kernel, qt2 (p := 199) rfl rfl, by decide +kernel, rfl, qt2 (p := 200) rfl rfl⟩
theorem qmf_27 : qMF 27 := ⟨qt3 (p := 93) rfl rfl, qt1 (p := 8) rfl rfl, by decide +kernel, rfl, by decide +kernel, qt3 (p := 91) rfl rfl, by decide +kernel, rfl, qt3 (p := 92) rfl rfl⟩
theorem qmf_28 : qMF 28 := ⟨qt3 (p := 57) rfl rfl, qt1 (p := 8) rfl rfl, by decide +kernel, rfl, by decide +kernel, qt3 (p := 55) rfl rfl, by decide +kernel, rfl, qt3 (p := 56) rfl rfl⟩
theorem qmf_29 : qMF 29 := ⟨qt3 (p := 117) rfl rfl, qt1 (p := 8) rfl rfl, by decide +kernel, rfl, by decide +kernel, qt3 (p := 115) rfl rfl, by decide +kernel, rfl, qt3 (p := 116) rfl rfl⟩
theorem qmf_30 : qMF 30 := ⟨qt2 (p := 205) rfl rfl, qt1 (p := 8) rfl rfl, by decide +kernel, rfl, by decide +kernel, qt2 (p := 203) rfl rfl, by decide +kernel, rfl, qt2 (p := 204) rfl rfl⟩
theorem qmf_31 : qMF 31 := ⟨qt3 (p := 125) rfl rfl, qt1 (p := 8) rfl rfl, by decide +kernel, rfl, by decide +kernel, qt3 (p := 123) rfl rfl, by decide +kernel, rfl, qt3 (p := 124) rfl rfl⟩
theorem qmf_32 : qMF 32 := ⟨qt3 (p := 107) rfl rfl, qt1 (p := 8) rfl rfl, by decide +kernel, rfl, by decide +kernel, qt3 (p := 105) rfl rfl, by decide +kernel, rfl, qt3 (p := 106) rfl rfl⟩
theorem qmf_33 : qMF 33 := ⟨qt1 (p := 76) rfl rfl, qt1 (p := 4) rfl rfl, by decide +kernel, rfl, by decide +kernel, qt1 (p := 75) rfl rfl, rfl, rfl⟩
theorem qmf_34 : qMF 34 := ⟨qt2 (p := 161) rfl rfl, qt1 (p := 4) rfl rfl, by decide +kernel, rfl, by decide +kernel, qt2 (p := 159) rfl rfl, by decide +kernel, rfl, qt2 (p := 160) rfl rfl⟩
theorem qmf_35 : qMF 35 := ⟨qt2 (p := 144) rfl rfl, qt1 (p := 4) rfl rfl, by decide +kernel, rfl, by decide +kernel, qt2 (p := 142) rfl rfl, by decide +kernel, rfl, qt2 (p := 143) rfl rfl⟩
theorem qmf_36 : qMF 36 := ⟨qt4 (p := 72) rfl rfl, qt1 (p := 4) rfl rfl, by decide +kernel, rfl, by decide +kernel, qt4 (p := 70) rfl rfl, by decide +kernel, rfl, qt4 (p := 71) rfl rfl⟩
theorem qmf_37 : qMF 37 := ⟨qt4 (p := 84) rfl rfl, qt1 (p := 4) rfl rfl, by decide +kernel, rfl, by decide +kernel, qt4 (p := 82) rfl rfl, by decide +kernel, rfl, qt4 (p := 83) rfl rfl⟩
theorem qmf_38 : qMF 38 := ⟨qt2 (p := 165) rfl rfl, qt1 (p := 4) rfl rfl, by decide +kernel, rfl, by decide +kernel, qt2 (p := 163) rfl rfl, by decide +kernel, rfl, qt2 (p := 164) rfl rfl⟩
theorem qmf_39 : qMF 39 := ⟨qt2 (p := 169) rfl rfl, qt1 (p := 4) rfl rfl, by decide +kernel, rfl, by decide +kernel, qt2 (p := 168) rfl rfl, by decide +kernel, rfl, qt0 (p := 1) rfl rfl⟩
theorem qmf_40 : qMF 40 := ⟨qt2 (p := 230) rfl rfl, qt1 (p := 4) rfl rfl, by decide +kernel, rfl, by decide +kernel, qt2 (p := 229) rfl rfl, by decide +kernel, rfl, qt0 (p := 3) rfl rfl⟩
theorem qmf_41 : qMF 41 := ⟨qt3 (p := 9) rfl rfl, qt1 (p := 4) rfl rfl, by decide +kernel, rfl, by decide +kernel, qt3 (p := 8) rfl rfl, by decide +kernel, rfl, qt0 (p := 4) rfl rfl⟩
theorem qmf_42 : qMF 42 := ⟨qt4 (p := 46) rfl rfl, qt1 (p := 4) rfl rfl, by decide +kernel, rfl, by decide +kernel, qt4 (p := 45) rfl rfl, by decide +kernel, rfl, qt0 (p := 44) rfl rfl⟩
theorem qmf_43 : qMF 43 := ⟨qt1 (p := 103) rfl rfl, qt1 (p := 6) rfl rfl, by decide +kernel, rfl, by decide +kernel, qt1 (p := 102) rfl rfl, rfl, rfl⟩
theorem qmf_44 : qMF 44 := ⟨qt3 (p := 26) rfl rfl, qt1 (p := 6) rfl rfl, by decide +kernel, rfl, by decide +kernel, qt3 (p := 24) rfl rfl, by decide +kernel, rfl, qt3 (p := 25) rfl rfl⟩
theorem qmf_45 : qMF 45 := ⟨qt3 (p := 30) rfl rfl, qt1 (p := 6) rfl rfl, by decide +kernel, rfl, by decide +kernel, qt3 (p := 29) rfl rfl, by decide +kernel, rfl, qt0 (p := 5) rfl rfl⟩
theorem qmf_46 : qMF 46 := ⟨qt3 (p := 34) rfl rfl, qt1 (p := 6) rfl rfl, by decide +kernel, rfl, by decide +kernel, qt3 (p := 33) rfl rfl, by decide +kernel, rfl, qt0 (p := 6) rfl rfl⟩
theorem qmf_47 : qMF 47 := ⟨qt3 (p := 43) rfl rfl, qt1 (p := 6) rfl rfl, by decide +kernel, rfl, by decide +kernel, qt3 (p := 42) rfl rfl, by decide +kernel, rfl, qt0 (p := 7) rfl rfl⟩
theorem qmf_48 : qMF 48 := ⟨qt3 (p := 68) rfl rfl, qt1 (p := 6) rfl rfl, by decide +kernel, rfl, by decide +kernel, qt3 (p := 67) rfl rfl, by decide +kernel, rfl, qt0 (p := 8) rfl rfl⟩
theorem qmf_49 : qMF 49 := ⟨qt3 (p := 80) rfl rfl, qt1 (p := 6) rfl rfl, by decide +kernel, rfl, by decide +kernel, qt3 (p := 79) rfl rfl, by decide +kernel, rfl, qt0 (p := 9) rfl rfl⟩
theorem qmf_50 : qMF 50 := ⟨qt3 (p := 113) rfl rfl, qt1 (p := 6) rfl rfl, by decide +kernel, rfl, by decide +kernel, qt3 (p := 112) rfl rfl, by decide +kernel, rfl, qt0 (p := 13) rfl rfl⟩
theorem qmf_51 : qMF 51 := ⟨qt3 (p := 121) rfl rfl, qt1 (p := 6) rfl rfl, by decide +kernel, rfl, by decide +kernel, qt3 (p := 120) rfl rfl, by decide +kernel, rfl, qt0 (p := 14) rfl rfl⟩
theorem qmf_52 : qMF 52 := ⟨qt3 (p := 84) rfl rfl, qt1 (p := 6) rfl rfl, by decide +kernel, rfl, by decide +kernel, qt3 (p := 83) rfl rfl, by decide +kernel, rfl, qt0 (p := 10) rfl rfl⟩
theorem qmf_53 : qMF 53 := ⟨qt3 (p := 129) rfl rfl, qt1 (p := 6) rfl rfl, by decide +kernel, rfl, by decide +kernel, qt3 (p := 128) rfl rfl, by decide +kernel, rfl, qt0 (p := 15) rfl rfl⟩
theorem qmf_54 : qMF 54 := ⟨qt3 (p := 139) rfl rfl, qt1 (p := 6) rfl rfl, by decide +kernel, rfl, by decide +kernel, qt3 (p := 138) rfl rfl, by decide +kernel, rfl, qt0 (p := 16) rfl rfl⟩
theorem qmf_55 : qMF 55 := ⟨qt3 (p := 143) rfl rfl, qt1 (p := 6) rfl rfl, by decide +kernel, rfl, by decide +kernel, qt3 (p := 142) rfl rfl, by decide +kernel, rfl, qt0 (p := 17) rfl rfl⟩
theorem qmf_56 : qMF 56 := ⟨qt3 (p := 165) rfl rfl, qt1 (p := 6) rfl rfl, by decide +kernel, rfl, by decide +kernel, qt3 (p := 164) rfl rfl, by decide +kernel, rfl, qt0 (p := 19) rfl rfl⟩
theorem qmf_57 : qMF 57 := ⟨qt3 (p := 169) rfl rfl, qt1 (p := 6) rfl rfl, by decide +kernel, rfl, by decide +kernel, qt3 (p := 168) rfl rfl, by decide +kernel, rfl, qt0 (p := 20) rfl rfl⟩
theorem qmf_58 : qMF 58 := ⟨qt3 (p := 177) rfl rfl, qt1 (p := 6) rfl rfl, by decide +kernel, rfl, by decide +kernel, qt3 (p := 176) rfl rfl, by decide +kernel, rfl, qt0 (p := 22) rfl rfl⟩
theorem qmf_59 : qMF 59 := ⟨qt3 (p := 181) rfl rfl, qt1 (p := 6) rfl rfl, by decide +kernel, rfl, by decide +kernel, qt3 (p := 180) rfl rfl, by decide +kernel, rfl, qt0 (p := 23) rfl rfl⟩
theorem qmf_60 : qMF 60 := ⟨qt3 (p := 185) rfl rfl, qt1 (p := 6) rfl rfl, by decide +kernel, rfl, by decide +kernel, qt3 (p := 184) rfl rfl, by decide +kernel, rfl, qt0 (p := 24) rfl rfl⟩
theorem qmf_61 : qMF 61 := ⟨qt3 (p := 193) rfl rfl, qt1 (p := 6) rfl rfl, by decide +kernel, rfl, by decide +kernel, qt3 (p := 192) rfl rfl, by decide +kernel, rfl, qt0 (p := 25) rfl rfl⟩
theorem qmf_62 : qMF 62 := ⟨qt3 (p := 197) rfl rfl, qt1 (p := 6) rfl rfl, by decide +kernel, rfl, by decide +kernel, qt3 (p := 196) rfl rfl, by decide +kernel, rfl, qt0 (p := 26) rfl rfl⟩
theorem qmf_63 : qMF 63 := ⟨qt3 (p := 202) rfl rfl, qt1 (p := 6) rfl rfl, by decide +kernel, rfl, by decide +kernel, qt3 (p := 201) rfl rfl, by decide +kernel, rfl, qt0 (p := 27) rfl rfl⟩
theorem qmf_64 : qMF 64 := ⟨qt3 (p := 211) rfl rfl, qt1 (p := 6) rfl rfl, by decide +kernel, rfl, by decide +kernel, qt3 (p := 210) rfl rfl, by decide +kernel, rfl, qt0 (p := 28) rfl rfl⟩
theorem qmf_65 : qMF 65 := ⟨qt3 (p := 215) rfl rfl, qt1 (p := 6) rfl rfl, by decide +kernel, rfl, by decide +kernel, qt3 (p := 214) rfl rfl, by decide +kernel, rfl, qt0 (p := 29) rfl rfl⟩
theorem qmf_66 : qMF 66 := ⟨qt3 (p := 220) rfl rfl, qt1 (p := 6) rfl rfl, by decide +kernel, rfl, by decide +kernel, qt3 (p := 219) rfl rfl, by decide +kernel, rfl, qt0 (p := 30) rfl rfl⟩
theorem qmf_67 : qMF 67 := ⟨qt3 (p := 224) rfl rfl, qt1 (p := 6) rfl rfl, by decide +kernel, rfl, by decide +kernel, qt3 (p := 223) rfl rfl, by decide +kernel, rfl, qt0 (p := 31) rfl rfl⟩
theorem qmf_68 : qMF 68 := ⟨qt4 (p := 8) rfl rfl, qt1 (p := 6) rfl rfl, by decide +kernel, rfl, by decide +kernel, qt4 (p := 7) rfl rfl⟩
theorem qmf_69 : qMF 69 := ⟨qt3 (p := 232) rfl rfl, qt1 (p := 6) rfl rfl, by decide +kernel, rfl, by decide +kernel, qt3 (p := 231) rfl rfl, by decide +kernel, rfl, qt0 (p := 33) rfl rfl⟩
theorem qmf_70 : qMF 70 := ⟨qt3 (p := 228) rfl rfl, qt1 (p := 6) rfl rfl, by decide +kernel, rfl, by decide +kernel, qt3 (p := 227) rfl rfl, by decide +kernel, rfl, qt0 (p := 32) rfl rfl⟩
theorem qmf_71 : qMF 71 := ⟨qt4 (p := 1) rfl rfl, qt1 (p := 6) rfl rfl, by decide +kernel, rfl, by decide +kernel, qt4 (p := 0) rfl rfl, by decide +kernel, rfl, qt0 (p := 34) rfl rfl⟩
theorem qmf_72 : qMF 72 := ⟨qt4 (p := 5) rfl rfl, qt1 (p := 6) rfl rfl, by decide +kernel, rfl, by decide +kernel, qt4 (p := 4) rfl rfl, by decide +kernel, rfl, qt0 (p := 35) rfl rfl⟩
theorem qmf_73 : qMF 73 := ⟨qt4 (p := 12) rfl rfl, qt1 (p := 6) rfl rfl, by decide +kernel, rfl, by decide +kernel, qt4 (p := 11) rfl rfl, by decide +kernel, rfl, qt0 (p := 36) rfl rfl⟩
theorem qmf_74 : qMF 74 := ⟨qt4 (p := 16) rfl rfl, qt1 (p := 6) rfl rfl, by decide +kernel, rfl, by decide +kernel, qt4 (p := 15) rfl rfl, by decide +kernel, rfl, qt0 (p := 37) rfl rfl⟩
theorem qmf_75 : qMF 75 := ⟨qt4 (p := 20) rfl rfl, qt1 (p := 6) rfl rfl, by decide +kernel, rfl, by decide +kernel, qt4 (p := 19) rfl rfl, by decide +kernel, rfl, qt0 (p := 38) rfl rfl⟩
theorem qmf_76 : qMF 76 := ⟨qt4 (p := 24) rfl rfl, qt1 (p := 6) rfl rfl, by decide +kernel, rfl, by decide +kernel, qt4 (p := 23) rfl rfl, by decide +kernel, rfl, qt0 (p := 39) rfl rfl⟩
theorem qmf_77 : qMF 77 := ⟨qt4 (p := 29) rfl rfl, qt1 (p := 6) rfl rfl, by decide +kernel, rfl, by decide +kernel, qt4 (p := 28) rfl rfl, by decide +kernel, rfl, qt0 (p := 40) rfl rfl⟩
theorem qmf_78 : qMF 78 := ⟨qt4 (p := 33) rfl rfl, qt1 (p := 6) rfl rfl, by decide +kernel, rfl, by decide +kernel, qt4 (p := 32) rfl rfl, by decide +kernel, rfl, qt0 (p := 41) rfl rfl⟩
theorem qmf_79 : qMF 79 := ⟨qt4 (p := 42) rfl rfl, qt1 (p := 6) rfl rfl, by decide +kernel, rfl, by decide +kernel, qt4 (p := 41) rfl rfl, by decide +kernel, rfl, qt0 (p := 43) rfl rfl⟩
theorem qmf_80 : qMF 80 := ⟨qt4 (p := 37) rfl rfl, qt1 (p := 6) rfl rfl, by decide +kernel, rfl, by decide +kernel, qt4 (p := 36) rfl rfl, by decide +kernel, rfl, qt0 (p := 42) rfl rfl⟩
theorem qmf_81 : qMF 81 := ⟨qt3 (p := 151) rfl rfl, qt1 (p := 6) rfl rfl, by decide +kernel, rfl, by decide +kernel, qt3 (p := 150) rfl rfl, by decide +kernel, rfl, qt0 (p := 18) rfl rfl⟩
theorem qmf_82 : qMF 82 := ⟨qt3 (p := 173) rfl rfl, qt1 (p := 6) rfl rfl, by decide +kernel, rfl, by decide +kernel, qt3 (p := 172) rfl rfl, by decide +kernel, rfl, qt0 (p := 21) rfl rfl⟩
theorem qmf_83 : qMF 83 := ⟨qt3 (p := 99) rfl rfl, qt1 (p := 6) rfl rfl, by decide +kernel, rfl, by decide +kernel, qt3 (p := 98) rfl rfl, by decide +kernel, rfl, qt0 (p := 11) rfl rfl⟩
theorem qmf_84 : qMF 84 := ⟨qt3 (p := 103) rfl rfl, qt1 (p := 6) rfl rfl, by decide +kernel, rfl, by decide +kernel, qt3 (p := 102) rfl rfl, by decide +kernel, rfl, qt0 (p := 12) rfl rfl⟩
theorem qmf_85 : qMF 85 := ⟨qt2 (p := 222) rfl rfl, qt1 (p := 15) rfl rfl, by decide +kernel, rfl, by decide +kernel, qt2 (p := 221) rfl rfl⟩
theorem qmf_86 : qMF 86 := ⟨qt1 (p := 109) rfl rfl, qt1 (p := 7) rfl rfl, by decide +kernel, rfl, by decide +kernel, qt1 (p := 108) rfl rfl, rfl, rfl⟩
theorem qmf_87 : qMF 87 := ⟨qt3 (p := 1) rfl rfl, qt1 (p := 7) rfl rfl, by decide +kernel, rfl, by decide +kernel, qt2 (p := 239) rfl rfl, by decide +kernel, rfl, qt3 (p := 0) rfl rfl⟩
theorem qmf_88 : qMF 88 := ⟨qt3 (p := 73) rfl rfl, qt1 (p := 7) rfl rfl, by decide +kernel, rfl, by decide +kernel, qt3 (p := 71) rfl rfl, by decide +kernel, rfl, qt3 (p := 72) rfl rfl⟩
theorem qmf_89 : qMF 89 := ⟨qt3 (p := 38) rfl rfl, qt1 (p := 7) rfl rfl, by decide +kernel, rfl, by decide +kernel, qt3 (p := 36) rfl rfl, by decide +kernel, rfl, qt3 (p := 37) rfl rfl⟩
theorem qmf_90 : qMF 90 := ⟨qt3 (p := 63) rfl rfl, qt1 (p := 7) rfl rfl, by decide +kernel, rfl, by decide +kernel, qt3 (p := 61) rfl rfl, by decide +kernel, rfl, qt3 (p := 62) rfl rfl⟩
theorem qmf_91 : qMF 91 := ⟨qt3 (p := 47) rfl rfl, qt1 (p := 7) rfl rfl, by decide +kernel, rfl, by decide +kernel, qt3 (p := 45) rfl rfl, by decide +kernel, rfl, qt3 (p := 46) rfl rfl⟩
theorem qmf_92 : qMF 92 := ⟨qt3 (p := 52) rfl rfl, qt1 (p := 7) rfl rfl, by decide +kernel, rfl, by decide +kernel, qt3 (p := 50) rfl rfl, by decide +kernel, rfl, qt3 (p := 51) rfl rfl⟩
theorem qmf_93 : qMF 93 := ⟨qt1 (p := 82) rfl rfl, qt1 (p := 5) rfl rfl, by decide +kernel, rfl, by decide +kernel, qt1 (p := 81) rfl rfl, rfl, rfl⟩
theorem qmf_94 : qMF 94 := ⟨qt2 (p := 209) rfl rfl, qt1 (p := 5) rfl rfl, by decide +kernel, rfl, by decide +kernel, qt2 (p := 207) rfl rfl, by decide +kernel, rfl, qt2 (p := 208) rfl rfl⟩
theorem qmf_95 : qMF 95 := ⟨qt2 (p := 234) rfl rfl, qt1 (p := 5) rfl rfl, by decide +kernel, rfl, by decide +kernel, qt2 (p := 232) rfl rfl, by decide +kernel, rfl, qt2 (p := 233) rfl rfl⟩
theorem qmf_96 : qMF 96 := ⟨qt4 (p := 76) rfl rfl, qt1 (p := 5) rfl rfl, by decide +kernel, rfl, by decide +kernel, qt4 (p := 74) rfl rfl, by decide +kernel, rfl, qt4 (p := 75) rfl rfl⟩
theorem qmf_97 : qMF 97 := ⟨qt4 (p := 88) rfl rfl, qt1 (p := 5) rfl rfl, by decide +kernel, rfl, by decide +kernel, qt4 (p := 86) rfl rfl, by decide +kernel, rfl, qt4 (p := 87) rfl rfl⟩
theorem qmf_98 : qMF 98 := ⟨qt4 (p := 96) rfl rfl, qt1 (p := 5) rfl rfl, by decide +kernel, rfl, by decide +kernel, qt4 (p := 94) rfl rfl, by decide +kernel, rfl, qt4 (p := 95) rfl rfl⟩
theorem qmf_99 : qMF 99 := ⟨qt3 (p := 5) rfl rfl, qt1 (p := 5) rfl rfl, by decide +kernel, rfl, by decide +kernel, qt3 (p := 3) rfl rfl, by decide +kernel, rfl, qt3 (p := 4) rfl rfl⟩
theorem qmf_100 : qMF 100 := ⟨qt4 (p := 50) rfl rfl, qt1 (p := 5) rfl rfl, by decide +kernel, rfl, by decide +kernel, qt4 (p := 48) rfl rfl, by decide +kernel, rfl, qt4 (p := 49) rfl rfl⟩
theorem qmf_101 : qMF 101 := ⟨qt2 (p := 213) rfl rfl, qt1 (p := 5) rfl rfl, by decide +kernel, rfl, by decide +kernel, qt2 (p := 212) rfl rfl, by decide +kernel, rfl, qt0 (p := 2) rfl rfl⟩
theorem qmf_102 : qMF 102 := ⟨qt4 (p := 60) rfl rfl, qt1 (p := 5) rfl rfl, by decide +kernel, rfl, by decide +kernel, qt4 (p := 59) rfl rfl, by decide +kernel, rfl, qt0 (p := 46) rfl rfl⟩
theorem qmf_103 : qMF 103 := ⟨qt4 (p := 54) rfl rfl, qt1 (p := 5) rfl rfl, by decide +kernel, rfl, by decide +kernel, qt4 (p := 53) rfl rfl, by decide +kernel, rfl, qt0 (p := 45) rfl rfl⟩
theorem qmf_104 : qMF 104 := ⟨qt2 (p := 237) rfl rfl, qt1 (p := 5) rfl rfl, by decide +kernel, rfl, by decide +kernel, qt2 (p := 236) rfl rfl⟩
theorem qmf_105 : qMF 105 := ⟨qt2 (p := 216) rfl rfl, qt1 (p := 5) rfl rfl, by decide +kernel, rfl, by decide +kernel, qt2 (p := 215) rfl rfl⟩
theorem qmf_106 : qMF 106 := ⟨qt1 (p := 232) rfl rfl, qt1 (p := 10) rfl rfl, by decide +kernel, rfl, by decide +kernel, qt1 (p := 231) rfl rfl, rfl, rfl⟩
theorem qmf_107 : qMF 107 := ⟨qt2 (p := 16) rfl rfl, qt1 (p := 11) rfl rfl, by decide +kernel, rfl, by decide +kernel, qt2 (p := 15) rfl rfl⟩
theorem qmf_108 : qMF 108 := ⟨qt2 (p := 22) rfl rfl, qt1 (p := 11) rfl rfl, by decide +kernel, rfl, by decide +kernel, qt2 (p := 21) rfl rfl⟩
theorem qmf_109 : qMF 109 := ⟨qt3 (p := 155) rfl rfl, qt1 (p := 11) rfl rfl, by decide +kernel, rfl, by decide +kernel, qt3 (p := 154) rfl rfl⟩
theorem qmf_110 : qMF 110 := ⟨qt3 (p := 135) rfl rfl, qt1 (p := 11) rfl rfl, by decide +kernel, rfl, by decide +kernel, qt3 (p := 134) rfl rfl⟩
theorem qmf_111 : qMF 111 := ⟨qt3 (p := 132) rfl rfl, qt1 (p := 11) rfl rfl, by decide +kernel, rfl, by decide +kernel, qt3 (p := 131) rfl rfl⟩
theorem qmf_112 : qMF 112 := ⟨qt3 (p := 146) rfl rfl, qt1 (p := 11) rfl rfl, by decide +kernel, rfl, by decide +kernel, qt3 (p := 145) rfl rfl⟩
theorem qmf_113 : qMF 113 := ⟨qt2 (p := 19) rfl rfl, qt1 (p := 11) rfl rfl, by decide +kernel, rfl, by decide +kernel, qt2 (p := 18) rfl rfl⟩
theorem qmf_114 : qMF 114 := ⟨qt2 (p := 197) rfl rfl, qt1 (p := 11) rfl rfl, by decide +kernel, rfl, by decide +kernel, qt2 (p := 196) rfl rfl⟩
theorem qmf_115 : qMF 115 := ⟨qt3 (p := 235) rfl rfl, qt1 (p := 11) rfl rfl, by decide +kernel, rfl, by decide +kernel, qt3 (p := 234) rfl rfl⟩
theorem qmf_116 : qMF 116 := ⟨qt1 (p := 36) rfl rfl, qt1 (p := 3) rfl rfl, by decide +kernel, rfl, by decide +kernel, qt1 (p := 35) rfl rfl, rfl, rfl⟩
theorem qmf_117 : qMF 117 := ⟨qt2 (p := 37) rfl rfl, qt1 (p := 3) rfl rfl, by decide +kernel, rfl, by decide +kernel, qt2 (p := 35) rfl rfl, by decide +kernel, rfl, qt2 (p := 36) rfl rfl⟩
theorem qmf_118 : qMF 118 := ⟨qt2 (p := 63) rfl rfl, qt1 (p := 3) rfl rfl, by decide +kernel, rfl, by decide +kernel, qt2 (p := 61) rfl rfl, by decide +kernel, rfl, qt2 (p := 62) rfl rfl⟩
theorem qmf_119 : qMF 119 := ⟨qt2 (p := 59) rfl rfl, qt1 (p := 3) rfl rfl, by decide +kernel, rfl, by decide +kernel, qt2 (p := 57) rfl rfl, by decide +kernel, rfl, qt2 (p := 58) rfl rfl⟩
theorem qmf_120 : qMF 120 := ⟨qt1 (p := 20) rfl rfl, qt1 (p := 1) rfl rfl, by decide +kernel, rfl, by decide +kernel, qt1 (p := 19) rfl rfl, rfl, rfl⟩
theorem qmf_121 : qMF 121 := ⟨qt1 (p := 224) rfl rfl, qt1 (p := 1) rfl rfl, by decide +kernel, rfl, by decide +kernel, qt1 (p := 222) rfl rfl, by decide +kernel, rfl, qt1 (p := 223) rfl rfl⟩
theorem qmf_122 : qMF 122 := ⟨qt2 (p := 9) rfl rfl, qt1 (p := 1) rfl rfl, by decide +kernel, rfl, by decide +kernel, qt2 (p := 7) rfl rfl, by decide +kernel, rfl, qt2 (p := 8) rfl rfl⟩
theorem qmf_123 : qMF 123 := ⟨qt2 (p := 41) rfl rfl, qt1 (p := 1) rfl rfl, by decide +kernel, rfl, by decide +kernel, qt2 (p := 39) rfl rfl, by decide +kernel, rfl, qt2 (p := 40) rfl rfl⟩
theorem qmf_124 : qMF 124 := ⟨qt2 (p := 50) rfl rfl, qt1 (p := 1) rfl rfl, by decide +kernel, rfl, by decide +kernel, qt2 (p := 48) rfl rfl, by decide +kernel, rfl, qt2 (p := 49) rfl rfl⟩
theorem qmf_125 : qMF 125 := ⟨qt2 (p := 68) rfl rfl, qt1 (p := 1) rfl rfl, by decide +kernel, rfl, by decide +kernel, qt2 (p := 66) rfl rfl, by decide +kernel, rfl, qt2 (p := 67) rfl rfl⟩
theorem qmf_126 : qMF 126 := ⟨qt2 (p := 72) rfl rfl, qt1 (p := 1) rfl rfl, by decide +kernel, rfl, by decide +kernel, qt2 (p := 70) rfl rfl, by decide +kernel, rfl, qt2 (p := 71) rfl rfl⟩
theorem qmf_127 : qMF 127 := ⟨qt2 (p := 123) rfl rfl, qt1 (p := 1) rfl rfl, by decide +kernel, rfl, by decide +kernel, qt2 (p := 121) rfl rfl, by decide +kernel, rfl, qt2 (p := 122) rfl rfl⟩
theorem qmf_128 : qMF 128 := ⟨qt2 (p := 148) rfl rfl, qt1 (p := 1) rfl rfl, by decide +kernel, rfl, by decide +kernel, qt2 (p := 146) rfl rfl, by decide +kernel, rfl, qt2 (p := 147) rfl rfl⟩
theorem qmf_129 : qMF 129 := ⟨qt2 (p := 156) rfl rfl, qt1 (p := 1) rfl rfl, by decide +kernel, rfl, by decide +kernel, qt2 (p := 154) rfl rfl, by decide +kernel, rfl, qt2 (p := 155) rfl rfl⟩
theorem qmf_130 : qMF 130 := ⟨qt4 (p := 64) rfl rfl, qt1 (p := 1) rfl rfl, by decide +kernel, rfl, by decide +kernel, qt4 (p := 62) rfl rfl, by decide +kernel, rfl, qt4 (p := 63) rfl rfl⟩
theorem qmf_131 : qMF 131 := ⟨qt4 (p := 68) rfl rfl, qt1 (p := 1) rfl rfl, by decide +kernel, rfl, by decide +kernel, qt4 (p := 66) rfl rfl, by decide +kernel, rfl, qt4 (p := 67) rfl rfl⟩
theorem qmf_132 : qMF 132 := ⟨qt4 (p := 80) rfl rfl, qt1 (p := 1) rfl rfl, by decide +kernel, rfl, by decide +kernel, qt4 (p := 78) rfl rfl, by decide +kernel, rfl, qt4 (p := 79) rfl rfl⟩
theorem qmf_133 : qMF 133 := ⟨qt4 (p := 92) rfl rfl, qt1 (p := 1) rfl rfl, by decide +kernel, rfl, by decide +kernel, qt4 (p := 90) rfl rfl, by decide +kernel, rfl, qt4 (p := 91) rfl rfl⟩
theorem qmf_134 : qMF 134 := ⟨qt2 (p := 140) rfl rfl, qt1 (p := 1) rfl rfl, by decide +kernel, rfl, by decide +kernel, qt2 (p := 139) rfl rfl, by decide +kernel, rfl, qt0 (p := 0) rfl rfl⟩
theorem qmf_135 : qMF 135 := ⟨qt4 (p := 101) rfl rfl, qt1 (p := 9) rfl rfl, by decide +kernel, rfl, by decide +kernel, qt4 (p := 100) rfl rfl, rfl, rfl⟩
theorem qmf_136 : qMF 136 := ⟨qt4 (p := 233) rfl rfl, qt1 (p := 9) rfl rfl, by decide +kernel, rfl, by decide +kernel, qt4 (p := 232) rfl rfl⟩
theorem qmf_137 : qMF 137 := ⟨qt4 (p := 236) rfl rfl, qt1 (p := 9) rfl rfl, by decide +kernel, rfl, by decide +kernel, qt4 (p := 235) rfl rfl⟩
theorem qmf_138 : qMF 138 := ⟨qt5 (p := 1) rfl rfl, qt1 (p := 9) rfl rfl, by decide +kernel, rfl, by decide +kernel, qt5 (p := 0) rfl rfl, by decide +kernel, rfl, qt0 (p := 48) rfl rfl⟩
theorem qmf_139 : qMF 139 := ⟨qt4 (p := 230) rfl rfl, qt1 (p := 9) rfl rfl, by decide +kernel, rfl, by decide +kernel, qt4 (p := 229) rfl rfl, by decide +kernel, rfl, qt0 (p := 47) rfl rfl⟩
theorem qmf_140 : qMF 140 := ⟨qt5 (p := 12) rfl rfl, qt1 (p := 9) rfl rfl, by decide +kernel, rfl, by decide +kernel, qt5 (p := 11) rfl rfl⟩
theorem qmf_141 : qMF 141 := ⟨qt5 (p := 110) rfl rfl, qt1 (p := 9) rfl rfl, by decide +kernel, rfl, by decide +kernel, qt5 (p := 109) rfl rfl⟩
theorem qmf_142 : qMF 142 := ⟨qt5 (p := 128) rfl rfl, qt1 (p := 9) rfl rfl, by decide +kernel, rfl, by decide +kernel, qt5 (p := 127) rfl rfl⟩
theorem qmf_143 : qMF 143 := ⟨qt5 (p := 113) rfl rfl, qt1 (p := 9) rfl rfl, by decide +kernel, rfl, by decide +kernel, qt5 (p := 112) rfl rfl⟩
theorem qmf_144 : qMF 144 := ⟨qt5 (p := 120) rfl rfl, qt1 (p := 9) rfl rfl, by decide +kernel, rfl, by decide +kernel, qt5 (p := 119) rfl rfl⟩
theorem qmf_145 : qMF 145 := ⟨qt5 (p := 9) rfl rfl, qt1 (p := 9) rfl rfl, by decide +kernel, rfl, by decide +kernel, qt5 (p := 8) rfl rfl, by decide +kernel, rfl, qt0 (p := 49) rfl rfl⟩
theorem qmf_146 : qMF 146 := ⟨qt5 (p := 80) rfl rfl, qt1 (p := 9) rfl rfl, by decide +kernel, rfl, by decide +kernel, qt5 (p := 79) rfl rfl, by decide +kernel, rfl, qt0 (p := 60) rfl rfl⟩
theorem qmf_147 : qMF 147 := ⟨qt4 (p := 222) rfl rfl, qt1 (p := 9) rfl rfl, by decide +kernel, rfl, by decide +kernel, qt4 (p := 220) rfl rfl, by decide +kernel, rfl, qt4 (p := 221) rfl rfl⟩
theorem qmf_148 : qMF 148 := ⟨qt4 (p := 226) rfl rfl, qt1 (p := 9) rfl rfl, by decide +kernel, rfl, by decide +kernel, qt4 (p := 224) rfl rfl, by decide +kernel, rfl, qt4 (p := 225) rfl rfl⟩
theorem qmf_149 : qMF 149 := ⟨qt5 (p := 5) rfl rfl, qt1 (p := 9) rfl rfl, by decide +kernel, rfl, by decide +kernel, qt5 (p := 3) rfl rfl, by decide +kernel, rfl, qt5 (p := 4) rfl rfl⟩
theorem qmf_150 : qMF 150 := ⟨qt5 (p := 16) rfl rfl, qt1 (p := 9) rfl rfl, by decide +kernel, rfl, by decide +kernel, qt5 (p := 14) rfl rfl, by decide +kernel, rfl, qt5 (p := 15) rfl rfl⟩
theorem qmf_151 : qMF 151 := ⟨qt5 (p := 20) rfl rfl, qt1 (p := 9) rfl rfl, by decide +kernel, rfl, by decide +kernel, qt5 (p := 18) rfl rfl, by decide +kernel, rfl, qt5 (p := 19) rfl rfl⟩
theorem qmf_152 : qMF 152 := ⟨qt5 (p := 24) rfl rfl, qt1 (p := 9) rfl rfl, by decide +kernel, rfl, by decide +kernel, qt5 (p := 22) rfl rfl, by decide +kernel, rfl, qt5 (p := 23) rfl rfl⟩
theorem qmf_153 : qMF 153 := ⟨qt5 (p := 28) rfl rfl, qt1 (p := 9) rfl rfl, by decide +kernel, rfl, by decide +kernel, qt5 (p := 26) rfl rfl, by decide +kernel, rfl, qt5 (p := 27) rfl rfl⟩
theorem qmf_154 : qMF 154 := ⟨qt5 (p := 32) rfl rfl, qt1 (p := 9) rfl rfl, by decide +kernel, rfl, by decide +kernel, qt5 (p := 31) rfl rfl, by decide +kernel, rfl, qt0 (p := 50) rfl rfl⟩
theorem qmf_155 : qMF 155 := ⟨qt5 (p := 36) rfl rfl, qt1 (p := 9) rfl rfl, by decide +kernel, rfl, by decide +kernel, qt5 (p := 34) rfl rfl, by decide +kernel, rfl, qt5 (p := 35) rfl rfl⟩
theorem qmf_156 : qMF 156 := ⟨qt5 (p := 48) rfl rfl, qt1 (p := 9) rfl rfl, by decide +kernel, rfl, by decide +kernel, qt5 (p := 47) rfl rfl, by decide +kernel, rfl, qt0 (p := 52) rfl rfl⟩
theorem qmf_157 : qMF 157 := ⟨qt5 (p := 52) rfl rfl, qt1 (p := 9) rfl rfl, by decide +kernel, rfl, by decide +kernel, qt5 (p := 51) rfl rfl, by decide +kernel, rfl, qt0 (p := 53) rfl rfl⟩
theorem qmf_158 : qMF 158 := ⟨qt5 (p := 64) rfl rfl, qt1 (p := 9) rfl rfl, by decide +kernel, rfl, by decide +kernel, qt5 (p := 63) rfl rfl, by decide +kernel, rfl, qt0 (p := 56) rfl rfl⟩
theorem qmf_159 : qMF 159 := ⟨qt5 (p := 60) rfl rfl, qt1 (p := 9) rfl rfl, by decide +kernel, rfl, by decide +kernel, qt5 (p := 59) rfl rfl, by decide +kernel, rfl, qt0 (p := 55) rfl rfl⟩
theorem qmf_160 : qMF 160 := ⟨qt5 (p := 99) rfl rfl, qt1 (p := 9) rfl rfl, by decide +kernel, rfl, by decide +kernel, qt5 (p := 98) rfl rfl, by decide +kernel, rfl, qt0 (p := 64) rfl rfl⟩
theorem qmf_161 : qMF 161 := ⟨qt5 (p := 95) rfl rfl, qt1 (p := 9) rfl rfl, by decide +kernel, rfl, by decide +kernel, qt5 (p := 94) rfl rfl, by decide +kernel, rfl, qt0 (p := 63) rfl rfl⟩
theorem qmf_162 : qMF 162 := ⟨qt5 (p := 76) rfl rfl, qt1 (p := 9) rfl rfl, by decide +kernel, rfl, by decide +kernel, qt5 (p := 75) rfl rfl, by decide +kernel, rfl, qt0 (p := 59) rfl rfl⟩
theorem qmf_163 : qMF 163 := ⟨qt5 (p := 89) rfl rfl, qt1 (p := 9) rfl rfl, by decide +kernel, rfl, by decide +kernel, qt5 (p := 88) rfl rfl, by decide +kernel, rfl, qt0 (p := 62) rfl rfl⟩
theorem qmf_164 : qMF 164 := ⟨qt5 (p := 125) rfl rfl, qt1 (p := 9) rfl rfl, by decide +kernel, rfl, by decide +kernel, qt5 (p := 124) rfl rfl, by decide +kernel, rfl, qt0 (p := 68) rfl rfl⟩
theorem qmf_165 : qMF 165 := ⟨qt5 (p := 151) rfl rfl, qt1 (p := 9) rfl rfl, by decide +kernel, rfl, by decide +kernel, qt5 (p := 150) rfl rfl⟩
theorem qmf_166 : qMF 166 := ⟨qt5 (p := 148) rfl rfl, qt1 (p := 9) rfl rfl, by decide +kernel, rfl, by decide +kernel, qt5 (p := 147) rfl rfl, by decide +kernel, rfl, qt0 (p := 73) rfl rfl⟩
theorem qmf_167 : qMF 167 := ⟨qt5 (p := 107) rfl rfl, qt1 (p := 9) rfl rfl, by decide +kernel, rfl, by decide +kernel, qt5 (p := 106) rfl rfl, by decide +kernel, rfl, qt0 (p := 66) rfl rfl⟩
theorem qmf_168 : qMF 168 := ⟨qt5 (p := 132) rfl rfl, qt1 (p := 9) rfl rfl, by decide +kernel, rfl, by decide +kernel, qt5 (p := 131) rfl rfl, by decide +kernel, rfl, qt0 (p := 69) rfl rfl⟩
theorem qmf_169 : qMF 169 := ⟨qt5 (p := 103) rfl rfl, qt1 (p := 9) rfl rfl, by decide +kernel, rfl, by decide +kernel, qt5 (p := 102) rfl rfl, by decide +kernel, rfl, qt0 (p := 65) rfl rfl⟩
theorem qmf_170 : qMF 170 := ⟨qt5 (p := 117) rfl rfl, qt1 (p := 9) rfl rfl, by decide +kernel, rfl, by decide +kernel, qt5 (p := 116) rfl rfl, by decide +kernel, rfl, qt0 (p := 67) rfl rfl⟩
theorem qmf_171 : qMF 171 := ⟨qt5 (p := 140) rfl rfl, qt1 (p := 9) rfl rfl, by decide +kernel, rfl, by decide +kernel, qt5 (p := 139) rfl rfl, by decide +kernel, rfl, qt0 (p := 71) rfl rfl⟩
theorem qmf_172 : qMF 172 := ⟨qt5 (p := 144) rfl rfl, qt1 (p := 9) rfl rfl, by decide +kernel, rfl, by decide +kernel, qt5 (p := 143) rfl rfl, by decide +kernel, rfl, qt0 (p := 72) rfl rfl⟩
theorem qmf_173 : qMF 173 := ⟨qt5 (p := 158) rfl rfl, qt1 (p := 9) rfl rfl, by decide +kernel, rfl, by decide +kernel, qt5 (p := 157) rfl rfl, by decide +kernel, rfl, qt0 (p := 74) rfl rfl⟩
theorem qmf_174 : qMF 174 := ⟨qt5 (p := 162) rfl rfl, qt1 (p := 9) rfl rfl, by decide +kernel, rfl, by decide +kernel, qt5 (p := 161) rfl rfl, by decide +kernel, rfl, qt0 (p := 75) rfl rfl⟩
theorem qmf_175 : qMF 175 := ⟨qt5 (p := 84) rfl rfl, qt1 (p := 9) rfl rfl, by decide +kernel, rfl, by decide +kernel, qt5 (p := 83) rfl rfl, by decide +kernel, rfl, qt0 (p := 61) rfl rfl⟩
theorem qmf_176 : qMF 176 := ⟨qt5 (p := 72) rfl rfl, qt1 (p := 9) rfl rfl, by decide +kernel, rfl, by decide +kernel, qt5 (p := 71) rfl rfl, by decide +kernel, rfl, qt0 (p := 58) rfl rfl⟩
theorem qmf_177 : qMF 177 := ⟨qt5 (p := 136) rfl rfl, qt1 (p := 9) rfl rfl, by decide +kernel, rfl, by decide +kernel, qt5 (p := 135) rfl rfl, by decide +kernel, rfl, qt0 (p := 70) rfl rfl⟩
theorem qmf_178 : qMF 178 := ⟨qt5 (p := 68) rfl rfl, qt1 (p := 9) rfl rfl, by decide +kernel, rfl, by decide +kernel, qt5 (p := 67) rfl rfl, by decide +kernel, rfl, qt0 (p := 57) rfl rfl⟩
theorem qmf_179 : qMF 179 := ⟨qt5 (p := 167) rfl rfl, qt1 (p := 9) rfl rfl, by decide +kernel, rfl, by decide +kernel, qt5 (p := 166) rfl rfl, by decide +kernel, rfl, qt0 (p := 76) rfl rfl⟩
theorem qmf_180 : qMF 180 := ⟨qt5 (p := 171) rfl rfl, qt1 (p := 9) rfl rfl, by decide +kernel, rfl, by decide +kernel, qt5 (p := 170) rfl rfl, by decide +kernel, rfl, qt0 (p := 77) rfl rfl⟩
theorem qmf_181 : qMF 181 := ⟨qt5 (p := 175) rfl rfl, qt1 (p := 9) rfl rfl, by decide +kernel, rfl, by decide +kernel, qt5 (p := 174) rfl rfl, by decide +kernel, rfl, qt0 (p := 78) rfl rfl⟩
theorem qmf_182 : qMF 182 := ⟨qt5 (p := 44) rfl rfl, qt1 (p := 9) rfl rfl, by decide +kernel, rfl, by decide +kernel, qt5 (p := 43) rfl rfl, by decide +kernel, rfl, qt0 (p := 51) rfl rfl⟩
theorem qmf_183 : qMF 183 := ⟨qt5 (p := 56) rfl rfl, qt1 (p := 9) rfl rfl, by decide +kernel, rfl, by decide +kernel, qt5 (p := 55) rfl rfl, by decide +kernel, rfl, qt0 (p := 54) rfl rfl⟩
theorem qmf_184 : qMF 184 := ⟨qt5 (p := 40) rfl rfl, qt1 (p := 9) rfl rfl, by decide +kernel, rfl, by decide +kernel, qt5 (p := 38) rfl rfl, by decide +kernel, rfl, qt5 (p := 39) rfl rfl⟩
theorem qmf_185 : qMF 185 := ⟨qt5 (p := 180) rfl rfl, qt1 (p := 9) rfl rfl, by decide +kernel, rfl, by decide +kernel, qt5 (p := 178) rfl rfl, by decide +kernel, rfl, qt5 (p := 179) rfl rfl⟩
theorem qmf_186 : qMF 186 := ⟨qt5 (p := 188) rfl rfl, qt1 (p := 9) rfl rfl, by decide +kernel, rfl, by decide +kernel, qt5 (p := 187) rfl rfl, by decide +kernel, rfl, qt0 (p := 79) rfl rfl⟩
theorem qmf_187 : qMF 187 := ⟨qt5 (p := 184) rfl rfl, qt1 (p := 9) rfl rfl, by decide +kernel, rfl, by decide +kernel, qt5 (p := 182) rfl rfl, by decide +kernel, rfl, qt5 (p := 183) rfl rfl⟩
theorem qmf_188 : qMF 188 := ⟨qt5 (p := 192) rfl rfl, qt1 (p := 9) rfl rfl, by decide +kernel, rfl, by decide +kernel, qt5 (p := 190) rfl rfl, by decide +kernel, rfl, qt5 (p := 191) rfl rfl⟩
theorem qmf_189 : qMF 189 := ⟨qt5 (p := 196) rfl rfl, qt1 (p := 9) rfl rfl, by decide +kernel, rfl, by decide +kernel, qt5 (p := 194) rfl rfl, by decide +kernel, rfl, qt5 (p := 195) rfl rfl⟩
theorem qmfs_0 : ∀ k, k < 0 → qMF k := fun k h => absurd h (Nat.not_lt_zero k)
theorem qmfs_1 : ∀ k, k < 1 → qMF k := fun k h => (Nat.lt_succ_iff_lt_or_eq.mp h).elim (qmfs_0 k) (fun e => e ▸ qmf_0)
theorem qmfs_2 : ∀ k, k < 2 → qMF k := fun k h => (Nat.lt_succ_iff_lt_or_eq.mp h).elim (qmfs_1 k) (fun e => e ▸ qmf_1)
theorem qmfs_3 : ∀ k, k < 3 → qMF k := fun k h => (Nat.lt_succ_iff_lt_or_eq.mp h).elim (qmfs_2 k) (fun e => e ▸ qmf_2)
theorem qmfs_4 : ∀ k, k < 4 → qMF k := fun k h => (Nat.lt_succ_iff_lt_or_eq.mp h).elim (qmfs_3 k) (fun e => e ▸ qmf_3)
theorem qmfs_5 : ∀ k, k < 5 → qMF k := fun k h => (Nat.lt_succ_iff_lt_or_eq.mp h).elim (qmfs_4 k) (fun e => e ▸ qmf_4)
theorem qmfs_6 : ∀ k, k < 6 → qMF k := fun k h => (Nat.lt_succ_iff_lt_or_eq.mp h).elim (qmfs_5 k) (fun e => e ▸ qmf_5)
theorem qmfs_7 : ∀ k, k < 7 → qMF k := fun k h => (Nat.lt_succ_iff_lt_or_eq.mp h).elim (qmfs_6 k) (fun e => e ▸ qmf_6)
theorem qmfs_8 : ∀ k, k < 8 → qMF k := fun k h => (Nat.lt_succ_iff_lt_or_eq.mp h).elim (qmfs_7 k) (fun e => e ▸ qmf_7)
theorem qmfs_9 : ∀ k, k < 9 → qMF k := fun k h => (Nat.lt_succ_iff_lt_or_eq.mp h).elim (qmfs_8 k) (fun e => e ▸ qmf_8)
theorem qmfs_10 : ∀ k, k < 10 → qMF k := fun k h => (Nat.lt_succ_iff_lt_or_eq.mp h).elim (qmfs_9 k) (fun e => e ▸ qmf_9)
theorem qmfs_11 : ∀ k, k < 11 → qMF k := fun k h => (Nat.lt_succ_iff_lt_or_eq.mp h).elim (qmfs_10 k) (fun e => e ▸ qmf_10)
theorem qmfs_12 : ∀ k, k < 12 → qMF k := fun k h => (Nat.lt_succ_iff_lt_or_eq.mp h).elim (qmfs_11 k) (fun e => e ▸ qmf_11)
theorem qmfs_13 : ∀ k, k < 13 → qMF k := fun k h => (Nat.lt_succ_iff_lt_or_eq.mp h).elim (qmfs_12 k) (fun e => e ▸ qmf_12)
theorem qmfs_14 : ∀ k, k < 14 → qMF k := fun k h => (Nat.lt_succ_iff_lt_or_eq.mp h).elim (qmfs_13 k) (fun e => e ▸ qmf_13)
theorem qmfs_15 : ∀ k, k < 15 → qMF k := fun k h => (Nat.lt_succ_iff_lt_or_eq.mp h).elim (qmfs_14 k) (fun e => e ▸ qmf_14)
theorem qmfs_16 : ∀ k, k < 16 → qMF k := fun k h => (Nat.lt_succ_iff_lt_or_eq.mp h).elim (qmfs_15 k) (fun e => e ▸ qmf_15)
theorem qmfs_17 : ∀ k, k < 17 → qMF k := fun k h => (Nat.lt_succ_iff_lt_or_eq.mp h).elim (qmfs_16 k) (fun e => e ▸ qmf_16)
theorem qmfs_18 : ∀ k, k < 18 → qMF k := fun k h => (Nat.lt_succ_iff_lt_or_eq.mp h).elim (qmfs_17 k) (fun e => e ▸ qmf_17)
theorem qmfs_19 : ∀ k, k < 19 → qMF k := fun k h => (Nat.lt_succ_iff_lt_or_eq.mp h).elim (qmfs_18 k) (fun e => e ▸ qmf_18)
theorem qmfs_20 : ∀ k, k < 20 → qMF k := fun k h => (Nat.lt_succ_iff_lt_or_eq.mp h).elim (qmfs_19 k) (fun e => e ▸ qmf_19)
theorem qmfs_21 : ∀ k, k < 21 → qMF k := fun k h => (Nat.lt_succ_iff_lt_or_eq.mp h).elim (qmfs_20 k) (fun e => e ▸ qmf_20)
theorem qmfs_22 : ∀ k, k < 22 → qMF k := fun k h => (Nat.lt_succ_iff_lt_or_eq.mp h).elim (qmfs_21 k) (fun e => e ▸ qmf_21)
theorem qmfs_23 : ∀ k, k < 23 → qMF k := fun k h => (Nat.lt_succ_iff_lt_or_eq.mp h).elim (qmfs_22 k) (fun e => e ▸ qmf_22)
theorem qmfs_24 : ∀ k, k < 24 → qMF k := fun k h => (Nat.lt_succ_iff_lt_or_eq.mp h).elim (qmfs_23 k) (fun e => e ▸ qmf_23)
theorem qmfs_25 : ∀ k, k < 25 → qMF k := fun k h => (Nat.lt_succ_iff_lt_or_eq.mp h).elim (qmfs_24 k) (fun e => e ▸ qmf_24)
theorem qmfs_26 : ∀ k, k < 26 → qMF k := fun k h => (Nat.lt_succ_iff_lt_or_eq.mp h).elim (qmfs_25 k) (fun e => e ▸ qmf_25)
theorem qmfs_27 : ∀ k, k < 27 → qMF k := fun k h => (Nat.lt_succ_iff_lt_or_eq.mp h).elim (qmfs_26 k) (fun e => e ▸ qmf_26)
theorem qmfs_28 : ∀ k, k < 28 → qMF k := fun k h => (Nat.lt_succ_iff_lt_or_eq.mp h).elim (qmfs_27 k) (fun e => e ▸ qmf_27)
theorem qmfs_29 : ∀ k, k < 29 → qMF k := fun k h => (Nat.lt_succ_iff_lt_or_eq.mp h).elim (qmfs_28 k) (fun e => e ▸ qmf_28)
theorem qmfs_30 : ∀ k, k < 30 → qMF k := fun k h => (Nat.lt_succ_iff_lt_or_eq.mp h).elim (qmfs_29 k) (fun e => e ▸ qmf_29)
theorem qmfs_31 : ∀ k, k < 31 → qMF k := fun k h => (Nat.lt_succ_iff_lt_or_eq.mp h).elim (qmfs_30 k) (fun e => e ▸ qmf_30)
theorem qmfs_32 : ∀ k, k < 32 → qMF k := fun k h => (Nat.lt_succ_iff_lt_or_eq.mp h).elim (qmfs_31 k) (fun e => e ▸ qmf_31)
theorem qmfs_33 : ∀ k, k < 33 → qMF k := fun k h => (Nat.lt_succ_iff_lt_or_eq.mp h).elim (qmfs_32 k) (fun e => e ▸ qmf_32)
theorem qmfs_34 : ∀ k, k < 34 → qMF k := fun k h => (Nat.lt_succ_iff_lt_or_eq.mp h).elim (qmfs_33 k) (fun e => e ▸ qmf_33)
theorem qmfs_35 : ∀ k, k < 35 → qMF k := fun k h => (Nat.lt_succ_iff_lt_or_eq.mp h).elim (qmfs_34 k) (fun e => e ▸ qmf_34)
theorem qmfs_36 : ∀ k, k < 36 → qMF k := fun k h => (Nat.lt_succ_iff_lt_or_eq.mp h).elim (qmfs_35 k) (fun e => e ▸ qmf_35)
theorem qmfs_37 : ∀ k, k < 37 → qMF k := fun k h => (Nat.lt_succ_iff_lt_or_eq.mp h).elim (qmfs_36 k) (fun e => e ▸ qmf_36)
theorem qmfs_38 : ∀ k, k < 38 → qMF k := fun k h => (Nat.lt_succ_iff_lt_or_eq.mp h).elim (qmfs_37 k) (fun e => e ▸ qmf_37)
theorem qmfs_39 : ∀ k, k < 39 → qMF k := fun k h => (Nat.lt_succ_iff_lt_or_eq.mp h).elim (qmfs_38 k) (fun e => e ▸ qmf_38)
theorem qmfs_40 : ∀ k, k < 40 → qMF k := fun k h => (Nat.lt_succ_iff_lt_or_eq.mp h).elim (qmfs_39 k) (fun e => e ▸ qmf_39)
theorem qmfs_41 : ∀ k, k < 41 → qMF k := fun k h => (Nat.lt_succ_iff_lt_or_eq.mp h).elim (qmfs_40 k) (fun e => e ▸ qmf_40)
theorem qmfs_42 : ∀ k, k < 42 → qMF k := fun k h => (Nat.lt_succ_iff_lt_or_eq.mp h).elim (qmfs_41 k) (fun e => e ▸ qmf_41)
theorem qmfs_43 : ∀ k, k < 43 → qMF k := fun k h => (Nat.lt_succ_iff_lt_or_eq.mp h).elim (qmfs_42 k) (fun e => e ▸ qmf_42)
theorem qmfs_44 : ∀ k, k < 44 → qMF k := fun k h => (Nat.lt_succ_iff_lt_or_eq.mp h).elim (qmfs_43 k) (fun e => e ▸ qmf_43)
theorem qmfs_45 : ∀ k, k < 45 → qMF k := fun k h => (Nat.lt_succ_iff_lt_or_eq.mp h).elim (qmfs_44 k) (fun e => e ▸ qmf_44)
theorem qmfs_46 : ∀ k, k < 46 → qMF k := fun k h => (Nat.lt_succ_iff_lt_or_eq.mp h).elim (qmfs_45 k) (fun e => e ▸ qmf_45)
theorem qmfs_47 : ∀ k, k < 47 → qMF k := fun k h => (Nat.lt_succ_iff_lt_or_eq.mp h).elim (qmfs_46 k) (fun e => e ▸ qmf_46)
theorem qmfs_48 : ∀ k, k < 48 → qMF k := fun k h => (Nat.lt_succ_iff_lt_or_eq.mp h).elim (qmfs_47 k) (fun e => e ▸ qmf_47)
theorem qmfs_49 : ∀ k, k < 49 → qMF k := fun k h => (Nat.lt_succ_iff_lt_or_eq.mp h).elim (qmfs_48 k) (fun e => e ▸ qmf_48)
theorem qmfs_50 : ∀ k, k < 50 → qMF k := fun k h => (Nat.lt_succ_iff_lt_or_eq.mp h).elim (qmfs_49 k) (fun e => e ▸ qmf_49)
theorem qmfs_51 : ∀ k, k < 51 → qMF k := fun k h => (Nat.lt_succ_iff_lt_or_eq.mp h).elim (qmfs_50 k) (fun e => e ▸ qmf_50)
theorem qmfs_52 : ∀ k, k < 52 → qMF k := fun k h => (Nat.lt_succ_iff_lt_or_eq.mp h).elim (qmfs_51 k) (fun e => e ▸ qmf_51)
theorem qmfs_53 : ∀ k, k < 53 → qMF k := fun k h => (Nat.lt_succ_iff_lt_or_eq.mp h).elim (qmfs_52 k) (fun e => e ▸ qmf_52)
theorem qmfs_54 : ∀ k, k < 54 → qMF k := fun k h => (Nat.lt_succ_iff_lt_or_eq.mp h).elim (qmfs_53 k) (fun e => e ▸ qmf_53)
theorem qmfs_55 : ∀ k, k < 55 → qMF k := fun k h => (Nat.lt_succ_iff_lt_or_eq.mp h).elim (qmfs_54 k) (fun e => e ▸ qmf_54)
theorem qmfs_56 : ∀ k, k < 56 → qMF k := fun k h => (Nat.lt_succ_iff_lt_or_eq.mp h).elim (qmfs_55 k) (fun e => e ▸ qmf_55)
theorem qmfs_57 : ∀ k, k < 57 → qMF k := fun k h => (Nat.lt_succ_iff_lt_or_eq.mp h).elim (qmfs_56 k) (fun e => e ▸ qmf_56)
theorem qmfs_58 : ∀ k, k < 58 → qMF k := fun k h => (Nat.lt_succ_iff_lt_or_eq.mp h).elim (qmfs_57 k) (fun e => e ▸ qmf_57)
theorem qmfs_59 : ∀ k, k < 59 → qMF k := fun k h => (Nat.lt_succ_iff_lt_or_eq.mp h).elim (qmfs_58 k) (fun e => e ▸ qmf_58)
theorem qmfs_60 : ∀ k, k < 60 → qMF k := fun k h => (Nat.lt_succ_iff_lt_or_eq.mp h).elim (qmfs_59 k) (fun e => e ▸ qmf_59)
theorem qmfs_61 : ∀ k, k < 61 → qMF k := fun k h => (Nat.lt_succ_iff_lt_or_eq.mp h).elim (qmfs_60 k) (fun e => e ▸ qmf_60)
theorem qmfs_62 : ∀ k, k < 62 → qMF k := fun k h => (Nat.lt_succ_iff_lt_or_eq.mp h).elim (qmfs_61 k) (fun e => e ▸ qmf_61)
theorem qmfs_63 : ∀ k, k < 63 → qMF k := fun k h => (Nat.lt_succ_iff_lt_or_eq.mp h).elim (qmfs_62 k) (fun e => e ▸ qmf_62)
theorem qmfs_64 : ∀ k, k < 64 → qMF k := fun k h => (Nat.lt_succ_iff_lt_or_eq.mp h).elim (qmfs_63 k) (fun e => e ▸ qmf_63)
theorem qmfs_65 : ∀ k, k < 65 → qMF k := fun k h => (Nat.lt_succ_iff_lt_or_eq.mp h).elim (qmfs_64 k) (fun e => e ▸ qmf_64)
theorem qmfs_66 : ∀ k, k < 66 → qMF k := fun k h => (Nat.lt_succ_iff_lt_or_eq.mp h).elim (qmfs_65 k) (fun e => e ▸ qmf_65)
theorem qmfs_67 : ∀ k, k < 67 → qMF k := fun k h => (Nat.lt_succ_iff_lt_or_eq.mp h).elim (qmfs_66 k) (fun e => e ▸ qmf_66)
theorem qmfs_68 : ∀ k, k < 68 → qMF k := fun k h => (Nat.lt_succ_iff_lt_or_eq.mp h).elim (qmfs_67 k) (fun e => e ▸ qmf_67)
theorem qmfs_69 : ∀ k, k < 69 → qMF k := fun k h => (Nat.lt_succ_iff_lt_or_eq.mp h).elim (qmfs_68 k) (fun e => e ▸ qmf_68)
theorem qmfs_70 : ∀ k, k < 70 → qMF k := fun k h => (Nat.lt_succ_iff_lt_or_eq.mp h).elim (qmfs_69 k) (fun e => e ▸ qmf_69)
theorem qmfs_71 : ∀ k, k < 71 → qMF k := fun k h => (Nat.lt_succ_iff_lt_or_eq.mp h).elim (qmfs_70 k) (fun e => e ▸ qmf_70)
theorem qmfs_72 : ∀ k, k < 72 → qMF k := fun k h => (Nat.lt_succ_iff_lt_or_eq.mp h).elim (qmfs_71 k) (fun e => e ▸ qmf_71)
theorem qmfs_73 : ∀ k, k < 73 → qMF k := fun k h => (Nat.lt_succ_iff_lt_or_eq.mp h).elim (qmfs_72 k) (fun e => e ▸ qmf_72)
theorem qmfs_74 : ∀ k, k < 74 → qMF k := fun k h => (Nat.lt_succ_iff_lt_or_eq.mp h).elim (qmfs_73 k) (fun e => e ▸ qmf_73)
theorem qmfs_75 : ∀ k, k < 75 → qMF k := fun k h => (Nat.lt_succ_iff_lt_or_eq.mp h).elim (qmfs_74 k) (fun e => e ▸ qmf_74)
theorem qmfs_76 : ∀ k, k < 76 → qMF k := fun k h => (Nat.lt_succ_iff_lt_or_eq.mp h).elim (qmfs_75 k) (fun e => e ▸ qmf_75)
theorem qmfs_77 : ∀ k, k < 77 → qMF k := fun k h => (Nat.lt_succ_iff_lt_or_eq.mp h).elim (qmfs_76 k) (fun e => e ▸ qmf_76)
theorem qmfs_78 : ∀ k, k < 78 → qMF k := fun k h => (Nat.lt_succ_iff_lt_or_eq.mp h).elim (qmfs_77 k) (fun e => e ▸ qmf_77)
theorem qmfs_79 : ∀ k, k < 79 → qMF k := fun k h => (Nat.lt_succ_iff_lt_or_eq.mp h).elim (qmfs_78 k) (fun e => e ▸ qmf_78)
theorem qmfs_80 : ∀ k, k < 80 → qMF k := fun k h => (Nat.lt_succ_iff_lt_or_eq.mp h).elim (qmfs_79 k) (fun e => e ▸ qmf_79)
theorem qmfs_81 : ∀ k, k < 81 → qMF k := fun k h => (Nat.lt_succ_iff_lt_or_eq.mp h).elim (qmfs_80 k) (fun e => e ▸ qmf_80)
theorem qmfs_82 : ∀ k, k < 82 → qMF k := fun k h => (Nat.lt_succ_iff_lt_or_eq.mp h).elim (qmfs_81 k) (fun e => e ▸ qmf_81)
theorem qmfs_83 : ∀ k, k < 83 → qMF k := fun k h => (Nat.lt_succ_iff_lt_or_eq.mp h).elim (qmfs_82 k) (fun e => e ▸ qmf_82)
theorem qmfs_84 : ∀ k, k < 84 → qMF k := fun k h => (Nat.lt_succ_iff_lt_or_eq.mp h).elim (qmfs_83 k) (fun e => e ▸ qmf_83)
theorem qmfs_85 : ∀ k, k < 85 → qMF k := fun k h => (Nat.lt_succ_iff_lt_or_eq.mp h).elim (qmfs_84 k) (fun e => e ▸ qmf_84)
theorem qmfs_86 : ∀ k, k < 86 → qMF k := fun k h => (Nat.lt_succ_iff_lt_or_eq.mp h).elim (qmfs_85 k) (fun e => e ▸ qmf_85)
theorem qmfs_87 : ∀ k, k < 87 → qMF k := fun k h => (Nat.lt_succ_iff_lt_or_eq.mp h).elim (qmfs_86 k) (fun e => e ▸ qmf_86)
theorem qmfs_88 : ∀ k, k < 88 → qMF k := fun k h => (Nat.lt_succ_iff_lt_or_eq.mp h).elim (qmfs_87 k) (fun e => e ▸ qmf_87)
theorem qmfs_89 : ∀ k, k < 89 → qMF k := fun k h => (Nat.lt_succ_iff_lt_or_eq.mp h).elim (qmfs_88 k) (fun e => e ▸ qmf_88)
theorem qmfs_90 : ∀ k, k < 90 → qMF k := fun k h => (Nat.lt_succ_iff_lt_or_eq.mp h).elim (qmfs_89 k) (fun e => e ▸ qmf_89)
theorem qmfs_91 : ∀ k, k < 91 → qMF k := fun k h => (Nat.lt_succ_iff_lt_or_eq.mp h).elim (qmfs_90 k) (fun e => e ▸ qmf_90)
theorem qmfs_92 : ∀ k, k < 92 → qMF k := fun k h => (Nat.lt_succ_iff_lt_or_eq.mp h).elim (qmfs_91 k) (fun e => e ▸ qmf_91)
theorem qmfs_93 : ∀ k, k < 93 → qMF k := fun k h => (Nat.lt_succ_iff_lt_or_eq.mp h).elim (qmfs_92 k) (fun e => e ▸ qmf_92)
theorem qmfs_94 : ∀ k, k < 94 → qMF k := fun k h => (Nat.lt_succ_iff_lt_or_eq.mp h).elim (qmfs_93 k) (fun e => e ▸ qmf_93)
theorem qmfs_95 : ∀ k, k < 95 → qMF k := fun k h => (Nat.lt_succ_iff_lt_or_eq.mp h).elim (qmfs_94 k) (fun e => e ▸ qmf_94)
theorem qmfs_96 : ∀ k, k < 96 → qMF k := fun k h => (Nat.lt_succ_iff_lt_or_eq.mp h).elim (qmfs_95 k) (fun e => e ▸ qmf_95)
theorem qmfs_97 : ∀ k, k < 97 → qMF k := fun k h => (Nat.lt_succ_iff_lt_or_eq.mp h).elim (qmfs_96 k) (fun e => e ▸ qmf_96)
theorem qmfs_98 : ∀ k, k < 98 → qMF k := fun k h => (Nat.lt_succ_iff_lt_or_eq.mp h).elim (qmfs_97 k) (fun e => e ▸ qmf_97)
theorem qmfs_99 : ∀ k, k < 99 → qMF k := fun k h => (Nat.lt_succ_iff_lt_or_eq.mp h).elim (qmfs_98 k) (fun e => e ▸ qmf_98)
theorem qmfs_100 : ∀ k, k < 100 → qMF k := fun k h => (Nat.lt_succ_iff_lt_or_eq.mp h).elim (qmfs_99 k) (fun e => e ▸ qmf_99)
theorem qmfs_101 : ∀ k, k < 101 → qMF k := fun k h => (Nat.lt_succ_iff_lt_or_eq.mp h).elim (qmfs_100 k) (fun e => e ▸ qmf_100)
theorem qmfs_102 : ∀ k, k < 102 → qMF k := fun k h => (Nat.lt_succ_iff_lt_or_eq.mp h).elim (qmfs_101 k) (fun e => e ▸ qmf_101)
theorem qmfs_103 : ∀ k, k < 103 → qMF k := fun k h => (Nat.lt_succ_iff_lt_or_eq.mp h).elim (qmfs_102 k) (fun e => e ▸ qmf_102)
theorem qmfs_104 : ∀ k, k < 104 → qMF k := fun k h => (Nat.lt_succ_iff_lt_or_eq.mp h).elim (qmfs_103 k) (fun e => e ▸ qmf_103)
theorem qmfs_105 : ∀ k, k < 105 → qMF k := fun k h => (Nat.lt_succ_iff_lt_or_eq.mp h).elim (qmfs_104 k) (fun e => e ▸ qmf_104)
theorem qmfs_106 : ∀ k, k < 106 → qMF k := fun k h => (Nat.lt_succ_iff_lt_or_eq.mp h).elim (qmfs_105 k) (fun e => e ▸ qmf_105)
theorem qmfs_107 : ∀ k, k < 107 → qMF k := fun k h => (Nat.lt_succ_iff_lt_or_eq.mp h).elim (qmfs_106 k) (fun e => e ▸ qmf_106)
theorem qmfs_108 : ∀ k, k < 108 → qMF k := fun k h => (Nat.lt_succ_iff_lt_or_eq.mp h).elim (qmfs_107 k) (fun e => e ▸ qmf_107)
theorem qmfs_109 : ∀ k, k < 109 → qMF k := fun k h => (Nat.lt_succ_iff_lt_or_eq.mp h).elim (qmfs_108 k) (fun e => e ▸ qmf_108)
theorem qmfs_110 : ∀ k, k < 110 → qMF k := fun k h => (Nat.lt_succ_iff_lt_or_eq.mp h).elim (qmfs_109 k) (fun e => e ▸ qmf_109)
theorem qmfs_111 : ∀ k, k < 111 → qMF k := fun k h => (Nat.lt_succ_iff_lt_or_eq.mp h).elim (qmfs_110 k) (fun e => e ▸ qmf_110)
theorem qmfs_112 : ∀ k, k < 112 → qMF k := fun k h => (Nat.lt_succ_iff_lt_or_eq.mp h).elim (qmfs_111 k) (fun e => e ▸ qmf_111)
theorem qmfs_113 : ∀ k, k < 113 → qMF k := fun k h => (Nat.lt_succ_iff_lt_or_eq.mp h).elim (qmfs_112 k) (fun e => e ▸ qmf_112)
theorem qmfs_114 : ∀ k, k < 114 → qMF k := fun k h => (Nat.lt_succ_iff_lt_or_eq.mp h).elim (qmfs_113 k) (fun e => e ▸ qmf_113)
theorem qmfs_115 : ∀ k, k < 115 → qMF k := fun k h => (Nat.lt_succ_iff_lt_or_eq.mp h).elim (qmfs_114 k) (fun e => e ▸ qmf_114)
theorem qmfs_116 : ∀ k, k < 116 → qMF k := fun k h => (Nat.lt_succ_iff_lt_or_eq.mp h).elim (qmfs_115 k) (fun e => e ▸ qmf_115)
theorem qmfs_117 : ∀ k, k < 117 → qMF k := fun k h => (Nat.lt_succ_iff_lt_or_eq.mp h).elim (qmfs_116 k) (fun e => e ▸ qmf_116)
theorem qmfs_118 : ∀ k, k < 118 → qMF k := fun k h => (Nat.lt_succ_iff_lt_or_eq.mp h).elim (qmfs_117 k) (fun e => e ▸ qmf_117)
theorem qmfs_119 : ∀ k, k < 119 → qMF k := fun k h => (Nat.lt_succ_iff_lt_or_eq.mp h).elim (qmfs_118 k) (fun e => e ▸ qmf_118)
theorem qmfs_120 : ∀ k, k < 120 → qMF k := fun k h => (Nat.lt_succ_iff_lt_or_eq.mp h).elim (qmfs_119 k) (fun e => e ▸ qmf_119)
theorem qmfs_121 : ∀ k, k < 121 → qMF k := fun k h => (Nat.lt_succ_iff_lt_or_eq.mp h).elim (qmfs_120 k) (fun e => e ▸ qmf_120)
theorem qmfs_122 : ∀ k, k < 122 → qMF k := fun k h => (Nat.lt_succ_iff_lt_or_eq.mp h).elim (qmfs_121 k) (fun e => e ▸ qmf_121)
theorem qmfs_123 : ∀ k, k < 123 → qMF k := fun k h => (Nat.lt_succ_iff_lt_or_eq.mp h).elim (qmfs_122 k) (fun e => e ▸ qmf_122)
theorem qmfs_124 : ∀ k, k < 124 → qMF k := fun k h => (Nat.lt_succ_iff_lt_or_eq.mp h).elim (qmfs_123 k) (fun e => e ▸ qmf_123)
theorem qmfs_125 : ∀ k, k < 125 → qMF k := fun k h => (Nat.lt_succ_iff_lt_or_eq.mp h).elim (qmfs_124 k) (fun e => e ▸ qmf_124)
theorem qmfs_126 : ∀ k, k < 126 → qMF k := fun k h => (Nat.lt_succ_iff_lt_or_eq.mp h).elim (qmfs_125 k) (fun e => e ▸ qmf_125)
theorem qmfs_127 : ∀ k, k < 127 → qMF k := fun k h => (Nat.lt_succ_iff_lt_or_eq.mp h).elim (qmfs_126 k) (fun e => e ▸ qmf_126)
theorem qmfs_128 : ∀ k, k < 128 → qMF k := fun k h => (Nat.lt_succ_iff_lt_or_eq.mp h).elim (qmfs_127 k) (fun e => e ▸ qmf_127)
theorem qmfs_129 : ∀ k, k < 129 → qMF k := fun k h => (Nat.lt_succ_iff_lt_or_eq.mp h).elim (qmfs_128 k) (fun e => e ▸ qmf_128)
theorem qmfs_130 : ∀ k, k < 130 → qMF k := fun k h => (Nat.lt_succ_iff_lt_or_eq.mp h).elim (qmfs_129 k) (fun e => e ▸ qmf_129)
theorem qmfs_131 : ∀ k, k < 131 → qMF k := fun k h => (Nat.lt_succ_iff_lt_or_eq.mp h).elim (qmfs_130 k) (fun e => e ▸ qmf_130)
theorem qmfs_132 : ∀ k, k < 132 → qMF k := fun k h => (Nat.lt_succ_iff_lt_or_eq.mp h).elim (qmfs_131 k) (fun e => e ▸ qmf_131)
theorem qmfs_133 : ∀ k, k < 133 → qMF k := fun k h => (Nat.lt_succ_iff_lt_or_eq.mp h).elim (qmfs_132 k) (fun e => e ▸ qmf_132)
theorem qmfs_134 : ∀ k, k < 134 → qMF k := fun k h => (Nat.lt_succ_iff_lt_or_eq.mp h).elim (qmfs_133 k) (fun e => e ▸ qmf_133)
theorem qmfs_135 : ∀ k, k < 135 → qMF k := fun k h => (Nat.lt_succ_iff_lt_or_eq.mp h).elim (qmfs_134 k) (fun e => e ▸ qmf_134)
theorem qmfs_136 : ∀ k, k < 136 → qMF k := fun k h => (Nat.lt_succ_iff_lt_or_eq.mp h).elim (qmfs_135 k) (fun e => e ▸ qmf_135)
theorem qmfs_137 : ∀ k, k < 137 → qMF k := fun k h => (Nat.lt_succ_iff_lt_or_eq.mp h).elim (qmfs_136 k) (fun e => e ▸ qmf_136)
theorem qmfs_138 : ∀ k, k < 138 → qMF k := fun k h => (Nat.lt_succ_iff_lt_or_eq.mp h).elim (qmfs_137 k) (fun e => e ▸ qmf_137)
theorem qmfs_139 : ∀ k, k < 139 → qMF k := fun k h => (Nat.lt_succ_iff_lt_or_eq.mp h).elim (qmfs_138 k) (fun e => e ▸ qmf_138)
theorem qmfs_140 : ∀ k, k < 140 → qMF k := fun k h => (Nat.lt_succ_iff_lt_or_eq.mp h).elim (qmfs_139 k) (fun e => e ▸ qmf_139)
theorem qmfs_141 : ∀ k, k < 141 → qMF k := fun k h => (Nat.lt_succ_iff_lt_or_eq.mp h).elim (qmfs_140 k) (fun e => e ▸ qmf_140)
theorem qmfs_142 : ∀ k, k < 142 → qMF k := fun k h => (Nat.lt_succ_iff_lt_or_eq.mp h).elim (qmfs_141 k) (fun e => e ▸ qmf_141)
theorem qmfs_143 : ∀ k, k < 143 → qMF k := fun k h => (Nat.lt_succ_iff_lt_or_eq.mp h).elim (qmfs_142 k) (fun e => e ▸ qmf_142)
theorem qmfs_144 : ∀ k, k < 144 → qMF k := fun k h => (Nat.lt_succ_iff_lt_or_eq.mp h).elim (qmfs_143 k) (fun e => e ▸ qmf_143)
theorem qmfs_145 : ∀ k, k < 145 → qMF k := fun k h => (Nat.lt_succ_iff_lt_or_eq.mp h).elim (qmfs_144 k) (fun e => e ▸ qmf_144)
theorem qmfs_146 : ∀ k, k < 146 → qMF k := fun k h => (Nat.lt_succ_iff_lt_or_eq.mp h).elim (qmfs_145 k) (fun e => e ▸ qmf_145)
theorem qmfs_147 : ∀ k, k < 147 → qMF k := fun k h => (Nat.lt_succ_iff_lt_or_eq.mp h).elim (qmfs_146 k) (fun e => e ▸ qmf_146)
theorem qmfs_148 : ∀ k, k < 148 → qMF k := fun k h => (Nat.lt_succ_iff_lt_or_eq.mp h).elim (qmfs_147 k) (fun e => e ▸ qmf_147)
theorem qmfs_149 : ∀ k, k < 149 → qMF k := fun k h => (Nat.lt_succ_iff_lt_or_eq.mp h).elim (qmfs_148 k) (fun e => e ▸ qmf_148)
theorem qmfs_150 : ∀ k, k < 150 → qMF k := fun k h => (Nat.lt_succ_iff_lt_or_eq.mp h).elim (qmfs_149 k) (fun e => e ▸ qmf_149)
theorem qmfs_151 : ∀ k, k < 151 → qMF k := fun k h => (Nat.lt_succ_iff_lt_or_eq.mp h).elim (qmfs_150 k) (fun e => e ▸ qmf_150)
theorem qmfs_152 : ∀ k, k < 152 → qMF k := fun k h => (Nat.lt_succ_iff_lt_or_eq.mp h).elim (qmfs_151 k) (fun e => e ▸ qmf_151)
theorem qmfs_153 : ∀ k, k < 153 → qMF k := fun k h => (Nat.lt_succ_iff_lt_or_eq.mp h).elim (qmfs_152 k) (fun e => e ▸ qmf_152)
theorem qmfs_154 : ∀ k, k < 154 → qMF k := fun k h => (Nat.lt_succ_iff_lt_or_eq.mp h).elim (qmfs_153 k) (fun e => e ▸ qmf_153)
theorem qmfs_155 : ∀ k, k < 155 → qMF k := fun k h => (Nat.lt_succ_iff_lt_or_eq.mp h).elim (qmfs_154 k) (fun e => e ▸ qmf_154)
theorem qmfs_156 : ∀ k, k < 156 → qMF k := fun k h => (Nat.lt_succ_iff_lt_or_eq.mp h).elim (qmfs_155 k) (fun e => e ▸ qmf_155)
theorem qmfs_157 : ∀ k, k < 157 → qMF k := fun k h => (Nat.lt_succ_iff_lt_or_eq.mp h).elim (qmfs_156 k) (fun e => e ▸ qmf_156)
theorem qmfs_158 : ∀ k, k < 158 → qMF k := fun k h => (Nat.lt_succ_iff_lt_or_eq.mp h).elim (qmfs_157 k) (fun e => e ▸ qmf_157)
theorem qmfs_159 : ∀ k, k < 159 → qMF k := fun k h => (Nat.lt_succ_iff_lt_or_eq.mp h).elim (qmfs_158 k) (fun e => e ▸ qmf_158)
theorem qmfs_160 : ∀ k, k < 160 → qMF k := fun k h => (Nat.lt_succ_iff_lt_or_eq.mp h).elim (qmfs_159 k) (fun e => e ▸ qmf_159)
theorem qmfs_161 : ∀ k, k < 161 → qMF k := fun k h => (Nat.lt_succ_iff_lt_or_eq.mp h).elim (qmfs_160 k) (fun e => e ▸ qmf_160)
theorem qmfs_162 : ∀ k, k < 162 → qMF k := fun k h => (Nat.lt_succ_iff_lt_or_eq.mp h).elim (qmfs_161 k) (fun e => e ▸ qmf_161)
theorem qmfs_163 : ∀ k, k < 163 → qMF k := fun k h => (Nat.lt_succ_iff_lt_or_eq.mp h).elim (qmfs_162 k) (fun e => e ▸ qmf_162)
theorem qmfs_164 : ∀ k, k < 164 → qMF k := fun k h => (Nat.lt_succ_iff_lt_or_eq.mp h).elim (qmfs_163 k) (fun e => e ▸ qmf_163)
theorem qmfs_165 : ∀ k, k < 165 → qMF k := fun k h => (Nat.lt_succ_iff_lt_or_eq.mp h).elim (qmfs_164 k) (fun e => e ▸ qmf_164)
theorem qmfs_166 : ∀ k, k < 166 → qMF k := fun k h => (Nat.lt_succ_iff_lt_or_eq.mp h).elim (qmfs_165 k) (fun e => e ▸ qmf_165)
theorem qmfs_167 : ∀ k, k < 167 → qMF k := fun k h => (Nat.lt_succ_iff_lt_or_eq.mp h).elim (qmfs_166 k) (fun e => e ▸ qmf_166)
theorem qmfs_168 : ∀ k, k < 168 → qMF k := fun k h => (Nat.lt_succ_iff_lt_or_eq.mp h).elim (qmfs_167 k) (fun e => e ▸ qmf_167)
theorem qmfs_169 : ∀ k, k < 169 → qMF k := fun k h => (Nat.lt_succ_iff_lt_or_eq.mp h).elim (qmfs_168 k) (fun e => e ▸ qmf_168)
theorem qmfs_170 : ∀ k, k < 170 → qMF k := fun k h => (Nat.lt_succ_iff_lt_or_eq.mp h).elim (qmfs_169 k) (fun e => e ▸ qmf_169)
theorem qmfs_171 : ∀ k, k < 171 → qMF k := fun k h => (Nat.lt_succ_iff_lt_or_eq.mp h).elim (qmfs_170 k) (fun e => e ▸ qmf_170)
theorem qmfs_172 : ∀ k, k < 172 → qMF k := fun k h => (Nat.lt_succ_iff_lt_or_eq.mp h).elim (qmfs_171 k) (fun e => e ▸ qmf_171)
theorem qmfs_173 : ∀ k, k < 173 → qMF k := fun k h => (Nat.lt_succ_iff_lt_or_eq.mp h).elim (qmfs_172 k) (fun e => e ▸ qmf_172)
theorem qmfs_174 : ∀ k, k < 174 → qMF k := fun k h => (Nat.lt_succ_iff_lt_or_eq.mp h).elim (qmfs_173 k) (fun e => e ▸ qmf_173)
theorem qmfs_175 : ∀ k, k < 175 → qMF k := fun k h => (Nat.lt_succ_iff_lt_or_eq.mp h).elim (qmfs_174 k) (fun e => e ▸ qmf_174)
theorem qmfs_176 : ∀ k, k < 176 → qMF k := fun k h => (Nat.lt_succ_iff_lt_or_eq.mp h).elim (qmfs_175 k) (fun e => e ▸ qmf_175)
theorem qmfs_177 : ∀ k, k < 177 → qMF k := fun k h => (Nat.lt_succ_iff_lt_or_eq.mp h).elim (qmfs_176 k) (fun e => e ▸ qmf_176)
theorem qmfs_178 : ∀ k, k < 178 → qMF k := fun k h => (Nat.lt_succ_iff_lt_or_eq.mp h).elim (qmfs_177 k) (fun e => e ▸ qmf_177)
theorem qmfs_179 : ∀ k, k < 179 → qMF k := fun k h => (Nat.lt_succ_iff_lt_or_eq.mp h).elim (qmfs_178 k) (fun e => e ▸ qmf_178)
theorem qmfs_180 : ∀ k, k < 180 → qMF k := fun k h => (Nat.lt_succ_iff_lt_or_eq.mp h).elim (qmfs_179 k) (fun e => e ▸ qmf_179)
theorem qmfs_181 : ∀ k, k < 181 → qMF k := fun k h => (Nat.lt_succ_iff_lt_or_eq.mp h).elim (qmfs_180 k) (fun e => e ▸ qmf_180)
theorem qmfs_182 : ∀ k, k < 182 → qMF k := fun k h => (Nat.lt_succ_iff_lt_or_eq.mp h).elim (qmfs_181 k) (fun e => e ▸ qmf_181)
theorem qmfs_183 : ∀ k, k < 183 → qMF k := fun k h => (Nat.lt_succ_iff_lt_or_eq.mp h).elim (qmfs_182 k) (fun e => e ▸ qmf_182)
theorem qmfs_184 : ∀ k, k < 184 → qMF k := fun k h => (Nat.lt_succ_iff_lt_or_eq.mp h).elim (qmfs_183 k) (fun e => e ▸ qmf_183)
theorem qmfs_185 : ∀ k, k < 185 → qMF k := fun k h => (Nat.lt_succ_iff_lt_or_eq.mp h).elim (qmfs_184 k) (fun e => e ▸ qmf_184)
theorem qmfs_186 : ∀ k, k < 186 → qMF k := fun k h => (Nat.lt_succ_iff_lt_or_eq.mp h).elim (qmfs_185 k) (fun e => e ▸ qmf_185)
theorem qmfs_187 : ∀ k, k < 187 → qMF k := fun k h => (Nat.lt_succ_iff_lt_or_eq.mp h).elim (qmfs_186 k) (fun e => e ▸ qmf_186)
theorem qmfs_188 : ∀ k, k < 188 → qMF k := fun k h => (Nat.lt_succ_iff_lt_or_eq.mp h).elim (qmfs_187 k) (fun e => e ▸ qmf_187)
theorem qmfs_189 : ∀ k, k < 189 → qMF k := fun k h => (Nat.lt_succ_iff_lt_or_eq.mp h).elim (qmfs_188 k) (fun e => e ▸ qmf_188)
theorem qmfs_190 : ∀ k, k < 190 → qMF k := fun k h => (Nat.lt_succ_iff_lt_or_eq.mp h).elim (qmfs_189 k) (fun e => e ▸ qmf_189)
theorem qown_ok : ∀ o, o < 13 → qcn o ≠ "java/lang/invoke/MethodHandle" ∧ qcn o ≠ "java/lang/invoke/VarHandle" ∧ plainName (qcn o) = true
  | 0, _ => by decide +kernel
  | 1, _ => by decide +kernel
  | 2, _ => by decide +kernel
  | 3, _ => by decide +kernel
  | 4, _ => by decide +kernel
  | 5, _ => by decide +kernel
  | 6, _ => by decide +kernel
  | 7, _ => by decide +kernel
  | 8, _ => by decide +kernel
  | 9, _ => by decide +kernel
  | 10, _ => by decide +kernel
  | 11, _ => by decide +kernel
  | 12, _ => by decide +kernel
def qCF (ci : Nat) : Prop := (∀ k, k < qcS ci → u_lay (qcN ci) (qcT ci) k ∈ qtb) ∧ (∀ a, a < qcS ci → ∀ b, b < qcS ci → a ≠ b → (qcT ci a).2.1 ≠ (qcT ci b).2.1) ∧ (∀ k, k < qcS ci → parseFieldDescriptor (qcT ci k).2.2.1 = some (qty ci k)) ∧
  .instantiable (qcN ci) (qcS ci) ∈ qtb ∧ .initialized (qcN ci) ∈ qtb ∧ (∀ k, k < qcS ci → defaultValue (qty ci k) = vp_V (qdef ci) k) ∧ (∀ k, k < qcS ci → (qcT ci k).1 = qcN ci) ∧ (qdef ci).length = qcS ci
theorem qcl_0 : ∀ k, k < qcS 0 → u_lay (qcN 0) (qcT 0) k ∈ qtb
  | 0, _ => qt2 (p := 103) rfl rfl
  | 1, _ => qt2 (p := 105) rfl rfl
  | 2, _ => qt2 (p := 107) rfl rfl
  | 3, _ => qt2 (p := 109) rfl rfl
  | 4, _ => qt2 (p := 111) rfl rfl
  | 5, _ => qt2 (p := 113) rfl rfl
  | 6, _ => qt2 (p := 115) rfl rfl
  | 7, _ => qt2 (p := 117) rfl rfl
  | n + 8, h => absurd (show n + 8 < 8 from h) (by omega)
theorem qcd_0 : ∀ k, k < qcS 0 → defaultValue (qty 0 k) = vp_V (qdef 0) k
  | 0, _ => rfl
  | 1, _ => rfl
  | 2, _ => rfl
  | 3, _ => rfl
  | 4, _ => rfl
  | 5, _ => rfl
  | 6, _ => rfl
  | 7, _ => rfl
  | n + 8, h => absurd (show n + 8 < 8 from h) (by omega)
theorem qcf_0 : qCF 0 := ⟨qcl_0, by decide +kernel, by decide +kernel, qt2 (p := 77) rfl rfl, qt1 (p := 12) rfl rfl, qcd_0, by decide +kernel, rfl⟩
theorem qcl_1 : ∀ k, k < qcS 1 → u_lay (qcN 1) (qcT 1) k ∈ qtb
  | 0, _ => qt1 (p := 61) rfl rfl
  | 1, _ => qt1 (p := 63) rfl rfl
  | 2, _ => qt1 (p := 65) rfl rfl
  | 3, _ => qt1 (p := 67) rfl rfl
  | 4, _ => qt1 (p := 69) rfl rfl
  | n + 5, h => absurd (show n + 5 < 5 from h) (by omega)
theorem qcd_1 : ∀ k, k < qcS 1 → defaultValue (qty 1 k) = vp_V (qdef 1) k
  | 0, _ => rfl
  | 1, _ => rfl
  | 2, _ => rfl
  | 3, _ => rfl
  | 4, _ => rfl
  | n + 5, h => absurd (show n + 5 < 5 from h) (by omega)
theorem qcf_1 : qCF 1 := ⟨qcl_1, by decide +kernel, by decide +kernel, qt1 (p := 25) rfl rfl, qt1 (p := 2) rfl rfl, qcd_1, by decide +kernel, rfl⟩
theorem qcl_2 : ∀ k, k < qcS 2 → u_lay (qcN 2) (qcT 2) k ∈ qtb
  | 0, _ => qt1 (p := 150) rfl rfl
  | 1, _ => qt1 (p := 152) rfl rfl
  | 2, _ => qt1 (p := 154) rfl rfl
  | 3, _ => qt1 (p := 156) rfl rfl
  | 4, _ => qt1 (p := 158) rfl rfl
  | 5, _ => qt1 (p := 160) rfl rfl
  | n + 6, h => absurd (show n + 6 < 6 from h) (by omega)
theorem qcd_2 : ∀ k, k < qcS 2 → defaultValue (qty 2 k) = vp_V (qdef 2) k
  | 0, _ => rfl
  | 1, _ => rfl
  | 2, _ => rfl
  | 3, _ => rfl
  | 4, _ => rfl
  | 5, _ => rfl
  | n + 6, h => absurd (show n + 6 < 6 from h) (by omega)
theorem qcf_2 : qCF 2 := ⟨qcl_2, by decide +kernel, by decide +kernel, qt1 (p := 135) rfl rfl, qt1 (p := 8) rfl rfl, qcd_2, by decide +kernel, rfl⟩
theorem qcl_3 : ∀ k, k < qcS 3 → u_lay (qcN 3) (qcT 3) k ∈ qtb
  | 0, _ => qt1 (p := 197) rfl rfl
  | 1, _ => qt1 (p := 199) rfl rfl
  | 2, _ => qt1 (p := 201) rfl rfl
  | 3, _ => qt1 (p := 203) rfl rfl
  | 4, _ => qt1 (p := 205) rfl rfl
  | 5, _ => qt1 (p := 207) rfl rfl
  | 6, _ => qt1 (p := 209) rfl rfl
  | 7, _ => qt1 (p := 211) rfl rfl
  | n + 8, h => absurd (show n + 8 < 8 from h) (by omega)
theorem qcd_3 : ∀ k, k < qcS 3 → defaultValue (qty 3 k) = vp_V (qdef 3) k
  | 0, _ => rfl
  | 1, _ => rfl
  | 2, _ => rfl
  | 3, _ => rfl
  | 4, _ => rfl
  | 5, _ => rfl
  | 6, _ => rfl
  | 7, _ => rfl
  | n + 8, h => absurd (show n + 8 < 8 from h) (by omega)
theorem qcf_3 : qCF 3 := ⟨qcl_3, by decide +kernel, by decide +kernel, qt1 (p := 73) rfl rfl, qt1 (p := 4) rfl rfl, qcd_3, by decide +kernel, rfl⟩
theorem qcl_4 : ∀ k, k < qcS 4 → u_lay (qcN 4) (qcT 4) k ∈ qtb
  | 0, _ => qt1 (p := 172) rfl rfl
  | 1, _ => qt1 (p := 174) rfl rfl
  | 2, _ => qt1 (p := 176) rfl rfl
  | 3, _ => qt1 (p := 178) rfl rfl
  | 4, _ => qt1 (p := 180) rfl rfl
  | 5, _ => qt1 (p := 182) rfl rfl
  | 6, _ => qt1 (p := 184) rfl rfl
  | n + 7, h => absurd (show n + 7 < 7 from h) (by omega)
theorem qcd_4 : ∀ k, k < qcS 4 → defaultValue (qty 4 k) = vp_V (qdef 4) k
  | 0, _ => rfl
  | 1, _ => rfl
  | 2, _ => rfl
  | 3, _ => rfl
  | 4, _ => rfl
  | 5, _ => rfl
  | 6, _ => rfl
  | n + 7, h => absurd (show n + 7 < 7 from h) (by omega)
theorem qcf_4 : qCF 4 := ⟨qcl_4, by decide +kernel, by decide +kernel, qt1 (p := 100) rfl rfl, qt1 (p := 6) rfl rfl, qcd_4, by decide +kernel, rfl⟩
theorem qcl_5 : ∀ k, k < qcS 5 → u_lay (qcN 5) (qcT 5) k ∈ qtb
  | 0, _ => qt1 (p := 121) rfl rfl
  | 1, _ => qt1 (p := 123) rfl rfl
  | 2, _ => qt1 (p := 125) rfl rfl
  | 3, _ => qt1 (p := 127) rfl rfl
  | 4, _ => qt1 (p := 129) rfl rfl
  | 5, _ => qt1 (p := 131) rfl rfl
  | n + 6, h => absurd (show n + 6 < 6 from h) (by omega)
theorem qcd_5 : ∀ k, k < qcS 5 → defaultValue (qty 5 k) = vp_V (qdef 5) k
  | 0, _ => rfl
  | 1, _ => rfl
  | 2, _ => rfl
  | 3, _ => rfl
  | 4, _ => rfl
  | 5, _ => rfl
  | n + 6, h => absurd (show n + 6 < 6 from h) (by omega)
theorem qcf_5 : qCF 5 := ⟨qcl_5, by decide +kernel, by decide +kernel, qt1 (p := 106) rfl rfl, qt1 (p := 7) rfl rfl, qcd_5, by decide +kernel, rfl⟩
theorem qcl_6 : ∀ k, k < qcS 6 → u_lay (qcN 6) (qcT 6) k ∈ qtb
  | 0, _ => qt1 (p := 88) rfl rfl
  | 1, _ => qt1 (p := 90) rfl rfl
  | 2, _ => qt1 (p := 92) rfl rfl
  | 3, _ => qt1 (p := 94) rfl rfl
  | n + 4, h => absurd (show n + 4 < 4 from h) (by omega)
theorem qcd_6 : ∀ k, k < qcS 6 → defaultValue (qty 6 k) = vp_V (qdef 6) k
  | 0, _ => rfl
  | 1, _ => rfl
  | 2, _ => rfl
  | 3, _ => rfl
  | n + 4, h => absurd (show n + 4 < 4 from h) (by omega)
theorem qcf_6 : qCF 6 := ⟨qcl_6, by decide +kernel, by decide +kernel, qt1 (p := 79) rfl rfl, qt1 (p := 5) rfl rfl, qcd_6, by decide +kernel, rfl⟩
theorem qcl_7 : ∀ k, k < qcS 7 → u_lay (qcN 7) (qcT 7) k ∈ qtb
  | 0, _ => qt2 (p := 1) rfl rfl
  | 1, _ => qt2 (p := 3) rfl rfl
  | n + 2, h => absurd (show n + 2 < 2 from h) (by omega)
theorem qcd_7 : ∀ k, k < qcS 7 → defaultValue (qty 7 k) = vp_V (qdef 7) k
  | 0, _ => rfl
  | 1, _ => rfl
  | n + 2, h => absurd (show n + 2 < 2 from h) (by omega)
theorem qcf_7 : qCF 7 := ⟨qcl_7, by decide +kernel, by decide +kernel, qt1 (p := 229) rfl rfl, qt1 (p := 10) rfl rfl, qcd_7, by decide +kernel, rfl⟩
theorem qcl_8 : ∀ k, k < qcS 8 → u_lay (qcN 8) (qcT 8) k ∈ qtb
  | 0, _ => qt1 (p := 45) rfl rfl
  | 1, _ => qt1 (p := 47) rfl rfl
  | n + 2, h => absurd (show n + 2 < 2 from h) (by omega)
theorem qcd_8 : ∀ k, k < qcS 8 → defaultValue (qty 8 k) = vp_V (qdef 8) k
  | 0, _ => rfl
  | 1, _ => rfl
  | n + 2, h => absurd (show n + 2 < 2 from h) (by omega)
theorem qcf_8 : qCF 8 := ⟨qcl_8, by decide +kernel, by decide +kernel, qt1 (p := 33) rfl rfl, qt1 (p := 3) rfl rfl, qcd_8, by decide +kernel, rfl⟩
theorem qcl_9 : ∀ k, k < qcS 9 → u_lay (qcN 9) (qcT 9) k ∈ qtb
  | 0, _ => qt1 (p := 216) rfl rfl
  | 1, _ => qt1 (p := 218) rfl rfl
  | n + 2, h => absurd (show n + 2 < 2 from h) (by omega)
theorem qcd_9 : ∀ k, k < qcS 9 → defaultValue (qty 9 k) = vp_V (qdef 9) k
  | 0, _ => rfl
  | 1, _ => rfl
  | n + 2, h => absurd (show n + 2 < 2 from h) (by omega)
theorem qcf_9 : qCF 9 := ⟨qcl_9, by decide +kernel, by decide +kernel, qt1 (p := 17) rfl rfl, qt1 (p := 1) rfl rfl, qcd_9, by decide +kernel, rfl⟩
theorem qcl_10 : ∀ k, k < qcS 10 → u_lay (qcN 10) (qcT 10) k ∈ qtb
  | 0, _ => qt4 (p := 141) rfl rfl
  | 1, _ => qt4 (p := 143) rfl rfl
  | 2, _ => qt4 (p := 145) rfl rfl
  | 3, _ => qt4 (p := 147) rfl rfl
  | 4, _ => qt4 (p := 149) rfl rfl
  | 5, _ => qt4 (p := 151) rfl rfl
  | 6, _ => qt4 (p := 153) rfl rfl
  | 7, _ => qt4 (p := 155) rfl rfl
  | 8, _ => qt4 (p := 157) rfl rfl
  | 9, _ => qt4 (p := 159) rfl rfl
  | 10, _ => qt4 (p := 161) rfl rfl
  | 11, _ => qt4 (p := 163) rfl rfl
  | 12, _ => qt4 (p := 165) rfl rfl
  | 13, _ => qt4 (p := 167) rfl rfl
  | 14, _ => qt4 (p := 169) rfl rfl
  | 15, _ => qt4 (p := 171) rfl rfl
  | 16, _ => qt4 (p := 173) rfl rfl
  | 17, _ => qt4 (p := 175) rfl rfl
  | 18, _ => qt4 (p := 177) rfl rfl
  | 19, _ => qt4 (p := 179) rfl rfl
  | 20, _ => qt4 (p := 181) rfl rfl
  | 21, _ => qt4 (p := 183) rfl rfl
  | 22, _ => qt4 (p := 185) rfl rfl
  | 23, _ => qt4 (p := 187) rfl rfl
  | 24, _ => qt4 (p := 189) rfl rfl
  | 25, _ => qt4 (p := 191) rfl rfl
  | 26, _ => qt4 (p := 193) rfl rfl
  | 27, _ => qt4 (p := 195) rfl rfl
  | 28, _ => qt4 (p := 197) rfl rfl
  | 29, _ => qt4 (p := 199) rfl rfl
  | 30, _ => qt4 (p := 201) rfl rfl
  | 31, _ => qt4 (p := 203) rfl rfl
  | 32, _ => qt4 (p := 205) rfl rfl
  | 33, _ => qt4 (p := 207) rfl rfl
  | 34, _ => qt4 (p := 209) rfl rfl
  | 35, _ => qt4 (p := 211) rfl rfl
  | 36, _ => qt4 (p := 213) rfl rfl
  | 37, _ => qt4 (p := 215) rfl rfl
  | n + 38, h => absurd (show n + 38 < 38 from h) (by omega)
theorem qcd_10 : ∀ k, k < qcS 10 → defaultValue (qty 10 k) = vp_V (qdef 10) k
  | 0, _ => rfl
  | 1, _ => rfl
  | 2, _ => rfl
  | 3, _ => rfl
  | 4, _ => rfl
  | 5, _ => rfl
  | 6, _ => rfl
  | 7, _ => rfl
  | 8, _ => rfl
  | 9, _ => rfl
  | 10, _ => rfl
  | 11, _ => rfl
  | 12, _ => rfl
  | 13, _ => rfl
  | 14, _ => rfl
  | 15, _ => rfl
  | 16, _ => rfl
  | 17, _ => rfl
  | 18, _ => rfl
  | 19, _ => rfl
  | 20, _ => rfl
  | 21, _ => rfl
  | 22, _ => rfl
  | 23, _ => rfl
  | 24, _ => rfl
  | 25, _ => rfl
  | 26, _ => rfl
  | 27, _ => rfl
  | 28, _ => rfl
  | 29, _ => rfl
  | 30, _ => rfl
  | 31, _ => rfl
  | 32, _ => rfl
  | 33, _ => rfl
  | 34, _ => rfl
  | 35, _ => rfl
  | 36, _ => rfl
  | 37, _ => rfl
  | n + 38, h => absurd (show n + 38 < 38 from h) (by omega)
theorem qcf_10 : qCF 10 := ⟨qcl_10, by decide +kernel, by decide +kernel, qt4 (p := 98) rfl rfl, qt1 (p := 9) rfl rfl, qcd_10, by decide +kernel, rfl⟩
theorem qcf_ok : ∀ ci, ci < 11 → qCF ci
  | 0, _ => qcf_0
  | 1, _ => qcf_1
  | 2, _ => qcf_2
  | 3, _ => qcf_3
  | 4, _ => qcf_4
  | 5, _ => qcf_5
  | 6, _ => qcf_6
  | 7, _ => qcf_7
  | 8, _ => qcf_8
  | 9, _ => qcf_9
  | 10, _ => qcf_10
  | n + 11, h => absurd h (by omega)
theorem qcl_at : ∀ ci, ci < 11 → qcl[ci]? = some (qcN ci, qcT ci, qcS ci)
  | 0, _ => rfl
  | 1, _ => rfl
  | 2, _ => rfl
  | 3, _ => rfl
  | 4, _ => rfl
  | 5, _ => rfl
  | 6, _ => rfl
  | 7, _ => rfl
  | 8, _ => rfl
  | 9, _ => rfl
  | 10, _ => rfl
  | n + 11, h => absurd h (by omega)
theorem qc2o_ok : ∀ ci, ci < 11 → qcn (qc2o ci) = qcN ci
  | 0, _ => rfl
  | 1, _ => rfl
  | 2, _ => rfl
  | 3, _ => rfl
  | 4, _ => rfl
  | 5, _ => rfl
  | 6, _ => rfl
  | 7, _ => rfl
  | 8, _ => rfl
  | 9, _ => rfl
  | 10, _ => rfl
  | n + 11, h => absurd h (by omega)
theorem qtw_nat : (.native arraycopyName : Jvm.Cond) ∈ qtb := qt2 (p := 219) rfl rfl
theorem qtw_sta : (.static arraycopyName : Jvm.Cond) ∈ qtb := qt2 (p := 218) rfl rfl
theorem qtw_sys : (.initialized "java/lang/System" : Jvm.Cond) ∈ qtb := qt1 (p := 14) rfl rfl
theorem qtw_mst : (.static Lib.Math.min.name : Jvm.Cond) ∈ qtb := qt2 (p := 180) rfl rfl
theorem qtw_mat : (.initialized "java/lang/Math" : Jvm.Cond) ∈ qtb := qt1 (p := 13) rfl rfl
theorem qtw_mco : (.code Lib.Math.min.name Lib.Math.min.code 2 (some .int) : Jvm.Cond) ∈ qtb := qt2 (p := 181) rfl rfl
theorem qtw_oin : (.instanceMethod Lib.objectInit : Jvm.Cond) ∈ qtb := qt1 (p := 22) rfl rfl
theorem qtw_oco : (.code Lib.objectInit ⟨#[0xb1]⟩ 1 none : Jvm.Cond) ∈ qtb := qt1 (p := 23) rfl rfl
theorem qtw_a0 : (.arrayClass .int : Jvm.Cond) ∈ qtb := qt1 (p := 98) rfl rfl
theorem qtw_a1 : (.arrayClass .long : Jvm.Cond) ∈ qtb := qt1 (p := 50) rfl rfl
theorem qtw_a2 : (.arrayClass .byte : Jvm.Cond) ∈ qtb := qt4 (p := 218) rfl rfl
theorem qtw_a3 : (.arrayClass .boolean : Jvm.Cond) ∈ qtb := qt1 (p := 97) rfl rfl
theorem qtw_o0 : (.arrayOver (.object "AbilityChecker$Structure") : Jvm.Cond) ∈ lw_tbl := by
  have h : (.arrayOver (.object "AbilityChecker$Structure") : Jvm.Cond) ∈ tables_1_1 := List.mem_of_getElem? (i := 31) rfl
  exact List.mem_append_right _ (show _ ∈ tables_1_1 ++ (tables_1_2 ++ (tables_1_3 ++ (tables_1_4 ++ tables_1_5))) from by simp only [List.mem_append]; simp only [h, true_or, or_true])
theorem qtw_o1 : (.arrayOver (.object "AbilityChecker$Code") : Jvm.Cond) ∈ lw_tbl := by
  have h : (.arrayOver (.object "AbilityChecker$Code") : Jvm.Cond) ∈ tables_1_1 := List.mem_of_getElem? (i := 52) rfl
  exact List.mem_append_right _ (show _ ∈ tables_1_1 ++ (tables_1_2 ++ (tables_1_3 ++ (tables_1_4 ++ tables_1_5))) from by simp only [List.mem_append]; simp only [h, true_or, or_true])
