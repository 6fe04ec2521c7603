/-! THE FACE, as mathematics: the ledger, where the latest check found its fault, what is told of which function. -/
abbrev QT : Type := QE × Option Nat × Option (Nat × QS)
def fStructure (T : QT) (a : Int32) : Int32 × QT :=
  if 0 ≤ a ∧ a ≤ nI 15 then (if 32 ≤ T.1.1.length then (-nI 3, T) else (nI T.1.1.length, ((T.1.1 ++ [(a.toNatClampNeg, [])], T.1.2), T.2))) else (-nI 1, T)
def fField (T : QT) (x : Int64) : Int32 × QT :=
  if (isTy T.1.1.length x && !tref (tyOf x)) = true then
    (if T.1.1.length = 0 then (-nI 2, T) else if 16 ≤ (eFields T.1 (T.1.1.length - 1)).length then (-nI 3, T)
     else (nI ((eFields T.1 (T.1.1.length - 1)).length + 1), ((T.1.1.set (T.1.1.length - 1) (eOwn T.1 (T.1.1.length - 1), eFields T.1 (T.1.1.length - 1) ++ [tyOf x]), T.1.2), T.2)))
  else (-nI 1, T)
def fAbilities (T : QT) (x : Int64) : Int32 := if isTy T.1.1.length x = true then nI (eAb T.1 (tyOf x)) else -nI 1
def fBears (T : QT) (k : Int32) : Int32 := match ixN k T.1.1.length with
  | some k => bI (eBears T.1 k)
  | none => -nI 1
def fElement (T : QT) (x : Int64) : Int32 × QT :=
  if (isTy T.1.1.length x && !tref (tyOf x)) = true then
    (if 32 ≤ T.1.2.1.length then (-nI 3, T) else (nI T.1.2.1.length, ((T.1.1, T.1.2.1 ++ [tyOf x], T.1.2.2), T.2)))
  else (-nI 1, T)
def fFunction (T : QT) (f : Int32) : Int32 × QT :=
  if 0 ≤ f ∧ f ≤ nI 7 then (if 64 ≤ T.1.2.2.length then (-nI 3, T) else (nI T.1.2.2.length, ((T.1.1, T.1.2.1, T.1.2.2 ++ [(f.toNatClampNeg, [], [], [], [])]), T.2))) else (-nI 1, T)
/-- what is told of g is told no more -/
def forgetT (g : Nat) (R : Option (Nat × QS)) : Option (Nat × QS) := match R with
  | some (f, S) => if f = g then none else some (f, S)
  | none => none
def putF (T : QT) (g : Nat) (F : QF) : QT := ((T.1.1, T.1.2.1, T.1.2.2.set g F), T.2.1, forgetT g T.2.2)
def listF (F : QF) (w n : Nat) : QF := if w = 0 then (F.1, fTakes F ++ [n], fGives F, fMore F, fCode F) else if w = 1 then (F.1, fTakes F, fGives F ++ [n], fMore F, fCode F) else (F.1, fTakes F, fGives F, fMore F ++ [n], fCode F)
def listL (F : QF) (w : Nat) : List Nat := if w = 0 then fTakes F else if w = 1 then fGives F else fMore F
def fList (T : QT) (w : Int32) (x : Int64) : Int32 × QT :=
  if 0 ≤ w ∧ w ≤ nI 2 ∧ isTy T.1.1.length x = true then
    (if T.1.2.2.length = 0 then (-nI 2, T) else if (if w.toNatClampNeg = 2 then 32 else 8) ≤ (listL (eFun T.1 (T.1.2.2.length - 1)) w.toNatClampNeg).length then (-nI 3, T)
     else (nI ((listL (eFun T.1 (T.1.2.2.length - 1)) w.toNatClampNeg).length + 1), putF T (T.1.2.2.length - 1) (listF (eFun T.1 (T.1.2.2.length - 1)) w.toNatClampNeg (tyOf x))))
  else (-nI 1, T)
def insF (F : QF) (o : Nat) (a b : Int32) : QF := (F.1, fTakes F, fGives F, fMore F, fCode F ++ [(o, a, b)])
def fInstruction (T : QT) (o a b : Int32) : Int32 × QT :=
  if 0 ≤ o ∧ o ≤ nI 59 then
    (if T.1.2.2.length = 0 then (-nI 2, T) else if 256 ≤ (fCode (eFun T.1 (T.1.2.2.length - 1))).length then (-nI 3, T)
     else (nI ((fCode (eFun T.1 (T.1.2.2.length - 1))).length + 1), putF T (T.1.2.2.length - 1) (insF (eFun T.1 (T.1.2.2.length - 1)) o.toNatClampNeg a b)))
  else (-nI 1, T)
def fCheck (T : QT) (f : Int32) : Int32 × QT := match ixN f T.1.2.2.length with
  | none => (-nI 101, (T.1, none, none))
  | some g => if (fCode (eFun T.1 g)).length = 0 then (-nI 101, (T.1, none, none))
    else (-nI (lLook T.1 (eFun T.1 g)).1, (T.1, if (lLook T.1 (eFun T.1 g)).1 = 0 then (none, some (g, (lLook T.1 (eFun T.1 g)).2.2)) else (some (lLook T.1 (eFun T.1 g)).2.1, none)))
def fPlace (T : QT) : Int32 := match T.2.1 with
  | some p => nI p
  | none => -nI 2
def fHeight (T : QT) (i : Int32) : Int32 := match T.2.2 with
  | some (g, S) => (match ixN i (fCode (eFun T.1 g)).length with
    | some i => nI ((S.2 i).getD 0)
    | none => -nI 1)
  | none => -nI 1
def fThere (T : QT) (i k : Int32) : Int32 := match T.2.2 with
  | some (g, S) => (match ixN i (fCode (eFun T.1 g)).length, ixN k (fLocs (eFun T.1 g)).length with
    | some i, some k => bI (((S.1 i).getD fun _ => none) k).isSome
    | _, _ => -nI 1)
  | none => -nI 1
def fOrigins (T : QT) (i k : Int32) : Int64 := match T.2.2 with
  | some (g, S) => (match ixN i (fCode (eFun T.1 g)).length, ixN k (fLocs (eFun T.1 g)).length with
    | some i, some k => (((S.1 i).getD fun _ => none) k).getD 0
    | _, _ => 0)
  | none => 0
/-! What always holds of it. -/
def FV (ns : Nat) (F : QF) : Prop := F.1 < 8 ∧ (fTakes F).length ≤ 8 ∧ (fGives F).length ≤ 8 ∧ (fMore F).length ≤ 32 ∧ (fCode F).length ≤ 256 ∧ (∀ t ∈ fTakes F, ttype ns t = true) ∧ (∀ t ∈ fGives F, ttype ns t = true) ∧ (∀ t ∈ fMore F, ttype ns t = true) ∧ ∀ q ∈ fCode F, q.1 < 60
def EV (E : QE) : Prop := E.1.length ≤ 32 ∧ E.2.1.length ≤ 32 ∧ E.2.2.length ≤ 64 ∧ (∀ s ∈ E.1, s.1 < 16 ∧ s.2.length ≤ 16 ∧ ∀ t ∈ s.2, tplain E.1.length t = true) ∧ (∀ t ∈ E.2.1, tplain E.1.length t = true) ∧ ∀ F ∈ E.2.2, FV E.1.length F
def TOK (T : QT) : Prop := ∀ g S, T.2.2 = some (g, S) → g < T.1.2.2.length ∧ ∀ i, i < (fCode (eFun T.1 g)).length → (S.1 i).isSome = true ∧ (S.2 i).isSome = true
def TV (T : QT) : Prop := EV T.1 ∧ TOK T
set_option maxHeartbeats 4000000 in
theorem tplain_f {ns n : Nat} (h : tplain ns n = true) : (1 ≤ n % 256 ∧ n % 256 ≤ 5 ∧ (n / 256 = 0 ∨ n / 256 = 7 ∨ n / 256 = 1799 ∨ n / 256 = 460551 ∨ n / 256 = 117901063)) ∨ (n % 256 < ns ∧ n / 256 % 256 = 6 ∧ (n / 65536 = 0 ∨ n / 65536 = 7 ∨ n / 65536 = 1799 ∨ n / 65536 = 460551 ∨ n / 65536 = 117901063)) := by
  unfold tplain tVV at h
  simpa [and_assoc] using h
set_option maxHeartbeats 4000000 in
theorem trefer_f {ns n : Nat} (h : trefer ns n = true) : (1 ≤ n % 256 ∧ n % 256 ≤ 5 ∧ (n / 256 = 8 ∨ n / 256 = 2055 ∨ n / 256 = 526087 ∨ n / 256 = 134678279 ∨ n / 256 = 34477639431 ∨ n / 256 = 9 ∨ n / 256 = 2311 ∨ n / 256 = 591623 ∨ n / 256 = 151455495 ∨ n / 256 = 38772606727)) ∨ (n % 256 < ns ∧ n / 256 % 256 = 6 ∧ (n / 65536 = 8 ∨ n / 65536 = 2055 ∨ n / 65536 = 526087 ∨ n / 65536 = 134678279 ∨ n / 65536 = 34477639431 ∨ n / 65536 = 9 ∨ n / 65536 = 2311 ∨ n / 65536 = 591623 ∨ n / 65536 = 151455495 ∨ n / 65536 = 38772606727)) := by
  unfold trefer tRR at h
  simpa [and_assoc] using h
set_option maxHeartbeats 4000000 in
theorem tplain_lt {ns n : Nat} (hs : ns ≤ 32) (h : tplain ns n = true) : n < 2 ^ 48 ∧ 0 < n := by
  rcases tplain_f h with ⟨h1, h2, h3⟩ | ⟨h1, h2, h3⟩ <;> omega
set_option maxHeartbeats 4000000 in
theorem trefer_lt {ns n : Nat} (hs : ns ≤ 32) (h : trefer ns n = true) : n < 2 ^ 56 ∧ 0 < n := by
  rcases trefer_f h with ⟨h1, h2, h3⟩ | ⟨h1, h2, h3⟩ <;> omega
set_option maxHeartbeats 4000000 in
theorem ttype_lt {ns n : Nat} (hs : ns ≤ 32) (h : ttype ns n = true) : n < 2 ^ 56 ∧ 0 < n := by
  unfold ttype at h
  rw [Bool.or_eq_true] at h
  rcases h with h | h
  · have := tplain_lt hs h
    omega
  · exact trefer_lt hs h
set_option maxHeartbeats 4000000 in
theorem getD_all {l : List Nat} {P : Nat → Prop} (h : ∀ t ∈ l, P t) (h0 : P 0) (j : Nat) : P (l.getD j 0) := by
  by_cases hj : j < l.length
  · rw [getD_at hj]
    exact h _ (List.getElem_mem _)
  · rw [List.getD_eq_getElem?_getD, List.getElem?_eq_none (by omega)]
    exact h0
set_option maxHeartbeats 4000000 in
theorem eFun_mem {E : QE} {k : Nat} (hk : k < E.2.2.length) : eFun E k ∈ E.2.2 := by
  unfold eFun
  rw [List.getElem?_eq_getElem hk]
  exact List.getElem_mem _
set_option maxHeartbeats 4000000 in
theorem EV.fields {E : QE} (H : EV E) (k : Nat) : (eFields E k).length ≤ 16 ∧ ∀ t ∈ eFields E k, tplain E.1.length t = true := by
  unfold eFields
  by_cases hk : k < E.1.length
  · rw [List.getElem?_eq_getElem hk]
    exact (H.2.2.2.1 _ (List.getElem_mem hk)).2
  · rw [List.getElem?_eq_none (by omega)]
    exact ⟨Nat.zero_le _, fun t ht => by cases ht⟩
set_option maxHeartbeats 4000000 in
theorem EV.bound {E : QE} (H : EV E) : EB E := by
  have hs := H.1
  refine ⟨fun s j => ?_, fun k => ?_, fun g j => ?_⟩
  · exact getD_all (P := fun t => t < 2 ^ 56) (fun t ht => by have := tplain_lt hs ((H.fields s).2 t ht); omega) (by decide) j
  · exact getD_all (P := fun t => t < 2 ^ 56) (fun t ht => by have := tplain_lt hs (H.2.2.2.2.1 t ht); omega) (by decide) k
  · by_cases hg : g < E.2.2.length
    · obtain ⟨_, _, _, _, _, f1, f2, f3, _⟩ := H.2.2.2.2.2 _ (eFun_mem hg)
      exact ⟨getD_all (P := fun t => t < 2 ^ 56) (fun t ht => (ttype_lt hs (f1 t ht)).1) (by decide) j, getD_all (P := fun t => t < 2 ^ 56) (fun t ht => (ttype_lt hs (f2 t ht)).1) (by decide) j, getD_all (P := fun t => t < 2 ^ 56) (fun t ht => (ttype_lt hs (f3 t ht)).1) (by decide) j⟩
    · have e : eFun E g = (0, [], [], [], []) := by unfold eFun; rw [List.getElem?_eq_none (by omega)]; rfl
      rw [e]
      exact ⟨(by decide : 0 < 2 ^ 56), (by decide : 0 < 2 ^ 56), (by decide : 0 < 2 ^ 56)⟩
set_option maxHeartbeats 4000000 in
theorem FV.bound {ns : Nat} {F : QF} (hs : ns ≤ 32) (H : FV ns F) : FB F := by
  obtain ⟨_, _, _, _, _, f1, f2, f3, _⟩ := H
  refine ⟨fun k => ?_, fun n hn => by have := ttype_lt hs (f2 n hn); omega⟩
  refine getD_all (P := fun t => t < 2 ^ 56) (fun t ht => ?_) (by decide) k
  rcases List.mem_append.mp ht with z | z
  · exact (ttype_lt hs (f1 t z)).1
  · exact (ttype_lt hs (f3 t z)).1
set_option maxHeartbeats 4000000 in
theorem tyS_plain {ns n : Nat} : ∀ k, k ≤ 8 → n < 256 ^ k → tyS ns n k 0 = true → tplain ns n = true := by
  intro k hk hn h
  have key : (1 ≤ n % 256 ∧ n % 256 ≤ 5 ∧ (n / 256 = 0 ∨ n / 256 = 7 ∨ n / 256 = 1799 ∨ n / 256 = 460551 ∨ n / 256 = 117901063)) ∨ (n % 256 < ns ∧ n / 256 % 256 = 6 ∧ (n / 65536 = 0 ∨ n / 65536 = 7 ∨ n / 65536 = 1799 ∨ n / 65536 = 460551 ∨ n / 65536 = 117901063)) := by
    rcases (show k = 0 ∨ k = 1 ∨ k = 2 ∨ k = 3 ∨ k = 4 ∨ k = 5 ∨ k = 6 ∨ k = 7 ∨ k = 8 by omega) with rfl | rfl | rfl | rfl | rfl | rfl | rfl | rfl | rfl
    all_goals simp only [tyS, tby, Nat.reducePow, Nat.reduceAdd, Nat.div_one] at h hn
    all_goals repeat' split at h
    all_goals first
      | (cases h; done)
      | (simp at h; done)
      | (simp at h; omega)
  unfold tplain tVV
  simpa [and_assoc] using key
set_option maxHeartbeats 4000000 in
theorem tyS_refer {ns n : Nat} : ∀ k, k < 8 → (n / 256 ^ k = 8 ∨ n / 256 ^ k = 9) → tyS ns n k 0 = true → trefer ns n = true := by
  intro k hk hn h
  have key : (1 ≤ n % 256 ∧ n % 256 ≤ 5 ∧ (n / 256 = 8 ∨ n / 256 = 2055 ∨ n / 256 = 526087 ∨ n / 256 = 134678279 ∨ n / 256 = 34477639431 ∨ n / 256 = 9 ∨ n / 256 = 2311 ∨ n / 256 = 591623 ∨ n / 256 = 151455495 ∨ n / 256 = 38772606727)) ∨ (n % 256 < ns ∧ n / 256 % 256 = 6 ∧ (n / 65536 = 8 ∨ n / 65536 = 2055 ∨ n / 65536 = 526087 ∨ n / 65536 = 134678279 ∨ n / 65536 = 34477639431 ∨ n / 65536 = 9 ∨ n / 65536 = 2311 ∨ n / 65536 = 591623 ∨ n / 65536 = 151455495 ∨ n / 65536 = 38772606727)) := by
    rcases (show k = 0 ∨ k = 1 ∨ k = 2 ∨ k = 3 ∨ k = 4 ∨ k = 5 ∨ k = 6 ∨ k = 7 by omega) with rfl | rfl | rfl | rfl | rfl | rfl | rfl | rfl
    all_goals simp only [tyS, tby, Nat.reducePow, Nat.reduceAdd, Nat.div_one] at h hn
    all_goals repeat' split at h
    all_goals first
      | (cases h; done)
      | (simp at h; done)
      | (simp at h; omega)
  unfold trefer tRR
  simpa [and_assoc] using key
set_option maxHeartbeats 4000000 in
theorem tlen_bd {n : Nat} (h0 : 0 < n) (hn : n < 2 ^ 63) : ∃ p, p ≤ 7 ∧ tlen n = p + 1 ∧ 256 ^ p ≤ n ∧ n < 256 ^ (p + 1) := by
  have key : ∃ p, p ≤ 7 ∧ 256 ^ p ≤ n ∧ n < 256 ^ (p + 1) := by
    rcases (show n < 256 ∨ (256 ≤ n ∧ n < 65536) ∨ (65536 ≤ n ∧ n < 16777216) ∨ (16777216 ≤ n ∧ n < 4294967296) ∨ (4294967296 ≤ n ∧ n < 1099511627776) ∨ (1099511627776 ≤ n ∧ n < 281474976710656) ∨ (281474976710656 ≤ n ∧ n < 72057594037927936) ∨ 72057594037927936 ≤ n by omega) with g | g | g | g | g | g | g | g
    · exact ⟨0, by decide, by simp only [Nat.reducePow]; omega, by simp only [Nat.reducePow, Nat.reduceAdd]; omega⟩
    · exact ⟨1, by decide, by simp only [Nat.reducePow]; omega, by simp only [Nat.reducePow, Nat.reduceAdd]; omega⟩
    · exact ⟨2, by decide, by simp only [Nat.reducePow]; omega, by simp only [Nat.reducePow, Nat.reduceAdd]; omega⟩
    · exact ⟨3, by decide, by simp only [Nat.reducePow]; omega, by simp only [Nat.reducePow, Nat.reduceAdd]; omega⟩
    · exact ⟨4, by decide, by simp only [Nat.reducePow]; omega, by simp only [Nat.reducePow, Nat.reduceAdd]; omega⟩
    · exact ⟨5, by decide, by simp only [Nat.reducePow]; omega, by simp only [Nat.reducePow, Nat.reduceAdd]; omega⟩
    · exact ⟨6, by decide, by simp only [Nat.reducePow]; omega, by simp only [Nat.reducePow, Nat.reduceAdd]; omega⟩
    · exact ⟨7, by decide, by simp only [Nat.reducePow]; omega, by simp only [Nat.reducePow, Nat.reduceAdd]; omega⟩
  obtain ⟨p, h1, h2, h3⟩ := key
  exact ⟨p, h1, tlen_eq h2 h3 (by omega), h2, h3⟩
set_option maxHeartbeats 4000000 in
theorem tyA_type {ns n : Nat} (h0 : 0 < n) (hn : n < 2 ^ 63) (h : tyA ns n = true) : ttype ns n = true ∧ (tref n = false → tplain ns n = true) := by
  obtain ⟨p, hp, hl, h1, h2⟩ := tlen_bd h0 hn
  unfold tyA at h
  rw [hl] at h
  have hd : n / 256 ^ p < 256 := by
    rw [Nat.div_lt_iff_lt_mul (Nat.pow_pos (by decide)), Nat.mul_comm, ← Nat.pow_succ]
    exact h2
  have hlead : tlead n = n / 256 ^ p := by
    rw [tlead_eq h1 h2 (by omega), Nat.mod_eq_of_lt hd]
  cases hr : tref n with
  | true =>
    rw [hr, if_pos rfl, Nat.add_sub_cancel] at h
    have h8 : n / 256 ^ p = 8 ∨ n / 256 ^ p = 9 := by
      unfold tref at hr
      rw [hlead] at hr
      simpa using hr
    have := tyS_refer p (by omega) h8 h
    refine ⟨?_, fun z => by cases z⟩
    unfold ttype
    rw [this, Bool.or_true]
  | false =>
    rw [hr, if_neg (by decide)] at h
    have := tyS_plain (p + 1) (by omega) h2 h
    refine ⟨?_, fun _ => this⟩
    unfold ttype
    rw [this, Bool.true_or]
set_option maxHeartbeats 4000000 in
theorem isTy_type {ns : Nat} {x : Int64} (h : isTy ns x = true) : ttype ns (tyOf x) = true ∧ (tref (tyOf x) = false → tplain ns (tyOf x) = true) ∧ 0 < x := by
  unfold isTy at h
  rw [Bool.and_eq_true, decide_eq_true_eq] at h
  obtain ⟨h1, h2⟩ := tyOf_pos h.1
  obtain ⟨h3, h4⟩ := tyA_type h1 h2 h.2
  exact ⟨h3, h4, h.1⟩
