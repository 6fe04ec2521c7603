/-! What always holds of the face is kept by every call. -/
set_option maxHeartbeats 4000000 in
theorem tplain_up {ns ns' n : Nat} (h : tplain ns n = true) (hl : ns ≤ ns') : tplain ns' n = true := by
  unfold tplain at h ⊢
  simp only [Bool.or_eq_true, Bool.and_eq_true, decide_eq_true_eq] at h ⊢
  rcases h with h | h
  · exact Or.inl h
  · exact Or.inr ⟨⟨by omega, h.1.2⟩, h.2⟩
set_option maxHeartbeats 4000000 in
theorem trefer_up {ns ns' n : Nat} (h : trefer ns n = true) (hl : ns ≤ ns') : trefer ns' n = true := by
  unfold trefer at h ⊢
  simp only [Bool.or_eq_true, Bool.and_eq_true, decide_eq_true_eq] at h ⊢
  rcases h with h | h
  · exact Or.inl h
  · exact Or.inr ⟨⟨by omega, h.1.2⟩, h.2⟩
set_option maxHeartbeats 4000000 in
theorem ttype_up {ns ns' n : Nat} (h : ttype ns n = true) (hl : ns ≤ ns') : ttype ns' n = true := by
  unfold ttype at h ⊢
  rw [Bool.or_eq_true] at h ⊢
  rcases h with h | h
  · exact Or.inl (tplain_up h hl)
  · exact Or.inr (trefer_up h hl)
set_option maxHeartbeats 4000000 in
theorem FV.up {ns ns' : Nat} {F : QF} (h : FV ns F) (hl : ns ≤ ns') : FV ns' F := by
  obtain ⟨a1, a2, a3, a4, a5, a6, a7, a8, a9⟩ := h
  exact ⟨a1, a2, a3, a4, a5, fun t ht => ttype_up (a6 t ht) hl, fun t ht => ttype_up (a7 t ht) hl, fun t ht => ttype_up (a8 t ht) hl, a9⟩
set_option maxHeartbeats 4000000 in
theorem nat_of {a : Int32} {n : Nat} (h : 0 ≤ a ∧ a ≤ nI n) (hn : n < 2 ^ 31) : a = nI a.toNatClampNeg ∧ a.toNatClampNeg ≤ n := by
  rcases pk_ix a hn with z | z | ⟨j, hj, e⟩
  · exact absurd h.1 (Int32.not_le.mpr z)
  · have e : a = nI n := Int32.le_antisymm h.2 z
    rw [e, nI_clamp hn]
    exact ⟨rfl, Nat.le_refl _⟩
  · rw [e, nI_clamp (by omega)]
    exact ⟨rfl, by omega⟩
set_option maxHeartbeats 4000000 in
theorem TV.struct {T : QT} (V : TV T) (a : Int32) : TV (fStructure T a).2 := by
  obtain ⟨⟨v1, v2, v3, v4, v5, v6⟩, O⟩ := V
  unfold fStructure
  by_cases ha : 0 ≤ a ∧ a ≤ nI 15
  · rw [if_pos ha]
    by_cases h32 : 32 ≤ T.1.1.length
    · rw [if_pos h32]
      exact ⟨⟨v1, v2, v3, v4, v5, v6⟩, O⟩
    · rw [if_neg h32]
      have hl : (T.1.1 ++ [(a.toNatClampNeg, ([] : List Nat))]).length = T.1.1.length + 1 := by rw [List.length_append, List.length_singleton]
      refine ⟨⟨by show (T.1.1 ++ [(a.toNatClampNeg, ([] : List Nat))]).length ≤ 32; omega, v2, v3, fun s hs => ?_, fun t ht => ?_, fun F hF => ?_⟩, O⟩
      · rcases List.mem_append.mp hs with z | z
        · obtain ⟨w1, w2, w3⟩ := v4 s z
          exact ⟨w1, w2, fun t ht => tplain_up (w3 t ht) (by rw [hl]; omega)⟩
        · rw [List.mem_singleton.mp z]
          exact ⟨by have := (nat_of ha (by decide)).2; show a.toNatClampNeg < 16; omega, Nat.zero_le _, fun t ht => by cases ht⟩
      · exact tplain_up (v5 t ht) (by show T.1.1.length ≤ (T.1.1 ++ [(a.toNatClampNeg, ([] : List Nat))]).length; omega)
      · exact (v6 F hF).up (by show T.1.1.length ≤ (T.1.1 ++ [(a.toNatClampNeg, ([] : List Nat))]).length; omega)
  · rw [if_neg ha]
    exact ⟨⟨v1, v2, v3, v4, v5, v6⟩, O⟩
set_option maxHeartbeats 4000000 in
theorem TV.field {T : QT} (V : TV T) (x : Int64) : TV (fField T x).2 := by
  obtain ⟨⟨v1, v2, v3, v4, v5, v6⟩, O⟩ := id V
  unfold fField
  by_cases hx : (isTy T.1.1.length x && !tref (tyOf x)) = true
  · rw [if_pos hx]
    rw [Bool.and_eq_true, Bool.not_eq_true'] at hx
    obtain ⟨_, hp, _⟩ := isTy_type hx.1
    have hp := hp hx.2
    by_cases h0 : T.1.1.length = 0
    · rw [if_pos h0]; exact V
    · rw [if_neg h0]
      by_cases h16 : 16 ≤ (eFields T.1 (T.1.1.length - 1)).length
      · rw [if_pos h16]; exact V
      · rw [if_neg h16]
        have hk : T.1.1.length - 1 < T.1.1.length := by omega
        have e1 : eFields T.1 (T.1.1.length - 1) = (T.1.1[T.1.1.length - 1]).2 := by unfold eFields; rw [List.getElem?_eq_getElem hk]; rfl
        have e2 : eOwn T.1 (T.1.1.length - 1) = (T.1.1[T.1.1.length - 1]).1 := by unfold eOwn; rw [List.getElem?_eq_getElem hk]; rfl
        obtain ⟨w1, w2, w3⟩ := v4 _ (List.getElem_mem hk)
        refine ⟨⟨by show (T.1.1.set _ _).length ≤ 32; rw [List.length_set]; exact v1, v2, v3, fun s hs => ?_, fun t ht => ?_, fun F hF => ?_⟩, O⟩
        · have hs : s ∈ T.1.1.set (T.1.1.length - 1) (eOwn T.1 (T.1.1.length - 1), eFields T.1 (T.1.1.length - 1) ++ [tyOf x]) := hs
          show s.1 < 16 ∧ s.2.length ≤ 16 ∧ ∀ t ∈ s.2, tplain (T.1.1.set (T.1.1.length - 1) (eOwn T.1 (T.1.1.length - 1), eFields T.1 (T.1.1.length - 1) ++ [tyOf x])).length t = true
          rw [List.length_set]
          rcases List.mem_or_eq_of_mem_set hs with z | z
          · exact v4 s z
          · rw [z]
            refine ⟨by show eOwn T.1 (T.1.1.length - 1) < 16; rw [e2]; exact w1, by show (eFields T.1 (T.1.1.length - 1) ++ [tyOf x]).length ≤ 16; rw [List.length_append, List.length_singleton]; omega, fun t ht => ?_⟩
            rcases List.mem_append.mp ht with q | q
            · rw [e1] at q; exact w3 t q
            · rw [List.mem_singleton.mp q]; exact hp
        · show tplain (T.1.1.set (T.1.1.length - 1) (eOwn T.1 (T.1.1.length - 1), eFields T.1 (T.1.1.length - 1) ++ [tyOf x])).length t = true
          rw [List.length_set]
          exact v5 t ht
        · show FV (T.1.1.set (T.1.1.length - 1) (eOwn T.1 (T.1.1.length - 1), eFields T.1 (T.1.1.length - 1) ++ [tyOf x])).length F
          rw [List.length_set]
          exact v6 F hF
  · rw [if_neg hx]; exact V
set_option maxHeartbeats 4000000 in
theorem TV.element {T : QT} (V : TV T) (x : Int64) : TV (fElement T x).2 := by
  obtain ⟨⟨v1, v2, v3, v4, v5, v6⟩, O⟩ := id V
  unfold fElement
  by_cases hx : (isTy T.1.1.length x && !tref (tyOf x)) = true
  · rw [if_pos hx]
    rw [Bool.and_eq_true, Bool.not_eq_true'] at hx
    obtain ⟨_, hp, _⟩ := isTy_type hx.1
    have hp := hp hx.2
    by_cases h32 : 32 ≤ T.1.2.1.length
    · rw [if_pos h32]; exact V
    · rw [if_neg h32]
      refine ⟨⟨v1, by show (T.1.2.1 ++ [tyOf x]).length ≤ 32; rw [List.length_append, List.length_singleton]; omega, v3, v4, fun t ht => ?_, v6⟩, O⟩
      rcases List.mem_append.mp ht with q | q
      · exact v5 t q
      · rw [List.mem_singleton.mp q]; exact hp
  · rw [if_neg hx]; exact V
set_option maxHeartbeats 4000000 in
theorem TV.function {T : QT} (V : TV T) (f : Int32) : TV (fFunction T f).2 := by
  obtain ⟨⟨v1, v2, v3, v4, v5, v6⟩, O⟩ := id V
  unfold fFunction
  by_cases hf : 0 ≤ f ∧ f ≤ nI 7
  · rw [if_pos hf]
    by_cases h64 : 64 ≤ T.1.2.2.length
    · rw [if_pos h64]; exact V
    · rw [if_neg h64]
      refine ⟨⟨v1, v2, by show (T.1.2.2 ++ [(f.toNatClampNeg, ([] : List Nat), ([] : List Nat), ([] : List Nat), ([] : List (Nat × Int32 × Int32)))]).length ≤ 64; rw [List.length_append, List.length_singleton]; omega, v4, v5, fun F hF => ?_⟩, fun g S hg => ?_⟩
      · rcases List.mem_append.mp hF with z | z
        · exact v6 F z
        · rw [List.mem_singleton.mp z]
          exact ⟨by have := (nat_of hf (by decide)).2; show f.toNatClampNeg < 8; omega, Nat.zero_le _, Nat.zero_le _, Nat.zero_le _, Nat.zero_le _, fun t ht => (by cases ht), fun t ht => (by cases ht), fun t ht => (by cases ht), fun q hq => by cases hq⟩
      · obtain ⟨o1, o2⟩ := O g S hg
        refine ⟨by show g < (T.1.2.2 ++ [_]).length; rw [List.length_append, List.length_singleton]; omega, fun i hi => ?_⟩
        have hi : i < (fCode (eFun (T.1.1, T.1.2.1, T.1.2.2 ++ [(f.toNatClampNeg, [], [], [], [])]) g)).length := hi
        rw [eFun_app o1] at hi
        exact o2 i hi
  · rw [if_neg hf]; exact V
set_option maxHeartbeats 4000000 in
theorem TV.put {T : QT} (V : TV T) {g : Nat} {F : QF} (hF : FV T.1.1.length F) : TV (putF T g F) := by
  obtain ⟨⟨v1, v2, v3, v4, v5, v6⟩, O⟩ := id V
  refine ⟨⟨v1, v2, by show (T.1.2.2.set g F).length ≤ 64; rw [List.length_set]; exact v3, v4, v5, fun F' hF' => ?_⟩, fun g' S hg => ?_⟩
  · rcases List.mem_or_eq_of_mem_set (show F' ∈ T.1.2.2.set g F from hF') with z | z
    · exact v6 F' z
    · rw [z]; exact hF
  · have hg : forgetT g T.2.2 = some (g', S) := hg
    unfold forgetT at hg
    cases hT : T.2.2 with
    | none => rw [hT] at hg; cases hg
    | some q =>
      obtain ⟨g2, S2⟩ := q
      rw [hT] at hg
      have hg : (if g2 = g then none else some (g2, S2)) = some (g', S) := hg
      by_cases e : g2 = g
      · rw [if_pos e] at hg; cases hg
      · rw [if_neg e] at hg
        cases hg
        obtain ⟨o1, o2⟩ := O _ _ hT
        refine ⟨by show g' < (T.1.2.2.set g F).length; rw [List.length_set]; exact o1, fun i hi => ?_⟩
        have hi : i < (fCode (eFun (T.1.1, T.1.2.1, T.1.2.2.set g F) g')).length := hi
        rw [eFun_set e] at hi
        exact o2 i hi
set_option maxHeartbeats 4000000 in
theorem TV.list {T : QT} (V : TV T) (w : Int32) (x : Int64) : TV (fList T w x).2 := by
  unfold fList
  by_cases hx : 0 ≤ w ∧ w ≤ nI 2 ∧ isTy T.1.1.length x = true
  · rw [if_pos hx]
    obtain ⟨ht, _, _⟩ := isTy_type hx.2.2
    by_cases h0 : T.1.2.2.length = 0
    · rw [if_pos h0]; exact V
    · rw [if_neg h0]
      by_cases hfull : (if w.toNatClampNeg = 2 then 32 else 8) ≤ (listL (eFun T.1 (T.1.2.2.length - 1)) w.toNatClampNeg).length
      · rw [if_pos hfull]; exact V
      · rw [if_neg hfull]
        refine V.put ?_
        obtain ⟨a1, a2, a3, a4, a5, a6, a7, a8, a9⟩ := V.1.2.2.2.2.2 _ (eFun_mem (show T.1.2.2.length - 1 < T.1.2.2.length by omega))
        have mem : ∀ (l : List Nat), (∀ t ∈ l, ttype T.1.1.length t = true) → ∀ t ∈ l ++ [tyOf x], ttype T.1.1.length t = true := by
          intro l hl t htm
          rcases List.mem_append.mp htm with q | q
          · exact hl t q
          · rw [List.mem_singleton.mp q]; exact ht
        unfold listL at hfull
        unfold listF
        by_cases w0 : w.toNatClampNeg = 0
        · rw [if_pos w0] at hfull ⊢
          rw [if_neg (by omega)] at hfull
          exact ⟨a1, by show (fTakes _ ++ [tyOf x]).length ≤ 8; rw [List.length_append, List.length_singleton]; omega, a3, a4, a5, mem _ a6, a7, a8, a9⟩
        · rw [if_neg w0] at hfull ⊢
          by_cases w1 : w.toNatClampNeg = 1
          · rw [if_pos w1] at hfull ⊢
            rw [if_neg (by omega)] at hfull
            exact ⟨a1, a2, by show (fGives _ ++ [tyOf x]).length ≤ 8; rw [List.length_append, List.length_singleton]; omega, a4, a5, a6, mem _ a7, a8, a9⟩
          · rw [if_neg w1] at hfull ⊢
            have w2 : w.toNatClampNeg = 2 := by have := (nat_of ⟨hx.1, hx.2.1⟩ (by decide)).2; omega
            rw [if_pos w2] at hfull
            exact ⟨a1, a2, a3, by show (fMore _ ++ [tyOf x]).length ≤ 32; rw [List.length_append, List.length_singleton]; omega, a5, a6, a7, mem _ a8, a9⟩
  · rw [if_neg hx]; exact V
set_option maxHeartbeats 4000000 in
theorem TV.instruction {T : QT} (V : TV T) (o a b : Int32) : TV (fInstruction T o a b).2 := by
  unfold fInstruction
  by_cases ho : 0 ≤ o ∧ o ≤ nI 59
  · rw [if_pos ho]
    by_cases h0 : T.1.2.2.length = 0
    · rw [if_pos h0]; exact V
    · rw [if_neg h0]
      by_cases hfull : 256 ≤ (fCode (eFun T.1 (T.1.2.2.length - 1))).length
      · rw [if_pos hfull]; exact V
      · rw [if_neg hfull]
        refine V.put ?_
        obtain ⟨a1, a2, a3, a4, a5, a6, a7, a8, a9⟩ := V.1.2.2.2.2.2 _ (eFun_mem (show T.1.2.2.length - 1 < T.1.2.2.length by omega))
        refine ⟨a1, a2, a3, a4, by show (fCode _ ++ [_]).length ≤ 256; rw [List.length_append, List.length_singleton]; omega, a6, a7, a8, fun q hq => ?_⟩
        rcases List.mem_append.mp (show q ∈ fCode (eFun T.1 (T.1.2.2.length - 1)) ++ [(o.toNatClampNeg, a, b)] from hq) with z | z
        · exact a9 q z
        · rw [List.mem_singleton.mp z]
          have := (nat_of ho (by decide)).2
          show o.toNatClampNeg < 60
          omega
  · rw [if_neg ho]; exact V
set_option maxHeartbeats 4000000 in
theorem cCome_high {E : QE} {F : QF} {S : QS} {i j k : Nat} {now : Nat → Option Int64} (h : (S.2 k).isSome = true) : ((cCome E F S i j now).2.2 k).isSome = true := by
  unfold cCome
  split
  · exact h
  · split
    · exact h
    · split
      · exact h
      · exact h
set_option maxHeartbeats 4000000 in
theorem lNext_high {E : QE} {F : QF} {i k : Nat} {S : QS} {M : QM} (h : (S.2 k).isSome = true) : ((lNext E F i S M).2.1.2 k).isSome = true := by
  unfold lNext
  split
  · exact cCome_high h
  · exact h
set_option maxHeartbeats 4000000 in
theorem lGo_high {E : QE} {F : QF} {i o k : Nat} {a : Int32} {S : QS} {M : QM} (h : (S.2 k).isSome = true) : ((lGo E F i o a S M).2.1.2 k).isSome = true := by
  unfold lGo
  split
  · exact h
  · split
    · split
      · split
        · exact cCome_high h
        · exact lNext_high (cCome_high h)
      · exact cCome_high h
    · exact lNext_high h
set_option maxHeartbeats 4000000 in
theorem lStep_high {E : QE} {F : QF} {i : Nat} {S : QS} {K : List QV} (hw : (lStep E F i S K).1 = 0) (hS : ∀ j, j < i → (S.2 j).isSome = true) (j : Nat) (hj : j < i + 1) : ((lStep E F i S K).2.1.2 j).isSome = true := by
  cases hSi : S.1 i with
  | none =>
    rw [lStep_none hSi] at hw
    exact absurd hw (by show ¬ 10 = 0; decide)
  | some L =>
    cases hq : (fCode F)[i]? with
    | none =>
      have e : lStep E F i S K = (10, S, []) := by unfold lStep; rw [hSi, hq]
      rw [e] at hw
      exact absurd hw (by show ¬ 10 = 0; decide)
    | some q =>
      have es := lStep_some (E := E) (K := K) hSi hq
      rw [es] at hw ⊢
      by_cases h8 : (fLed F i && !K.isEmpty) = true
      · rw [if_pos h8] at hw
        exact absurd hw (by show ¬ 8 = 0; decide)
      · rw [if_neg h8] at hw ⊢
        by_cases hN : oNamed E F q.1 q.2.1 q.2.2 = true
        · rw [if_pos hN] at hw ⊢
          by_cases hR : (oDo E F (K, L) q.1 q.2.1.toNatClampNeg q.2.2.toNatClampNeg).1 = 0
          · rw [if_pos hR] at hw ⊢
            refine lGo_high ?_
            show (if j = i then some K.length else S.2 j).isSome = true
            by_cases e : j = i
            · rw [if_pos e]; rfl
            · rw [if_neg e]; exact hS j (by omega)
          · rw [if_neg hR] at hw
            exact absurd hw hR
        · rw [if_neg hN] at hw
          exact absurd hw (by show ¬ 16 = 0; decide)
set_option maxHeartbeats 4000000 in
theorem ixN_lt {x : Int32} {n g : Nat} (hn : n < 2 ^ 31) (h : ixN x n = some g) : g < n := by
  rcases pk_ix x hn with z | z | ⟨j, hj, rfl⟩
  · rw [ixN_o (Or.inl z)] at h
    cases h
  · rw [ixN_o (Or.inr z)] at h
    cases h
  · rw [ixN_k hj hn] at h
    cases h
    exact hj
set_option maxHeartbeats 4000000 in
/-- what a taken look tells of every instruction -/
theorem lLoop_all {E : QE} {F : QF} : ∀ m i S K, m + i = (fCode F).length → (∀ j, j < i → (S.1 j).isSome = true ∧ (S.2 j).isSome = true) → (lLoop E F m i S K).1 = 0 → ∀ j, j < (fCode F).length → ((lLoop E F m i S K).2.2.1 j).isSome = true ∧ ((lLoop E F m i S K).2.2.2 j).isSome = true := by
  intro m
  induction m with
  | zero =>
    intro i S K hi hS _ j hj
    exact hS j (by omega)
  | succ m ih =>
    intro i S K hi hS hw j hj
    by_cases hz : (lStep E F i S K).1 = 0
    · have e : lLoop E F (m + 1) i S K = lLoop E F m (i + 1) (lStep E F i S K).2.1 (lStep E F i S K).2.2 := by
        show (if (lStep E F i S K).1 = 0 then _ else _) = _
        rw [if_pos hz]
      rw [e] at hw ⊢
      refine ih (i + 1) _ _ (by omega) (fun q hq => ⟨lStep_come hz (fun j hj => (hS j hj).1) q hq, ?_⟩) hw j hj
      exact lStep_high hz (fun j hj => (hS j hj).2) q hq
    · have e : lLoop E F (m + 1) i S K = ((lStep E F i S K).1, i, (lStep E F i S K).2.1) := by
        show (if (lStep E F i S K).1 = 0 then _ else _) = _
        rw [if_neg hz]
      rw [e] at hw
      exact absurd hw hz
set_option maxHeartbeats 4000000 in
theorem TV.check {T : QT} (V : TV T) (f : Int32) : TV (fCheck T f).2 := by
  unfold fCheck
  cases hx : ixN f T.1.2.2.length with
  | none => exact ⟨V.1, fun g S hg => by cases hg⟩
  | some g =>
    have hg := ixN_lt (by have := V.1.2.2.1; omega) hx
    show TV (if (fCode (eFun T.1 g)).length = 0 then _ else _ : Int32 × QT).2
    by_cases h0 : (fCode (eFun T.1 g)).length = 0
    · rw [if_pos h0]
      exact ⟨V.1, fun g S hg => by cases hg⟩
    · rw [if_neg h0]
      refine ⟨V.1, fun g' S hg' => ?_⟩
      have hg' : (if (lLook T.1 (eFun T.1 g)).1 = 0 then ((none : Option Nat), some (g, (lLook T.1 (eFun T.1 g)).2.2)) else (some (lLook T.1 (eFun T.1 g)).2.1, none)).2 = some (g', S) := hg'
      by_cases hw : (lLook T.1 (eFun T.1 g)).1 = 0
      · rw [if_pos hw] at hg'
        cases hg'
        exact ⟨hg, fun i hi => lLoop_all _ 0 _ _ rfl (fun j hj => absurd hj (Nat.not_lt_zero j)) hw i hi⟩
      · rw [if_neg hw] at hg'
        cases hg'
