/-! What ties pictures to the JVM's heap: the cell at place i lies at the address base + i; the law's script (told as .float) at b. -/
def qv (base b : Nat) : Value → Value
  | .ref i => .ref (base + i)
  | .float _ => .ref b
  | v => v
def qpa (base : Nat) : vp_A → vp_A
  | (n, .inr (.inr (.inr (.inr f)))) => (n, .inr (.inr (.inr (.inr (fun j => (f j).map (fun i => base + i))))))
  | (n, .inr (.inr (.inr (.inl f)))) => (n, .inr (.inr (.inr (.inl f))))
  | (n, .inr (.inr (.inl f))) => (n, .inr (.inr (.inl f)))
  | (n, .inr (.inl f)) => (n, .inr (.inl f))
  | (n, .inl f) => (n, .inl f)
def qcv (base b : Nat) (CA : Nat → ClassId) : qC → va_E
  | .inl (t, a) => .inl (CA t, qpa base a)
  | .inr (ci, fs) => .inr (ci, fs.map (qv base b))
def qw (base b : Nat) (CA : Nat → ClassId) (h : qH) : va_W := h.mapIdx fun i c => (base + i, qcv base b CA c)
def qvl (base b : Nat) (ls : qL) : List (Nat × Value) := ls.map fun q => (q.1, qv base b q.2)
theorem qw_at {base b : Nat} {CA : Nat → ClassId} {h : qH} {a : Nat} {c : qC} (hc : h[a]? = some c) : (qw base b CA h)[a]? = some (base + a, qcv base b CA c) := by
  unfold qw
  rw [List.getElem?_mapIdx, hc]
  rfl
theorem qw_set {base b : Nat} {CA : Nat → ClassId} {h : qH} {a : Nat} {c : qC} : (qw base b CA h).set a (base + a, qcv base b CA c) = qw base b CA (h.set a c) := by
  unfold qw
  apply List.ext_getElem?
  intro i
  rw [List.getElem?_mapIdx]
  simp only [List.getElem?_set, List.length_mapIdx, List.getElem?_mapIdx]
  by_cases hi : a = i
  · subst hi
    by_cases hl : a < h.length
    · simp [hl]
    · simp [hl]
  · simp [hi]
theorem qw_app {base b : Nat} {CA : Nat → ClassId} {h : qH} {c : qC} : qw base b CA (h ++ [c]) = qw base b CA h ++ [(base + h.length, qcv base b CA c)] := by
  unfold qw
  rw [List.mapIdx_append]
  simp
theorem qw_len {base b : Nat} {CA : Nat → ClassId} {h : qH} : (qw base b CA h).length = h.length := by simp [qw]
theorem qw_D {base b : Nat} {CA : Nat → ClassId} {h : qH} : va_D (fun q => base ≤ q) (qw base b CA h) := by
  have key : ∀ (k : Nat) (q : Nat × va_E), (qw base b CA h)[k]? = some q → q.1 = base + k := by
    intro k q hk
    unfold qw at hk
    rw [List.getElem?_mapIdx] at hk
    cases hc : h[k]? with
    | none => rw [hc] at hk; cases hk
    | some c => rw [hc] at hk; cases hk; rfl
  refine ⟨fun i j p q hi hj hpq => ?_, fun k q hk => ?_⟩
  · have h1 := key i p hi
    have h2 := key j q hj
    omega
  · have h1 := key k q hk
    show base ≤ q.1
    omega
theorem qv_cat (base b : Nat) (v : Value) : ((qv base b v).category = 2) = (qlong v = true) := by cases v <;> simp [qv, Value.category, qlong]
theorem qv_cat1 {base b : Nat} {v : Value} (h : qlong v = false) : (qv base b v).category = 1 := by cases v <;> simp_all [qv, Value.category, qlong]
theorem qcats_eq {base b : Nat} : ∀ (vs : List Value), ((vs.map (qv base b)).map fun v => v.category).sum = qcats vs
  | [] => rfl
  | v :: vs => by
    have h := qcats_eq (base := base) (b := b) vs
    simp only [List.map_cons, List.sum_cons, qcats, h]
    cases v <;> rfl
theorem q_ld {base b n : Nat} {lsA : Array Slot} : ∀ {ls : qL} {j : Nat} {v : Value}, lv_has lsA n (qvl base b ls) → qlk ls j = some v → lsA[j]? = some (.val (qv base b v)) := by
  have key : ∀ (ls : qL) (j : Nat) (v : Value), qlk ls j = some v → (j, v) ∈ ls := by
    intro ls
    induction ls with
    | nil => intro j v h; cases h
    | cons q r ih =>
      intro j v h
      obtain ⟨i, w⟩ := q
      simp only [qlk] at h
      cases hij : Nat.beq i j with
      | true =>
        rw [hij] at h
        cases h
        rw [Nat.eq_of_beq_eq_true hij]
        exact List.mem_cons_self
      | false =>
        rw [hij] at h
        exact List.mem_cons_of_mem _ (ih j v h)
  intro ls j v hl h
  exact hl.2.2 (j, qv base b v) (List.mem_map.mpr ⟨(j, v), key ls j v h, rfl⟩)
theorem q_mem {base b : Nat} {ls : qL} {j : Nat} {v : Value} (h : qlk ls j = some v) : ∃ k : Nat, (qvl base b ls)[k]? = some (j, qv base b v) := by
  have key : ∀ (ls : qL), qlk ls j = some v → (j, v) ∈ ls := by
    intro ls
    induction ls with
    | nil => intro h; cases h
    | cons q r ih =>
      intro h
      obtain ⟨i, w⟩ := q
      simp only [qlk] at h
      cases hij : Nat.beq i j with
      | true =>
        rw [hij] at h
        cases h
        rw [Nat.eq_of_beq_eq_true hij]
        exact List.mem_cons_self
      | false =>
        rw [hij] at h
        exact List.mem_cons_of_mem _ (ih h)
  exact List.getElem?_of_mem (List.mem_map.mpr ⟨(j, v), key ls h, rfl⟩)
theorem q_beq (k i : Nat) : (k == i) = Nat.beq k i := by
  rw [Bool.eq_iff_iff]
  simp
theorem q_k1 {base b i : Nat} : ∀ (ls : qL), (qvl base b ls).filter (fun q => !(q.1 == i) && !(q.1 + 1 == i && q.2.category == 2)) = qvl base b (qk1 i ls)
  | [] => rfl
  | (k, v) :: r => by
    have h := q_k1 (base := base) (b := b) (i := i) r
    have hc : ((qv base b v).category == 2) = qlong v := by cases v <;> rfl
    simp only [qvl, List.map_cons, List.filter_cons, qk1] at h ⊢
    rw [h, hc]
    have e1 : (k == i) = Nat.beq k i := q_beq k i
    have e2 : (k + 1 == i) = Nat.beq (k + 1) i := q_beq (k + 1) i
    rw [e1, e2]
    cases Nat.beq k i <;> cases Nat.beq (k + 1) i <;> cases qlong v <;> rfl
theorem q_k2 {base b i : Nat} : ∀ (ls : qL), (qvl base b ls).filter (fun q => !(q.1 == i) && (!(q.1 == i + 1) && !(q.1 + 1 == i && q.2.category == 2))) = qvl base b (qk2 i ls)
  | [] => rfl
  | (k, v) :: r => by
    have h := q_k2 (base := base) (b := b) (i := i) r
    have hc : ((qv base b v).category == 2) = qlong v := by cases v <;> rfl
    simp only [qvl, List.map_cons, List.filter_cons, qk2] at h ⊢
    rw [h, hc]
    have e1 : (k == i) = Nat.beq k i := q_beq k i
    have e2 : (k + 1 == i) = Nat.beq (k + 1) i := q_beq (k + 1) i
    have e3 : (k == i + 1) = Nat.beq k (i + 1) := q_beq k (i + 1)
    rw [e1, e2, e3]
    cases Nat.beq k i <;> cases Nat.beq k (i + 1) <;> cases Nat.beq (k + 1) i <;> cases qlong v <;> rfl
theorem q_args {base b : Nat} : ∀ (vs : List Value) (i : Nat), lv_args i (vs.map (qv base b)) = qvl base b (qargs i vs)
  | [], _ => rfl
  | v :: vs, i => by
    have h1 := q_args (base := base) (b := b) vs (i + 2)
    have h2 := q_args (base := base) (b := b) vs (i + 1)
    simp only [List.map_cons, lv_args, qargs, qvl] at h1 h2 ⊢
    cases v <;> simp [qv, Value.category, qlong, h1, h2]
theorem q_sl {base b : Nat} : ∀ (vs : List Value), (lg_sl (vs.map (qv base b))).length = qcats vs
  | [] => rfl
  | v :: vs => by
    have h := q_sl (base := base) (b := b) vs
    simp only [lg_sl, List.map_cons, List.flatMap_cons, List.length_append, qcats] at h ⊢
    rw [h]
    cases v <;> simp [qv, Value.category, qlong]
def qtys (CA : Nat → ClassId) : List (ClassId × FieldType) := [(CA 0, qtg 0), (CA 1, qtg 1), (CA 2, qtg 2), (CA 3, qtg 3), (CA 4, qtg 4), (CA 5, qtg 5)]
def qKK (dC : Nat → ClassId) (dI : Nat → Nat → Nat) (CA : Nat → ClassId) (U : State) : Prop :=
  va_K (dC, dI) qcl (qtys CA) U ∧ va_AO RX8 U ∧ va_AO RX0 U ∧ ∀ w ∈ qnest, va_Nw w U
theorem qKK.moved {dC : Nat → ClassId} {dI : Nat → Nat → Nat} {CA : Nat → ClassId} {u U : State} (hW : u.WarmedH U.vm) (h : qKK dC dI CA u) : qKK dC dI CA U :=
  ⟨va_K.moved hW.alike h.1, va_AO.moved hW.alike h.2.1, va_AO.moved hW.alike h.2.2.1, fun w hw => by
    have h1 := h.2.2.2 w hw
    revert h1
    revert w
    exact List.forall_mem_cons.mpr ⟨fun z => va_Nw.warmM hW z, List.forall_mem_cons.mpr ⟨fun z => va_Nw.warmM hW z, List.forall_mem_cons.mpr ⟨fun z => va_Nw.warmM hW z, List.forall_mem_cons.mpr ⟨fun z => va_Nw.warmM hW z, fun _ h => absurd h List.not_mem_nil⟩⟩⟩⟩⟩
def qPc (base b : Nat) (dC : Nat → ClassId) (dI : Nat → Nat → Nat) (CA : Nat → ClassId) (as : List Value) (h : qH) : Array Value → State → Prop := fun v U =>
  v = (as.map (qv base b)).toArray ∧ va_P (dC, dI) qcl (qw base b CA h) U.heap ∧ qKK dC dI CA U ∧ U.heap.size = base + h.length
def qQc (base b : Nat) (dC : Nat → ClassId) (dI : Nat → Nat → Nat) (CA : Nat → ClassId) (r : Option Value) (h : qH) : Array Value → State → Outcome → State → Prop := fun _ st o t =>
  o = .returned (r.map (qv base b)) ∧ va_P (dC, dI) qcl (qw base b CA h) t.heap ∧ va_F (fun q => base ≤ q) st t
theorem qPc_blind {base b : Nat} {dC : Nat → ClassId} {dI : Nat → Nat → Nat} {CA : Nat → ClassId} {as : List Value} {h : qH} : FrameBlind (qPc base b dC dI CA as h) := by
  intro a U g mk ⟨h1, h2, h3, h4⟩
  exact ⟨h1, h2, qKK.moved (u := U) (U := U.calling g mk a) (State.WarmedH.refl U) h3, h4⟩
/-- what stays while one frame runs: the machine, the method k's code, the tables' words, the classes; and (for the law alone) the script -/
def qFr (sc : Nat × (Nat → Int32)) (k : Nat) (p : Program) (R : Room) (s : State) (m : MethodId) (args : Array Value) (meth : Method) (c : Code) (dC : Nat → ClassId) (dI : Nat → Nat → Nat) (CA : Nat → ClassId) (base b n0 : Nat) : Prop :=
  p.tables.exec = Jvm.exec ∧ c.code = qcode k ∧ c.maxLocals = qmaxL k ∧ s.vm.findClass (qcn (qown k)) = some m.cls ∧ (∀ w ∈ qtb, w.before args s = true) ∧ qKK dC dI CA s ∧ (qkd k = 2 → meth.name = "<init>") ∧ s.heap.size = base + n0 ∧ qnf k ≤ R.frames ∧ qnl k ≤ R.locals ∧
  (k = qLaw → va_X b sc.1 sc.2 s s.heap ∧ b < base)
def qRet (k : Nat) (i : Instr) (r : Option Value) : Prop :=
  (∃ x, i = .ireturn ∧ r = some (.int x) ∧ (qret k = some .int ∨ (qret k = some .boolean ∧ qbit x = true))) ∨ (∃ x, i = .lreturn ∧ r = some (.long x) ∧ qret k = some .long) ∨
  (∃ v C, i = .areturn ∧ r = some v ∧ (v = .null ∨ ∃ a, v = .ref a) ∧ qret k = some (.object C)) ∨ (i = .return_ ∧ r = none ∧ qret k = none)
/-- what waits at the end of the frame: Q holds once the method returns r over the heap h -/
def qFin (k : Nat) (p : Program) (l : Launch) (e : Env) (R : Room) (s : State) (m : MethodId) (args : Array Value) (below : List Frame) (meth : Method) (c : Code) (dC : Nat → ClassId) (dI : Nat → Nat → Nat) (CA : Nat → ClassId) (base b n0 z0 : Nat) (Q : State → Prop) (r : Option Value) (h : qH) : Prop :=
  ∀ (pc : Nat) (i : Instr) (H : Heap) (locs : List Loc) (lsA : Array Slot), decode (qcode k) pc = .ok (i, 1) → qRet k i r → va_P (dC, dI) qcl (qw base b CA h) H → va_S (fun q => base ≤ q) s.heap H locs →
    W p l e R s m args below meth c H locs (h.length - n0) (qss h - z0) Q (F0 m pc lsA (r.toList.map (qv base b)))
def qW (sc : Nat × (Nat → Int32)) (k pc : Nat) (ls : qL) (st : List Value) (h : qH) (r : Option Value) (h' : qH) : Prop :=
  ∀ (p : Program) (l : Launch) (e : Env) (R : Room) (s : State) (m : MethodId) (args : Array Value) (below : List Frame) (meth : Method) (c : Code) (dC : Nat → ClassId) (dI : Nat → Nat → Nat) (CA : Nat → ClassId) (base b n0 z0 : Nat) (Q : State → Prop),
    qFr sc k p R s m args meth c dC dI CA base b n0 → qFin k p l e R s m args below meth c dC dI CA base b n0 z0 Q r h' → h'.length - n0 ≤ R.cells → qss h' - z0 ≤ R.slots →
    ∀ (H : Heap) (locs : List Loc) (lsA : Array Slot), n0 ≤ h.length → z0 ≤ qss h → va_P (dC, dI) qcl (qw base b CA h) H → va_S (fun q => base ≤ q) s.heap H locs → lv_has lsA (qmaxL k) (qvl base b ls) →
      W p l e R s m args below meth c H locs (h.length - n0) (qss h - z0) Q (F0 m pc lsA (st.map (qv base b)))
def qGoal (sc : Nat × (Nat → Int32)) (k pc : Nat) (ls : qL) (st : List Value) (h : qH) (r : Option Value) (h' : qH) : Prop :=
  (h.length ≤ h'.length ∧ qss h ≤ qss h') ∧ qW sc k pc ls st h r h'
def qSound (sc : Nat × (Nat → Int32)) (n : Nat) : Prop := ∀ (k pc : Nat) (ls : qL) (st : List Value) (h : qH) (r : Option Value) (h' : qH), run sc n (k, pc, ls, st, h) = some (r, h') → qGoal sc k pc ls st h r h'
/-- the heap's size is known where the machine stands -/
theorem q_size {p : Program} {l : Launch} {e : Env} {R : Room} {s : State} {m : MethodId} {args : Array Value} {below : List Frame} {meth : Method} {c : Code} {H : Heap} {locs : List Loc} {cells slots : Nat} {Q : State → Prop} {g : JFrame} {D : va_G} {CA : Nat → ClassId} {base b n0 : Nat} {h : qH}
    (hs : s.heap.size = base + n0) (hn : n0 ≤ h.length) (hc : cells = h.length - n0) (hP : va_P D qcl (qw base b CA h) H) (hS : va_S (fun q => base ≤ q) s.heap H locs)
    (kk : H.size = base + h.length → W p l e R s m args below meth c H locs cells slots Q g) : W p l e R s m args below meth c H locs cells slots Q g := by
  intro T hT X
  have h1 := X.heapSize
  rw [hT] at h1
  have h2 := hS.1
  refine kk ?_ T hT X
  have h3 : base + h.length ≤ H.size := by
    rcases Nat.eq_zero_or_pos h.length with h0 | h0
    · omega
    · have hl : h.length - 1 < h.length := by omega
      have h4 := (hP (h.length - 1) _ (qw_at (List.getElem?_eq_getElem hl))).lt
      have h5 : base + (h.length - 1) < H.size := h4
      omega
  omega
/-- one step that leaves the heap alone -/
theorem q_pure {sc : Nat × (Nat → Int32)} {k pc nx : Nat} {ls ls' : qL} {st st' : List Value} {h h' : qH} {r : Option Value} (g : qGoal sc k nx ls' st' h r h')
    (f : ∀ (p : Program) (l : Launch) (e : Env) (R : Room) (s : State) (m : MethodId) (args : Array Value) (below : List Frame) (meth : Method) (c : Code) (dC : Nat → ClassId) (dI : Nat → Nat → Nat) (CA : Nat → ClassId) (base b n0 : Nat) (H : Heap) (locs : List Loc) (cells slots : Nat) (Q : State → Prop) (lsA : Array Slot),
      qFr sc k p R s m args meth c dC dI CA base b n0 → va_P (dC, dI) qcl (qw base b CA h) H → va_S (fun q => base ≤ q) s.heap H locs → lv_has lsA (qmaxL k) (qvl base b ls) → cells ≤ R.cells → slots ≤ R.slots →
      (∀ lsB, lv_has lsB (qmaxL k) (qvl base b ls') → W p l e R s m args below meth c H locs cells slots Q (F0 m nx lsB (st'.map (qv base b)))) →
      W p l e R s m args below meth c H locs cells slots Q (F0 m pc lsA (st.map (qv base b)))) : qGoal sc k pc ls st h r h' :=
  ⟨g.1, fun p l e R s m args below meth c dC dI CA base b n0 z0 Q hF hE hc hz H locs lsA hn hz0 hP hS hl =>
    f p l e R s m args below meth c dC dI CA base b n0 H locs _ _ Q lsA hF hP hS hl (Nat.le_trans (Nat.sub_le_sub_right g.1.1 _) hc) (Nat.le_trans (Nat.sub_le_sub_right g.1.2 _) hz) (fun lsB hlB => g.2 p l e R s m args below meth c dC dI CA base b n0 z0 Q hF hE hc hz H locs lsB hn hz0 hP hS hlB)⟩
theorem qss_set {h : qH} {a : Nat} {c0 c1 : qC} (ha : h[a]? = some c0) (hc : qcs c1 = qcs c0) : qss (h.set a c1) = qss h := by
  unfold qss
  rw [List.map_set, hc]
  congr 1
  apply List.ext_getElem?
  intro i
  rw [List.getElem?_set]
  by_cases hi : a = i
  · subst hi
    obtain ⟨hl, he⟩ := List.getElem?_eq_some_iff.mp ha
    simp [hl, he]
  · simp [hi]
/-- one step that writes a cell -/
theorem q_store {sc : Nat × (Nat → Int32)} {k pc nx : Nat} {ls : qL} {st st' : List Value} {h h' : qH} {r : Option Value} {a : Nat} {c0 c1 : qC} (ha : h[a]? = some c0) (hcs : qcs c1 = qcs c0) (g : qGoal sc k nx ls st' (h.set a c1) r h')
    (f : ∀ (p : Program) (l : Launch) (e : Env) (R : Room) (s : State) (m : MethodId) (args : Array Value) (below : List Frame) (meth : Method) (c : Code) (dC : Nat → ClassId) (dI : Nat → Nat → Nat) (CA : Nat → ClassId) (base b n0 : Nat) (H : Heap) (locs : List Loc) (cells slots : Nat) (Q : State → Prop) (lsA : Array Slot),
      qFr sc k p R s m args meth c dC dI CA base b n0 → va_P (dC, dI) qcl (qw base b CA h) H → va_S (fun q => base ≤ q) s.heap H locs → lv_has lsA (qmaxL k) (qvl base b ls) →
      (∀ (H1 : Heap) (locs1 : List Loc), va_P (dC, dI) qcl ((qw base b CA h).set a (base + a, qcv base b CA c1)) H1 → va_S (fun q => base ≤ q) s.heap H1 locs1 → W p l e R s m args below meth c H1 locs1 cells slots Q (F0 m nx lsA (st'.map (qv base b)))) →
      W p l e R s m args below meth c H locs cells slots Q (F0 m pc lsA (st.map (qv base b)))) : qGoal sc k pc ls st h r h' := by
  obtain ⟨⟨g1, g2⟩, g3⟩ := g
  rw [qss_set ha hcs] at g2
  rw [List.length_set] at g1
  refine ⟨⟨g1, g2⟩, fun p l e R s m args below meth c dC dI CA base b n0 z0 Q hF hE hc hz H locs lsA hn hz0 hP hS hl => ?_⟩
  refine f p l e R s m args below meth c dC dI CA base b n0 H locs _ _ Q lsA hF hP hS hl fun H1 locs1 hP1 hS1 => ?_
  rw [qw_set] at hP1
  have K := g3 p l e R s m args below meth c dC dI CA base b n0 z0 Q hF hE hc hz H1 locs1 lsA (by rw [List.length_set]; exact hn) (by rw [qss_set ha hcs]; exact hz0) hP1 hS1 hl
  rw [qss_set ha hcs, List.length_set] at K
  exact K
theorem qss_app {h : qH} {c : qC} : qss (h ++ [c]) = qss h + qcs c := by simp [qss]
/-- one step that makes a cell -/
theorem q_made {sc : Nat × (Nat → Int32)} {k pc nx : Nat} {ls : qL} {st st' : List Value} {h h' : qH} {r : Option Value} {c1 : qC} (g : qGoal sc k nx ls (.ref h.length :: st') (h ++ [c1]) r h')
    (f : ∀ (p : Program) (l : Launch) (e : Env) (R : Room) (s : State) (m : MethodId) (args : Array Value) (below : List Frame) (meth : Method) (c : Code) (dC : Nat → ClassId) (dI : Nat → Nat → Nat) (CA : Nat → ClassId) (base b n0 : Nat) (H : Heap) (locs : List Loc) (cells slots : Nat) (Q : State → Prop) (lsA : Array Slot),
      qFr sc k p R s m args meth c dC dI CA base b n0 → va_P (dC, dI) qcl (qw base b CA h) H → va_S (fun q => base ≤ q) s.heap H locs → lv_has lsA (qmaxL k) (qvl base b ls) → cells + 1 ≤ R.cells → slots + qcs c1 ≤ R.slots →
      (∀ (q : Nat) (H1 : Heap), va_P (dC, dI) qcl (qw base b CA h ++ [(q, qcv base b CA c1)]) H1 → va_D (fun q => base ≤ q) (qw base b CA h ++ [(q, qcv base b CA c1)]) → va_S (fun q => base ≤ q) s.heap H1 locs → W p l e R s m args below meth c H1 locs (cells + 1) (slots + qcs c1) Q (F0 m nx lsA (.ref q :: st'.map (qv base b)))) →
      W p l e R s m args below meth c H locs cells slots Q (F0 m pc lsA (st.map (qv base b)))) : qGoal sc k pc ls st h r h' := by
  obtain ⟨⟨g1, g2⟩, g3⟩ := g
  rw [qss_app] at g2
  rw [List.length_append, List.length_singleton] at g1
  refine ⟨⟨by omega, by omega⟩, fun p l e R s m args below meth c dC dI CA base b n0 z0 Q hF hE hc hz H locs lsA hn hz0 hP hS hl => ?_⟩
  refine f p l e R s m args below meth c dC dI CA base b n0 H locs _ _ Q lsA hF hP hS hl (by omega) (by omega) fun q H1 hP1 hD1 hS1 => ?_
  have hsz := hF.2.2.2.2.2.2.2.1
  intro T hT X
  have h1 := X.heapSize
  rw [hT] at h1
  have hlast : (qw base b CA h ++ [(q, qcv base b CA c1)])[h.length]? = some (q, qcv base b CA c1) := by
    rw [List.getElem?_append_right (by rw [qw_len]; exact Nat.le_refl _), qw_len, Nat.sub_self]
    rfl
  have h2 : q < H1.size := (hP1 h.length _ hlast).lt
  have h3 : base ≤ q := hD1.2 h.length _ hlast
  have hq : q = base + h.length := by
    by_cases hlt : q < base + h.length
    · exfalso
      have hi : q - base < h.length := by omega
      have h5 : (qw base b CA h ++ [(q, qcv base b CA c1)])[q - base]? = some (base + (q - base), qcv base b CA h[q - base]) := by
        rw [List.getElem?_append_left (by rw [qw_len]; exact hi)]
        exact qw_at (List.getElem?_eq_getElem hi)
      have h6 := hD1.1 (q - base) h.length _ _ h5 hlast (show base + (q - base) = q by omega)
      omega
    · omega
  subst hq
  rw [← qw_app] at hP1
  have K := g3 p l e R s m args below meth c dC dI CA base b n0 z0 Q hF hE hc hz H1 locs lsA (by rw [List.length_append]; omega) (by rw [qss_app]; omega) hP1 hS1 hl
  rw [qss_app, List.length_append, List.length_singleton, show h.length + 1 - n0 = h.length - n0 + 1 by omega, show qss h + qcs c1 - z0 = qss h - z0 + qcs c1 by omega] at K
  exact K T hT X
