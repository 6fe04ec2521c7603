/-! New cells, calls, returns, switches. -/
theorem q_hts {args : Array Value} {s : State} (h : ∀ w ∈ qtb, w.before args s = true) {w : Jvm.Cond} (hw : w ∈ qtb) : w.before args s = true := h w hw
theorem q_def {base b : Nat} : ∀ ci, ci < 11 → (qdef ci).map (qv base b) = qdef ci
  | 0, _ => rfl
  | 1, _ => rfl
  | 2, _ => rfl
  | 3, _ => rfl
  | 4, _ => rfl
  | 5, _ => rfl
  | 6, _ => rfl
  | 7, _ => rfl
  | 8, _ => rfl
  | 9, _ => rfl
  | 10, _ => rfl
  | n + 11, h => absurd h (by omega)
theorem o_new {sc : Nat × (Nat → Int32)} {n k pc nx r1 x : Nat} {ls : qL} {st : List Value} {h h' : qH} {r : Option Value} (S : qSound sc n) (hd : decode (qcode k) pc = .ok (.new x, nx - pc)) (hx : nx = pc + 3)
    (hq : (qCLs.any fun q => Nat.beq q.1 (qown k) && (Nat.beq q.2.1 x && Nat.beq q.2.2.1 r1)) = true) (hr : qgo (run sc n) (s_new k nx r1 ls st h) h = some (r, h')) : qGoal sc k pc ls st h r h' := by
  subst hx
  rw [Nat.add_sub_cancel_left] at hd
  obtain ⟨q, hq1, hb⟩ := List.any_eq_true.mp hq
  simp only [Bool.and_eq_true, Nat.beq_eq] at hb
  obtain ⟨e1, e2, e3⟩ := hb
  have hw := qCL_ok q hq1
  unfold qCLp at hw
  rw [e1, e2, e3] at hw
  obtain ⟨hci, hlink⟩ := hw
  obtain ⟨q1, q2, q3, q4, q5, q6, q7, q8⟩ := qcf_ok r1 hci
  refine q_made (c1 := .inr (r1, qdef r1)) (S _ _ _ _ _ _ _ hr) fun p l e R s m args below meth c dC dI CA base b n0 H locs cells slots Q lsA hF hP hS hl hcl hsl K => ?_
  have hsz := hF.2.2.2.2.2.2.2.1
  exact va_new (ci := r1) (fs := (qdef r1).map (qv base b)) (C := qcN r1) (T := qcT r1) (N := qcS r1) hF.1 hF.2.1 hF.2.2.2.2.1 (q_ins q1) (qty r1) q3 hF.2.2.2.1 (hF.2.2.2.2.1 _ hlink) (hF.2.2.2.2.1 _ q4) (hF.2.2.2.2.1 _ q5)
    hF.2.2.2.2.2.1.1 hP qw_D hS (fun q hq => by show base ≤ q; omega) (qcl_at r1 hci) (fun j hj => by rw [q_def r1 hci]; exact q6 j hj) hcl hsl hd fun q H1 hP1 hD1 hS1 => K q H1 hP1 hD1 hS1
theorem q_len9 {i : Int32} (h : (!(decide (i < 0)) && decide (i.toNatClampNeg ≤ 60000000)) = true) : ¬ i < 0 ∧ i.toNatClampNeg ≤ 60000000 := by
  simp only [Bool.and_eq_true, Bool.not_eq_true', decide_eq_false_iff_not, decide_eq_true_eq] at h
  exact h
theorem o_newarray {sc : Nat × (Nat → Int32)} {n k pc nx : Nat} {at9 : ArrayType} {ls : qL} {st : List Value} {h h' : qH} {r : Option Value} (S : qSound sc n) (hd : decode (qcode k) pc = .ok (.newarray at9, nx - pc)) (hx : nx = pc + 2)
    (hq : Nat.blt (qatag at9) 4 = true) (hr : qgo (run sc n) (s_newa k nx ls st h (qatag at9)) h = some (r, h')) : qGoal sc k pc ls st h r h' := by
  subst hx
  rw [Nat.add_sub_cancel_left] at hd
  unfold s_newa at hr
  split at hr
  next i st =>
    cases hi : (!(decide (i < 0)) && decide (i.toNatClampNeg ≤ 60000000)) with
    | false => rw [hi] at hr; simp [qgo, qG] at hr
    | true =>
      rw [hi] at hr
      obtain ⟨hi1, hi2⟩ := q_len9 hi
      refine q_made (c1 := qnew (qatag at9) i.toNatClampNeg) (S _ _ _ _ _ _ _ hr) fun p l e R s m args below meth c dC dI CA base b n0 H locs cells slots Q lsA hF hP hS hl hcl hsl K => ?_
      have hsz := hF.2.2.2.2.2.2.2.1
      have hA : ∀ q, s.heap.size ≤ q → base ≤ q := fun q hq => by omega
      have hKa := hF.2.2.2.2.2.1.1
      cases at9 <;> first | (exfalso; revert hq; decide) | skip
      · refine va_newa (a0 := (i.toNatClampNeg, .inl (fun _ => 0))) (atype := .boolean) (ty := .boolean) hF.1 hF.2.1 (hF.2.2.2.2.1 _ qtw_a3) rfl hKa hP qw_D hS hA (fun _ => rfl) hi1 rfl (by show _ * 1 ≤ _; omega) hcl hsl hd fun q cA H1 hK1 hP1 hD1 hS1 => ?_
        have e : cA = CA 3 := Option.some.inj ((show s.vm.findClass _ = some cA from (hK1.2 6 (cA, .boolean) rfl).2).symm.trans (hKa.2 3 (CA 3, .boolean) rfl).2)
        subst e
        exact K q H1 hP1 hD1 hS1
      · refine va_newa (a0 := (i.toNatClampNeg, .inl (fun _ => 0))) (atype := .byte) (ty := .byte) hF.1 hF.2.1 (hF.2.2.2.2.1 _ qtw_a2) rfl hKa hP qw_D hS hA (fun _ => rfl) hi1 rfl (by show _ * 1 ≤ _; omega) hcl hsl hd fun q cA H1 hK1 hP1 hD1 hS1 => ?_
        have e : cA = CA 2 := Option.some.inj ((show s.vm.findClass _ = some cA from (hK1.2 6 (cA, .byte) rfl).2).symm.trans (hKa.2 2 (CA 2, .byte) rfl).2)
        subst e
        exact K q H1 hP1 hD1 hS1
      · refine va_newa (a0 := (i.toNatClampNeg, .inl (fun _ => 0))) (atype := .int) (ty := .int) hF.1 hF.2.1 (hF.2.2.2.2.1 _ qtw_a0) rfl hKa hP qw_D hS hA (fun _ => rfl) hi1 rfl (by show _ * 4 ≤ _; omega) hcl hsl hd fun q cA H1 hK1 hP1 hD1 hS1 => ?_
        have e : cA = CA 0 := Option.some.inj ((show s.vm.findClass _ = some cA from (hK1.2 6 (cA, .int) rfl).2).symm.trans (hKa.2 0 (CA 0, .int) rfl).2)
        subst e
        exact K q H1 hP1 hD1 hS1
      · refine va_newa (a0 := (i.toNatClampNeg, .inr (.inl (fun _ => 0)))) (atype := .long) (ty := .long) hF.1 hF.2.1 (hF.2.2.2.2.1 _ qtw_a1) rfl hKa hP qw_D hS hA (fun _ => rfl) hi1 rfl (by show _ * 8 ≤ _; omega) hcl hsl hd fun q cA H1 hK1 hP1 hD1 hS1 => ?_
        have e : cA = CA 1 := Option.some.inj ((show s.vm.findClass _ = some cA from (hK1.2 6 (cA, .long) rfl).2).symm.trans (hKa.2 1 (CA 1, .long) rfl).2)
        subst e
        exact K q H1 hP1 hD1 hS1
  next => simp [qgo] at hr
theorem o_anewarray {sc : Nat × (Nat → Int32)} {n k pc nx r1 x : Nat} {ls : qL} {st : List Value} {h h' : qH} {r : Option Value} (S : qSound sc n) (hd : decode (qcode k) pc = .ok (.anewarray x, nx - pc)) (hx : nx = pc + 3)
    (hq : (qALs.any fun q => Nat.beq q.1 (qown k) && (Nat.beq q.2.1 x && Nat.beq q.2.2.1 r1)) = true) (hr : qgo (run sc n) (s_newa k nx ls st h r1) h = some (r, h')) : qGoal sc k pc ls st h r h' := by
  subst hx
  rw [Nat.add_sub_cancel_left] at hd
  obtain ⟨q, hq1, hb⟩ := List.any_eq_true.mp hq
  simp only [Bool.and_eq_true, Nat.beq_eq] at hb
  obtain ⟨e1, e2, e3⟩ := hb
  have hw := qAL_ok q hq1
  unfold qALp at hw
  rw [e1, e2, e3] at hw
  obtain ⟨hci, hlink⟩ := hw
  unfold s_newa at hr
  split at hr
  next i st =>
    cases hi : (!(decide (i < 0)) && decide (i.toNatClampNeg ≤ 60000000)) with
    | false => rw [hi] at hr; simp [qgo, qG] at hr
    | true =>
      rw [hi] at hr
      obtain ⟨hi1, hi2⟩ := q_len9 hi
      rcases hci with rfl | rfl
      · refine q_made (c1 := qnew 4 i.toNatClampNeg) (S _ _ _ _ _ _ _ hr) fun p l e R s m args below meth c dC dI CA base b n0 H locs cells slots Q lsA hF hP hS hl hcl hsl K => ?_
        have hsz := hF.2.2.2.2.2.2.2.1
        have hA : ∀ q, s.heap.size ≤ q → base ≤ q := fun q hq => by omega
        have hKa := hF.2.2.2.2.2.1.1
        refine va_newq (C := RX8) hF.1 hF.2.1 hF.2.2.2.1 (hF.2.2.2.2.1 _ hlink) hF.2.2.2.2.2.1.2.1 hKa hP qw_D hS hA hi1 rfl (by omega) hcl hsl hd fun q cA H1 hK1 hP1 hD1 hS1 => ?_
        obtain ⟨_, _, _, _, _, h4⟩ := (hK1.2 6 (cA, .object RX8) rfl).2
        obtain ⟨_, _, _, _, _, h5⟩ := (hKa.2 4 (CA 4, .object RX8) rfl).2
        have e : cA = CA 4 := Option.some.inj (h4.symm.trans h5)
        subst e
        exact K q H1 hP1 hD1 hS1
      · refine q_made (c1 := qnew 5 i.toNatClampNeg) (S _ _ _ _ _ _ _ hr) fun p l e R s m args below meth c dC dI CA base b n0 H locs cells slots Q lsA hF hP hS hl hcl hsl K => ?_
        have hsz := hF.2.2.2.2.2.2.2.1
        have hA : ∀ q, s.heap.size ≤ q → base ≤ q := fun q hq => by omega
        have hKa := hF.2.2.2.2.2.1.1
        refine va_newq (C := RX0) hF.1 hF.2.1 hF.2.2.2.1 (hF.2.2.2.2.1 _ hlink) hF.2.2.2.2.2.1.2.2.1 hKa hP qw_D hS hA hi1 rfl (by omega) hcl hsl hd fun q cA H1 hK1 hP1 hD1 hS1 => ?_
        obtain ⟨_, _, _, _, _, h4⟩ := (hK1.2 6 (cA, .object RX0) rfl).2
        obtain ⟨_, _, _, _, _, h5⟩ := (hKa.2 5 (CA 5, .object RX0) rfl).2
        have e : cA = CA 5 := Option.some.inj (h4.symm.trans h5)
        subst e
        exact K q H1 hP1 hD1 hS1
  next => simp [qgo] at hr
/-! returns -/
theorem o_ret {sc : Nat × (Nat → Int32)} {k pc : Nat} {i : Instr} {ls : qL} {h : qH} {r : Option Value} (hd : decode (qcode k) pc = .ok (i, 1)) (hret : qRet k i r) : qGoal sc k pc ls r.toList h r h :=
  ⟨⟨Nat.le_refl _, Nat.le_refl _⟩, fun p l e R s m args below meth c dC dI CA base b n0 z0 Q hF hE hc hz H locs lsA hn hz0 hP hS hl => hE pc i H locs lsA hd hret hP hS⟩
theorem o_ireturn {sc : Nat × (Nat → Int32)} {n k pc nx : Nat} {ls : qL} {st : List Value} {h h' : qH} {r : Option Value} (hd : decode (qcode k) pc = .ok (.ireturn, nx - pc)) (hx : nx = pc + 1)
    (hr : qgo (run sc n) (s_iret k st) h = some (r, h')) : qGoal sc k pc ls st h r h' := by
  subst hx
  rw [Nat.add_sub_cancel_left] at hd
  unfold s_iret at hr
  split at hr
  next x =>
    split at hr
    next hk =>
      cases hr
      exact o_ret hd (Or.inl ⟨x, rfl, rfl, Or.inl hk⟩)
    next hk =>
      split at hr
      next hx =>
        cases hr
        exact o_ret hd (Or.inl ⟨x, rfl, rfl, Or.inr ⟨hk, hx⟩⟩)
      next => simp [qgo] at hr
    next => simp [qgo] at hr
  next => simp [qgo] at hr
theorem o_lreturn {sc : Nat × (Nat → Int32)} {n k pc nx : Nat} {ls : qL} {st : List Value} {h h' : qH} {r : Option Value} (hd : decode (qcode k) pc = .ok (.lreturn, nx - pc)) (hx : nx = pc + 1)
    (hr : qgo (run sc n) (s_lret k st) h = some (r, h')) : qGoal sc k pc ls st h r h' := by
  subst hx
  rw [Nat.add_sub_cancel_left] at hd
  unfold s_lret at hr
  split at hr
  next x =>
    split at hr
    next hk =>
      cases hr
      exact o_ret hd (Or.inr (Or.inl ⟨x, rfl, rfl, hk⟩))
    next => simp [qgo] at hr
  next => simp [qgo] at hr
theorem o_areturn {sc : Nat × (Nat → Int32)} {n k pc nx : Nat} {ls : qL} {st : List Value} {h h' : qH} {r : Option Value} (hd : decode (qcode k) pc = .ok (.areturn, nx - pc)) (hx : nx = pc + 1)
    (hr : qgo (run sc n) (s_aret k st) h = some (r, h')) : qGoal sc k pc ls st h r h' := by
  subst hx
  rw [Nat.add_sub_cancel_left] at hd
  unfold s_aret at hr
  split at hr
  next a =>
    split at hr
    next C hk =>
      cases hr
      exact o_ret hd (Or.inr (Or.inr (Or.inl ⟨.ref a, C, rfl, rfl, Or.inr ⟨a, rfl⟩, hk⟩)))
    next => simp [qgo] at hr
  next =>
    split at hr
    next C hk =>
      cases hr
      exact o_ret hd (Or.inr (Or.inr (Or.inl ⟨.null, C, rfl, rfl, Or.inl rfl, hk⟩)))
    next => simp [qgo] at hr
  next => simp [qgo] at hr
theorem o_return {sc : Nat × (Nat → Int32)} {n k pc nx : Nat} {ls : qL} {st : List Value} {h h' : qH} {r : Option Value} (hd : decode (qcode k) pc = .ok (.return_, nx - pc)) (hx : nx = pc + 1)
    (hr : qgo (run sc n) (s_vret k st) h = some (r, h')) : qGoal sc k pc ls st h r h' := by
  subst hx
  rw [Nat.add_sub_cancel_left] at hd
  unfold s_vret at hr
  split at hr
  next =>
    split at hr
    next hk =>
      cases hr
      exact o_ret hd (Or.inr (Or.inr (Or.inr ⟨rfl, rfl, hk⟩)))
    next => simp [qgo] at hr
  next => simp [qgo] at hr
/-! switches -/
theorem q_ofInt {v : Int} (h : qrange v = true) {x : Int32} : x = Int32.ofInt v ↔ x.toInt = v := by
  simp only [qrange, Bool.and_eq_true, decide_eq_true_eq] at h
  have e : (Int32.ofInt v).toInt = v := Int32.toInt_ofInt_of_le (by omega) (by omega)
  constructor
  · intro hx; rw [hx]; exact e
  · intro hx; exact Int32.toInt_inj.mp (by rw [e]; exact hx)
theorem q_lsw {pc d : Nat} {df : Int} (hdf : (pc : Int) + df = (d : Int)) (x : Int32) : ∀ (ps : List (Int × Int)) (L : List (Int32 × Nat)), qlsw pc ps L = true → (pc : Int) + Op.lookupswitch.offset ps df x.toInt = (qswt x L d : Int)
  | [], [], _ => by simpa [Op.lookupswitch.offset, qswt] using hdf
  | [], _ :: _, h => by simp [qlsw] at h
  | (v, f) :: ps, [], h => by simp [qlsw] at h
  | (v, f) :: ps, (a, t) :: L, h => by
    simp only [qlsw, Bool.and_eq_true, decide_eq_true_eq] at h
    obtain ⟨⟨⟨h1, h2⟩, h3⟩, h4⟩ := h
    rw [Op.lookupswitch.offset_cons]
    simp only [qswt]
    by_cases hx : x = a
    · rw [if_pos hx, if_pos]
      · exact h3
      · rw [h2] at hx
        exact ((q_ofInt h1).mp hx).symm
    · rw [if_neg hx, if_neg]
      · exact q_lsw hdf x ps L h4
      · intro hz
        exact hx (by rw [h2]; exact (q_ofInt h1).mpr hz.symm)
theorem q_tsw {pc d : Nat} (x : Int32) : ∀ (offs : List Int) (lo : Int) (L : List (Int32 × Nat)), qtsw pc lo offs L = true →
    ((x.toInt < lo ∨ lo + offs.length ≤ x.toInt) → qswt x L d = d) ∧ (∀ j : Nat, x.toInt = lo + j → ∀ f, offs[j]? = some f → (pc : Int) + f = (qswt x L d : Int))
  | [], lo, [], _ => ⟨fun _ => rfl, fun j _ f h => by simp at h⟩
  | [], lo, _ :: _, h => by simp [qtsw] at h
  | f :: offs, lo, [], h => by simp [qtsw] at h
  | f :: offs, lo, (a, t) :: L, h => by
    simp only [qtsw, Bool.and_eq_true, decide_eq_true_eq] at h
    obtain ⟨⟨⟨h1, h2⟩, h3⟩, h4⟩ := h
    obtain ⟨k1, k2⟩ := q_tsw (d := d) x offs (lo + 1) L h4
    constructor
    · intro hz
      simp only [qswt]
      rw [if_neg]
      · apply k1
        simp only [List.length_cons] at hz
        omega
      · intro hx
        rw [h2] at hx
        have := (q_ofInt h1).mp hx
        simp only [List.length_cons] at hz
        omega
    · intro j hj f9 hf
      simp only [qswt]
      cases j with
      | zero =>
        rw [if_pos]
        · simp only [List.getElem?_cons_zero, Option.some.injEq] at hf
          rw [← hf]; exact h3
        · rw [h2]; exact (q_ofInt h1).mpr (by omega)
      | succ j =>
        rw [if_neg]
        · exact k2 j (by omega) f9 (by simpa using hf)
        · intro hx
          rw [h2] at hx
          have := (q_ofInt h1).mp hx
          omega
theorem o_lookup {sc : Nat × (Nat → Int32)} {n k pc len r1 r2 : Nat} {df : Int} {ps : Array (Int × Int)} {ls : qL} {st : List Value} {h h' : qH} {r : Option Value} (S : qSound sc n) (hd : decode (qcode k) pc = .ok (.lookupswitch df ps, len))
    (hdf : (pc : Int) + df = (r1 : Int)) (hL : qlsw pc ps.toList (qsw r2) = true) (hs9 : (ps.toList.zip (ps.toList.drop 1)).all (fun (a, next) => a.1 < next.1) = true) (hr : qgo (run sc n) (s_switch k r1 r2 ls st h) h = some (r, h')) : qGoal sc k pc ls st h r h' := by
  unfold s_switch at hr
  split at hr
  next x st =>
    exact q_pure (S _ _ _ _ _ _ _ hr) fun p l e R s m args below meth c dC dI CA base b n0 H locs cells slots Q lsA hF hP hS hl hcl hsl K =>
      lv_lookup hF.1 hF.2.1 hd hs9 rfl (q_lsw hdf x _ _ hL) (K lsA hl)
  next => simp [qgo] at hr
theorem o_table {sc : Nat × (Nat → Int32)} {n k pc len r1 r2 : Nat} {df lo hi : Int} {offs : Array Int} {ls : qL} {st : List Value} {h h' : qH} {r : Option Value} (S : qSound sc n) (hd : decode (qcode k) pc = .ok (.tableswitch df lo hi offs, len))
    (hdf : (pc : Int) + df = (r1 : Int)) (hL : qtsw pc lo offs.toList (qsw r2) = true) (hhi : hi + 1 = lo + (offs.size : Int)) (hr : qgo (run sc n) (s_switch k r1 r2 ls st h) h = some (r, h')) : qGoal sc k pc ls st h r h' := by
  unfold s_switch at hr
  split at hr
  next x st =>
    obtain ⟨k1, k2⟩ := q_tsw (d := r1) x _ _ _ hL
    refine q_pure (S _ _ _ _ _ _ _ hr) fun p l e R s m args below meth c dC dI CA base b n0 H locs cells slots Q lsA hF hP hS hl hcl hsl K => ?_
    have hlen : (offs.toList.length : Int) = (offs.size : Int) := by simp
    by_cases ho : x.toInt < lo ∨ hi < x.toInt
    · have e : qswt x (qsw r2) r1 = r1 := k1 (by omega)
      exact lv_tableOut hF.1 hF.2.1 hd ho (by rw [e]; exact hdf) (K lsA hl)
    · have h1 : ¬ x.toInt < lo := fun z => ho (Or.inl z)
      have h2 : ¬ hi < x.toInt := fun z => ho (Or.inr z)
      have hj : (x.toInt - lo).toNat < offs.size := by omega
      exact lv_tableIn hF.1 hF.2.1 hd h1 h2 (Array.getElem?_eq_getElem hj) (k2 (x.toInt - lo).toNat (by omega) _ (by rw [Array.getElem?_toList]; exact Array.getElem?_eq_getElem hj)) (K lsA hl)
  next => simp [qgo] at hr
