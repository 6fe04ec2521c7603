/-! Instructions that read or write the heap, make cells, call. -/
theorem q_in {i : Int32} {n : Nat} (h : qin i n = true) : vp_in i n := by
  unfold qin at h
  simp only [Bool.and_eq_true, Bool.not_eq_true', decide_eq_false_iff_not, decide_eq_true_eq] at h
  intro hz
  rcases hz with hz | hz
  · exact h.1 hz
  · omega
theorem q_fl {k x r1 r2 : Nat} (h : (qFL.any fun q => Nat.beq q.1 (qown k) && (Nat.beq q.2.1 x && (Nat.beq q.2.2.1 r1 && Nat.beq q.2.2.2.1 r2))) = true) : r1 < 11 ∧ r2 < qcS r1 ∧ .fieldLink (qcn (qown k)) x (qcT r1 r2).1 (qcT r1 r2).2.1 (qcT r1 r2).2.2.1 ∈ qtb := by
  obtain ⟨q, hq, hb⟩ := List.any_eq_true.mp h
  simp only [Bool.and_eq_true, Nat.beq_eq] at hb
  obtain ⟨e1, e2, e3, e4⟩ := hb
  have := qFL_ok q hq
  unfold qFLp at this
  rw [e1, e2, e3, e4] at this
  exact this
theorem q_ins {C : String} {T : u_T} {N : Nat} (h : ∀ k, k < N → u_lay C T k ∈ qtb) : ∀ w ∈ u_ws C T N, w ∈ qtb := by
  intro w hw
  obtain ⟨k, hk, rfl⟩ := List.mem_map.mp hw
  exact h k (List.mem_range.mp hk)
theorem q_fit {base b : Nat} {ty : FieldType} {v : Value} (h : qfit ty v = true) : narrow ty (qv base b v) = qv base b v ∧ fits ty (qv base b v) = true := by
  cases ty <;> cases v <;> first | (simp [qfit] at h; done) | exact ⟨rfl, rfl⟩ | skip
  next x =>
    simp only [qfit, qbit, Bool.or_eq_true, decide_eq_true_eq] at h
    rcases h with rfl | rfl
    · exact ⟨(by decide +kernel : narrow .boolean (.int 0) = .int 0), (by decide +kernel : fits .boolean (.int 0) = true)⟩
    · exact ⟨(by decide +kernel : narrow .boolean (.int 1) = .int 1), (by decide +kernel : fits .boolean (.int 1) = true)⟩
theorem o_getf {sc : Nat × (Nat → Int32)} {n k pc nx r1 r2 x : Nat} {ls : qL} {st : List Value} {h h' : qH} {r : Option Value} (S : qSound sc n) (hd : decode (qcode k) pc = .ok (.getfield x, nx - pc)) (hx : nx = pc + 3)
    (hq : (qFL.any fun q => Nat.beq q.1 (qown k) && (Nat.beq q.2.1 x && (Nat.beq q.2.2.1 r1 && Nat.beq q.2.2.2.1 r2))) = true) (hr : qgo (run sc n) (s_getf k nx r1 r2 ls st h) h = some (r, h')) : qGoal sc k pc ls st h r h' := by
  subst hx
  rw [Nat.add_sub_cancel_left] at hd
  obtain ⟨hci, hk2, hlink⟩ := q_fl hq
  unfold s_getf at hr
  split at hr
  next a st =>
    split at hr
    next ci fs ha =>
      split at hr
      next v hb hv =>
        have e := Nat.eq_of_beq_eq_true hb
        subst e
        refine q_pure (S _ _ _ _ _ _ _ hr) fun p l e R s m args below meth c dC dI CA base b n0 H locs cells slots Q lsA hF hP hS hl hcl hsl K => ?_
        exact va_get (D := (dC, dI)) (ci := ci) (v := qv base b v) (C := qcN ci) (T := qcT ci) (N := qcS ci) hF.1 hF.2.1 hF.2.2.2.2.1 (q_ins (qcf_ok ci hci).1) hF.2.2.2.1 hF.2.2.2.2.2.1.1 hP a (fs := fs.map (qv base b)) (qw_at ha) (qcl_at ci hci) r2 hk2 (hF.2.2.2.2.1 _ hlink) (fun _ h9 => h9) (by rw [List.getElem?_map, hv]; rfl) hd (K lsA hl)
      next => simp [qgo] at hr
    next => simp [qgo] at hr
  next => simp [qgo] at hr
theorem o_putf {sc : Nat × (Nat → Int32)} {n k pc nx r1 r2 x : Nat} {ls : qL} {st : List Value} {h h' : qH} {r : Option Value} (S : qSound sc n) (hd : decode (qcode k) pc = .ok (.putfield x, nx - pc)) (hx : nx = pc + 3)
    (hq : (qFL.any fun q => Nat.beq q.1 (qown k) && (Nat.beq q.2.1 x && (Nat.beq q.2.2.1 r1 && Nat.beq q.2.2.2.1 r2))) = true) (hfi : cond (qfin r1 r2) (Nat.beq (qkd k) 2 && Nat.beq (qc2o r1) (qown k)) true = true)
    (hr : qgo (run sc n) (s_putf k nx r1 r2 ls st h) h = some (r, h')) : qGoal sc k pc ls st h r h' := by
  subst hx
  rw [Nat.add_sub_cancel_left] at hd
  obtain ⟨hci, hk2, hlink⟩ := q_fl hq
  unfold s_putf at hr
  split at hr
  next v a st =>
    split at hr
    next ci fs ha =>
      split at hr
      next hb =>
        simp only [Bool.and_eq_true, Nat.beq_eq] at hb
        obtain ⟨e, hlen⟩ := hb
        subst e
        have hlen : r2 < fs.length := Nat.blt_eq.mp hlen
        cases hfit : qfit (qty ci r2) v with
        | false => rw [hfit] at hr; simp [qgo, qG] at hr
        | true =>
          rw [hfit] at hr
          refine q_store (c0 := .inr (ci, fs)) (c1 := .inr (ci, fs.set r2 v)) ha rfl (S _ _ _ _ _ _ _ hr) fun p l e R s m args below meth c dC dI CA base b n0 H locs cells slots Q lsA hF hP hS hl K => ?_
          obtain ⟨hn9, hf9⟩ := q_fit (base := base) (b := b) hfit
          obtain ⟨q1, q2, q3, q4, q5, q6, q7, q8⟩ := qcf_ok ci hci
          have hfs : (fs.map (qv base b)).set r2 (qv base b v) = (fs.set r2 v).map (qv base b) := by rw [List.map_set]
          cases hfn : qfin ci r2 with
          | false =>
            refine va_put (D := (dC, dI)) (ci := ci) (v := qv base b v) (ty := qty ci r2) (C := qcN ci) (T := qcT ci) (N := qcS ci) hF.1 hF.2.1 hF.2.2.2.2.1 (q_ins q1) (qty ci) q3 q2 hF.2.2.2.1 hF.2.2.2.2.2.1.1 hP qw_D hS a (fs := fs.map (qv base b)) (qw_at ha) (qcl_at ci hci) r2 hk2 (hF.2.2.2.2.1 _ hlink) (fun _ h9 => h9) hfn (q3 r2 hk2) hn9 hf9 (by rw [List.length_map]; exact hlen) hd fun H1 locs1 hP1 hD1 hS1 => ?_
            rw [hfs] at hP1
            exact K H1 locs1 hP1 hS1
          | true =>
            rw [hfn] at hfi
            simp only [cond_true, Bool.and_eq_true, Nat.beq_eq] at hfi
            have hcn : (qcT ci r2).1 = qcn (qown k) := by rw [q7 r2 hk2, ← qc2o_ok ci hci, hfi.2]
            refine va_putF (D := (dC, dI)) (ci := ci) (v := qv base b v) (ty := qty ci r2) (C := qcN ci) (T := qcT ci) (N := qcS ci) hF.1 hF.2.1 hF.2.2.2.2.1 (q_ins q1) (qty ci) q3 q2 hF.2.2.2.1 hF.2.2.2.2.2.1.1 hP qw_D hS a (fs := fs.map (qv base b)) (qw_at ha) (qcl_at ci hci) r2 hk2 (hF.2.2.2.2.1 _ hlink) (fun _ h9 => h9) hfn (hF.2.2.2.2.2.2.1 hfi.1) hcn (q3 r2 hk2) hn9 hf9 (by rw [List.length_map]; exact hlen) hd fun H1 locs1 hP1 hD1 hS1 => ?_
            rw [hfs] at hP1
            exact K H1 locs1 hP1 hS1
      next => simp [qgo] at hr
    next => simp [qgo] at hr
  next => simp [qgo] at hr

theorem q_tys {CA : Nat → ClassId} {t : Nat} (ht : t < 6) : (qtys CA)[t]? = some (CA t, qtg t) := by
  match t, ht with
  | 0, _ => rfl
  | 1, _ => rfl
  | 2, _ => rfl
  | 3, _ => rfl
  | 4, _ => rfl
  | 5, _ => rfl
theorem o_iald {sc : Nat × (Nat → Int32)} {n k pc nx : Nat} {ls : qL} {st : List Value} {h h' : qH} {r : Option Value} (S : qSound sc n) (hd : decode (qcode k) pc = .ok (.iaload, nx - pc)) (hx : nx = pc + 1)
    (hr : qgo (run sc n) (s_iald sc k nx ls st h) h = some (r, h')) : qGoal sc k pc ls st h r h' := by
  subst hx
  rw [Nat.add_sub_cancel_left] at hd
  unfold s_iald at hr
  split at hr
  next i a st =>
    split at hr
    next m f ha =>
      cases hi : qin i m with
      | false => rw [hi] at hr; simp [qgo, qG] at hr
      | true =>
        rw [hi] at hr
        exact q_pure (S _ _ _ _ _ _ _ hr) fun p l e R s m args below meth c dC dI CA base b n0 H locs cells slots Q lsA hF hP hS hl hcl hsl K =>
          va_iald hF.1 hF.2.1 hF.2.2.2.2.2.1.1 hP a 0 (qw_at ha) (q_tys (t := 0) (by decide)) (q_in hi) hd (K lsA hl)
    next => simp [qgo] at hr
  next i z st =>
    cases hk : Nat.beq k qLaw with
    | false => rw [hk] at hr; simp [qgo] at hr
    | true =>
      rw [hk] at hr
      cases hi : qin i sc.1 with
      | false => rw [hi] at hr; simp [qgo, qG] at hr
      | true =>
        rw [hi] at hr
        refine q_pure (S _ _ _ _ _ _ _ hr) fun p l e R s m args below meth c dC dI CA base b n0 H locs cells slots Q lsA hF hP hS hl hcl hsl K => ?_
        obtain ⟨hX, hb⟩ := hF.2.2.2.2.2.2.2.2.2.2 (Nat.eq_of_beq_eq_true hk)
        have hsz := hF.2.2.2.2.2.2.2.1
        exact va_sld hF.1 hF.2.1 hX (by omega) (by show ¬ base ≤ b; omega) hS (q_in hi) hd (K lsA hl)
  next => simp [qgo] at hr
theorem o_lald {sc : Nat × (Nat → Int32)} {n k pc nx : Nat} {ls : qL} {st : List Value} {h h' : qH} {r : Option Value} (S : qSound sc n) (hd : decode (qcode k) pc = .ok (.laload, nx - pc)) (hx : nx = pc + 1)
    (hr : qgo (run sc n) (s_lald k nx ls st h) h = some (r, h')) : qGoal sc k pc ls st h r h' := by
  subst hx
  rw [Nat.add_sub_cancel_left] at hd
  unfold s_lald at hr
  split at hr
  next i a st =>
    split at hr
    next m f ha =>
      cases hi : qin i m with
      | false => rw [hi] at hr; simp [qgo, qG] at hr
      | true =>
        rw [hi] at hr
        exact q_pure (S _ _ _ _ _ _ _ hr) fun p l e R s m args below meth c dC dI CA base b n0 H locs cells slots Q lsA hF hP hS hl hcl hsl K =>
          va_lald hF.1 hF.2.1 hF.2.2.2.2.2.1.1 hP a 1 (qw_at ha) (q_tys (t := 1) (by decide)) (q_in hi) hd (K lsA hl)
    next => simp [qgo] at hr
  next => simp [qgo] at hr
theorem o_bald {sc : Nat × (Nat → Int32)} {n k pc nx : Nat} {ls : qL} {st : List Value} {h h' : qH} {r : Option Value} (S : qSound sc n) (hd : decode (qcode k) pc = .ok (.baload, nx - pc)) (hx : nx = pc + 1)
    (hr : qgo (run sc n) (s_bald k nx ls st h) h = some (r, h')) : qGoal sc k pc ls st h r h' := by
  subst hx
  rw [Nat.add_sub_cancel_left] at hd
  unfold s_bald at hr
  split at hr
  next i a st =>
    split at hr
    next m f ha =>
      cases hi : qin i m with
      | false => rw [hi] at hr; simp [qgo, qG] at hr
      | true =>
        rw [hi] at hr
        exact q_pure (S _ _ _ _ _ _ _ hr) fun p l e R s m args below meth c dC dI CA base b n0 H locs cells slots Q lsA hF hP hS hl hcl hsl K =>
          va_bald hF.1 hF.2.1 hF.2.2.2.2.2.1.1 hP a 2 (qw_at ha) (q_tys (t := 2) (by decide)) (q_in hi) hd (K lsA hl)
    next m f ha =>
      cases hi : qin i m with
      | false => rw [hi] at hr; simp [qgo, qG] at hr
      | true =>
        rw [hi] at hr
        exact q_pure (S _ _ _ _ _ _ _ hr) fun p l e R s m args below meth c dC dI CA base b n0 H locs cells slots Q lsA hF hP hS hl hcl hsl K =>
          va_zald hF.1 hF.2.1 hF.2.2.2.2.2.1.1 hP a 3 (qw_at ha) (q_tys (t := 3) (by decide)) (q_in hi) hd (K lsA hl)
    next => simp [qgo] at hr
  next => simp [qgo] at hr
theorem q_rf {base b : Nat} (o : Option Nat) : va_rf (o.map (fun i => base + i)) = qv base b (va_rf o) := by cases o <;> rfl
theorem o_aald {sc : Nat × (Nat → Int32)} {n k pc nx : Nat} {ls : qL} {st : List Value} {h h' : qH} {r : Option Value} (S : qSound sc n) (hd : decode (qcode k) pc = .ok (.aaload, nx - pc)) (hx : nx = pc + 1)
    (hr : qgo (run sc n) (s_aald k nx ls st h) h = some (r, h')) : qGoal sc k pc ls st h r h' := by
  subst hx
  rw [Nat.add_sub_cancel_left] at hd
  unfold s_aald at hr
  split at hr
  next i a st =>
    split at hr
    next m f ha =>
      cases hi : qin i m with
      | false => rw [hi] at hr; simp [qgo, qG] at hr
      | true =>
        rw [hi] at hr
        refine q_pure (S _ _ _ _ _ _ _ hr) fun p l e R s m args below meth c dC dI CA base b n0 H locs cells slots Q lsA hF hP hS hl hcl hsl K => ?_
        refine va_aldq hF.1 hF.2.1 hF.2.2.2.2.2.1.1 hP a 4 (qw_at ha) (q_tys (t := 4) (by decide)) (q_in hi) hd ?_
        rw [q_rf (b := b)]
        exact K lsA hl
    next m f ha =>
      cases hi : qin i m with
      | false => rw [hi] at hr; simp [qgo, qG] at hr
      | true =>
        rw [hi] at hr
        refine q_pure (S _ _ _ _ _ _ _ hr) fun p l e R s m args below meth c dC dI CA base b n0 H locs cells slots Q lsA hF hP hS hl hcl hsl K => ?_
        refine va_aldq hF.1 hF.2.1 hF.2.2.2.2.2.1.1 hP a 5 (qw_at ha) (q_tys (t := 5) (by decide)) (q_in hi) hd ?_
        rw [q_rf (b := b)]
        exact K lsA hl
    next => simp [qgo] at hr
  next => simp [qgo] at hr
theorem o_iast {sc : Nat × (Nat → Int32)} {n k pc nx : Nat} {ls : qL} {st : List Value} {h h' : qH} {r : Option Value} (S : qSound sc n) (hd : decode (qcode k) pc = .ok (.iastore, nx - pc)) (hx : nx = pc + 1)
    (hr : qgo (run sc n) (s_iast k nx ls st h) h = some (r, h')) : qGoal sc k pc ls st h r h' := by
  subst hx
  rw [Nat.add_sub_cancel_left] at hd
  unfold s_iast at hr
  split at hr
  next x i a st =>
    split at hr
    next m f ha =>
      cases hi : qin i m with
      | false => rw [hi] at hr; simp [qgo, qG] at hr
      | true =>
        rw [hi] at hr
        exact q_store (c0 := .inl (0, m, .inl f)) (c1 := .inl (0, m, .inl (upd f i.toNatClampNeg x))) ha rfl (S _ _ _ _ _ _ _ hr) fun p l e R s m args below meth c dC dI CA base b n0 H locs cells slots Q lsA hF hP hS hl K =>
          va_iast hF.1 hF.2.1 hF.2.2.2.2.2.1.1 hP qw_D hS a 0 (qw_at ha) (q_tys (t := 0) (by decide)) (q_in hi) hd fun H1 locs1 hP1 _ hS1 => K H1 locs1 hP1 hS1
    next => simp [qgo] at hr
  next => simp [qgo] at hr
theorem o_last {sc : Nat × (Nat → Int32)} {n k pc nx : Nat} {ls : qL} {st : List Value} {h h' : qH} {r : Option Value} (S : qSound sc n) (hd : decode (qcode k) pc = .ok (.lastore, nx - pc)) (hx : nx = pc + 1)
    (hr : qgo (run sc n) (s_last k nx ls st h) h = some (r, h')) : qGoal sc k pc ls st h r h' := by
  subst hx
  rw [Nat.add_sub_cancel_left] at hd
  unfold s_last at hr
  split at hr
  next x i a st =>
    split at hr
    next m f ha =>
      cases hi : qin i m with
      | false => rw [hi] at hr; simp [qgo, qG] at hr
      | true =>
        rw [hi] at hr
        exact q_store (c0 := .inl (1, m, .inr (.inl f))) (c1 := .inl (1, m, .inr (.inl (vp_updL f i.toNatClampNeg x)))) ha rfl (S _ _ _ _ _ _ _ hr) fun p l e R s m args below meth c dC dI CA base b n0 H locs cells slots Q lsA hF hP hS hl K =>
          va_last hF.1 hF.2.1 hF.2.2.2.2.2.1.1 hP qw_D hS a 1 (qw_at ha) (q_tys (t := 1) (by decide)) (q_in hi) hd fun H1 locs1 hP1 _ hS1 => K H1 locs1 hP1 hS1
    next => simp [qgo] at hr
  next => simp [qgo] at hr
theorem o_bast {sc : Nat × (Nat → Int32)} {n k pc nx : Nat} {ls : qL} {st : List Value} {h h' : qH} {r : Option Value} (S : qSound sc n) (hd : decode (qcode k) pc = .ok (.bastore, nx - pc)) (hx : nx = pc + 1)
    (hr : qgo (run sc n) (s_bast k nx ls st h) h = some (r, h')) : qGoal sc k pc ls st h r h' := by
  subst hx
  rw [Nat.add_sub_cancel_left] at hd
  unfold s_bast at hr
  split at hr
  next x i a st =>
    split at hr
    next m f ha =>
      cases hi : qin i m with
      | false => rw [hi] at hr; simp [qgo, qG] at hr
      | true =>
        rw [hi] at hr
        exact q_store (c0 := .inl (2, m, .inl f)) (c1 := .inl (2, m, .inl (upd f i.toNatClampNeg (vp_nar .byte x)))) ha rfl (S _ _ _ _ _ _ _ hr) fun p l e R s m args below meth c dC dI CA base b n0 H locs cells slots Q lsA hF hP hS hl K =>
          va_bast hF.1 hF.2.1 hF.2.2.2.2.2.1.1 hP qw_D hS a 2 (qw_at ha) (q_tys (t := 2) (by decide)) (q_in hi) hd fun H1 locs1 hP1 _ hS1 => K H1 locs1 hP1 hS1
    next m f ha =>
      cases hi : qin i m with
      | false => rw [hi] at hr; simp [qgo, qG] at hr
      | true =>
        rw [hi] at hr
        exact q_store (c0 := .inl (3, m, .inl f)) (c1 := .inl (3, m, .inl (upd f i.toNatClampNeg (vp_nar .boolean x)))) ha rfl (S _ _ _ _ _ _ _ hr) fun p l e R s m args below meth c dC dI CA base b n0 H locs cells slots Q lsA hF hP hS hl K =>
          va_zast hF.1 hF.2.1 hF.2.2.2.2.2.1.1 hP qw_D hS a 3 (qw_at ha) (q_tys (t := 3) (by decide)) (q_in hi) hd fun H1 locs1 hP1 _ hS1 => K H1 locs1 hP1 hS1
    next => simp [qgo] at hr
  next => simp [qgo] at hr
theorem q_up {base : Nat} (f : Nat → Option Nat) (i v : Nat) : va_up (fun j => (f j).map (fun i => base + i)) i (some (base + v)) = fun j => (va_up f i (some v) j).map (fun i => base + i) := by
  funext j
  unfold va_up
  by_cases hj : j = i <;> simp [hj]
theorem o_aast {sc : Nat × (Nat → Int32)} {n k pc nx : Nat} {ls : qL} {st : List Value} {h h' : qH} {r : Option Value} (S : qSound sc n) (hd : decode (qcode k) pc = .ok (.aastore, nx - pc)) (hx : nx = pc + 1)
    (hr : qgo (run sc n) (s_aast k nx ls st h) h = some (r, h')) : qGoal sc k pc ls st h r h' := by
  subst hx
  rw [Nat.add_sub_cancel_left] at hd
  unfold s_aast at hr
  split at hr
  next v i a st =>
    split at hr
    next m f vs ha hv =>
      cases hi : qin i m with
      | false => rw [hi] at hr; simp [qgo, qG] at hr
      | true =>
        rw [hi] at hr
        refine q_store (c0 := .inl (4, m, .inr (.inr (.inr (.inr f))))) (c1 := .inl (4, m, .inr (.inr (.inr (.inr (va_up f i.toNatClampNeg (some v))))))) ha rfl (S _ _ _ _ _ _ _ hr) fun p l e R s m args below meth c dC dI CA base b n0 H locs cells slots Q lsA hF hP hS hl K => ?_
        refine va_astq hF.1 hF.2.1 hF.2.2.2.2.2.1.1 hP qw_D hS a 4 v 7 (r := (RX8, TX8, 2)) (qw_at ha) (q_tys (t := 4) (by decide)) (qw_at hv) rfl (q_in hi) hd fun H1 locs1 hP1 _ hS1 => ?_
        rw [q_up] at hP1
        exact K H1 locs1 hP1 hS1
    next m f vs ha hv =>
      cases hi : qin i m with
      | false => rw [hi] at hr; simp [qgo, qG] at hr
      | true =>
        rw [hi] at hr
        refine q_store (c0 := .inl (5, m, .inr (.inr (.inr (.inr f))))) (c1 := .inl (5, m, .inr (.inr (.inr (.inr (va_up f i.toNatClampNeg (some v))))))) ha rfl (S _ _ _ _ _ _ _ hr) fun p l e R s m args below meth c dC dI CA base b n0 H locs cells slots Q lsA hF hP hS hl K => ?_
        refine va_astq hF.1 hF.2.1 hF.2.2.2.2.2.1.1 hP qw_D hS a 5 v 0 (r := (RX0, TX0, 8)) (qw_at ha) (q_tys (t := 5) (by decide)) (qw_at hv) rfl (q_in hi) hd fun H1 locs1 hP1 _ hS1 => ?_
        rw [q_up] at hP1
        exact K H1 locs1 hP1 hS1
    next => simp [qgo] at hr
  next => simp [qgo] at hr
theorem q_pa1 (base n : Nat) (f : (Nat → Int32) ⊕ (Nat → Int64) ⊕ (Nat → UInt32) ⊕ (Nat → UInt64) ⊕ (Nat → Option Nat)) : (qpa base (n, f)).1 = n := by
  obtain f | f | f | f | f := f <;> rfl
theorem o_alen {sc : Nat × (Nat → Int32)} {n k pc nx : Nat} {ls : qL} {st : List Value} {h h' : qH} {r : Option Value} (S : qSound sc n) (hd : decode (qcode k) pc = .ok (.arraylength, nx - pc)) (hx : nx = pc + 1)
    (hr : qgo (run sc n) (s_alen sc k nx ls st h) h = some (r, h')) : qGoal sc k pc ls st h r h' := by
  subst hx
  rw [Nat.add_sub_cancel_left] at hd
  unfold s_alen at hr
  split at hr
  next a st =>
    split at hr
    next t m f ha =>
      cases hi : Nat.blt t 6 with
      | false => rw [hi] at hr; simp [qgo] at hr
      | true =>
        rw [hi] at hr
        exact q_pure (S _ _ _ _ _ _ _ hr) fun p l e R s m args below meth c dC dI CA base b n0 H locs cells slots Q lsA hF hP hS hl hcl hsl K =>
          va_alen hF.1 hF.2.1 hF.2.2.2.2.2.1.1 hP a t (qw_at ha) (q_tys (Nat.blt_eq.mp hi)) (by rw [q_pa1]) hd (K lsA hl)
    next => simp [qgo] at hr
  next z st =>
    cases hk : Nat.beq k qLaw with
    | false => rw [hk] at hr; simp [qgo] at hr
    | true =>
      rw [hk] at hr
      refine q_pure (S _ _ _ _ _ _ _ hr) fun p l e R s m args below meth c dC dI CA base b n0 H locs cells slots Q lsA hF hP hS hl hcl hsl K => ?_
      obtain ⟨hX, hb⟩ := hF.2.2.2.2.2.2.2.2.2.2 (Nat.eq_of_beq_eq_true hk)
      have hsz := hF.2.2.2.2.2.2.2.1
      exact va_slen hF.1 hF.2.1 hX (by omega) (by show ¬ base ≤ b; omega) hS hd (K lsA hl)
  next => simp [qgo] at hr
theorem o_ldc2 {sc : Nat × (Nat → Int32)} {n k pc nx r1 x : Nat} {ls : qL} {st : List Value} {h h' : qH} {r : Option Value} (S : qSound sc n) (hd : decode (qcode k) pc = .ok (.ldc2_w x, nx - pc)) (hx : nx = pc + 3)
    (hq : (qDLs.any fun q => Nat.beq q.1 (qown k) && (Nat.beq q.2.1 x && Nat.beq q.2.2.1 r1)) = true) (hr : qgo (run sc n) (s_ldc2 k nx r1 ls st h) h = some (r, h')) : qGoal sc k pc ls st h r h' := by
  subst hx
  rw [Nat.add_sub_cancel_left] at hd
  obtain ⟨q, hq1, hb⟩ := List.any_eq_true.mp hq
  simp only [Bool.and_eq_true, Nat.beq_eq] at hb
  obtain ⟨e1, e2, e3⟩ := hb
  have hw := qDL_ok q hq1
  unfold qDLp at hw
  rw [e1, e2, e3] at hw
  exact q_pure (S _ _ _ _ _ _ _ hr) fun p l e R s m args below meth c dC dI CA base b n0 H locs cells slots Q lsA hF hP hS hl hcl hsl K =>
    lv_ldc2 hF.1 hF.2.1 hF.2.2.2.1 (hF.2.2.2.2.1 _ hw) hd (K lsA hl)
