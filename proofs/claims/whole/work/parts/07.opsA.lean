/-! Each instruction: what the small machine does, the JVM does. -/
theorem o_iload {sc : Nat × (Nat → Int32)} {n k pc nx r1 r2 : Nat} {ls : qL} {st : List Value} {h h' : qH} {r : Option Value} {j : Nat} (S : qSound sc n) (hd : decode (qcode k) pc = .ok (.iload j, nx - pc)) (hx : nx = pc + 2) (hr : qgo (run sc n) (s_ild k nx ls st h (j)) h = some (r, h')) : qGoal sc k pc ls st h r h' := by
  subst hx
  rw [Nat.add_sub_cancel_left] at hd
  unfold s_ild at hr
  split at hr
  next x hq =>
    exact q_pure (S _ _ _ _ _ _ _ hr) fun p l e R s m args below meth c dC dI CA base b n0 H locs cells slots Q lsA hF hP hS hl hcl hsl K => lv_iload hF.1 hF.2.1 hd (q_ld hl hq) (K lsA hl)
  next => simp [qgo] at hr
theorem o_iload_n {sc : Nat × (Nat → Int32)} {n k pc nx r1 r2 : Nat} {ls : qL} {st : List Value} {h h' : qH} {r : Option Value} {j : Fin 4} (S : qSound sc n) (hd : decode (qcode k) pc = .ok (.iload_n j, nx - pc)) (hx : nx = pc + 1) (hr : qgo (run sc n) (s_ild k nx ls st h (j.val)) h = some (r, h')) : qGoal sc k pc ls st h r h' := by
  subst hx
  rw [Nat.add_sub_cancel_left] at hd
  unfold s_ild at hr
  split at hr
  next x hq =>
    exact q_pure (S _ _ _ _ _ _ _ hr) fun p l e R s m args below meth c dC dI CA base b n0 H locs cells slots Q lsA hF hP hS hl hcl hsl K => lv_iload_n hF.1 hF.2.1 hd rfl (q_ld hl hq) (K lsA hl)
  next => simp [qgo] at hr
theorem o_lload {sc : Nat × (Nat → Int32)} {n k pc nx r1 r2 : Nat} {ls : qL} {st : List Value} {h h' : qH} {r : Option Value} {j : Nat} (S : qSound sc n) (hd : decode (qcode k) pc = .ok (.lload j, nx - pc)) (hx : nx = pc + 2) (hr : qgo (run sc n) (s_lld k nx ls st h (j)) h = some (r, h')) : qGoal sc k pc ls st h r h' := by
  subst hx
  rw [Nat.add_sub_cancel_left] at hd
  unfold s_lld at hr
  split at hr
  next x hq =>
    exact q_pure (S _ _ _ _ _ _ _ hr) fun p l e R s m args below meth c dC dI CA base b n0 H locs cells slots Q lsA hF hP hS hl hcl hsl K => lv_lload hF.1 hF.2.1 hd (q_ld hl hq) (K lsA hl)
  next => simp [qgo] at hr
theorem o_lload_n {sc : Nat × (Nat → Int32)} {n k pc nx r1 r2 : Nat} {ls : qL} {st : List Value} {h h' : qH} {r : Option Value} {j : Fin 4} (S : qSound sc n) (hd : decode (qcode k) pc = .ok (.lload_n j, nx - pc)) (hx : nx = pc + 1) (hr : qgo (run sc n) (s_lld k nx ls st h (j.val)) h = some (r, h')) : qGoal sc k pc ls st h r h' := by
  subst hx
  rw [Nat.add_sub_cancel_left] at hd
  unfold s_lld at hr
  split at hr
  next x hq =>
    exact q_pure (S _ _ _ _ _ _ _ hr) fun p l e R s m args below meth c dC dI CA base b n0 H locs cells slots Q lsA hF hP hS hl hcl hsl K => lv_lload_n hF.1 hF.2.1 hd rfl (q_ld hl hq) (K lsA hl)
  next => simp [qgo] at hr
theorem o_aload {sc : Nat × (Nat → Int32)} {n k pc nx r1 r2 : Nat} {ls : qL} {st : List Value} {h h' : qH} {r : Option Value} {j : Nat} (S : qSound sc n) (hd : decode (qcode k) pc = .ok (.aload j, nx - pc)) (hx : nx = pc + 2) (hr : qgo (run sc n) (s_ald k nx ls st h (j)) h = some (r, h')) : qGoal sc k pc ls st h r h' := by
  subst hx
  rw [Nat.add_sub_cancel_left] at hd
  unfold s_ald at hr
  split at hr
  next x hq =>
    exact q_pure (S _ _ _ _ _ _ _ hr) fun p l e R s m args below meth c dC dI CA base b n0 H locs cells slots Q lsA hF hP hS hl hcl hsl K => lv_aload hF.1 hF.2.1 hd (q_ld hl hq) (K lsA hl)
  next hq =>
    exact q_pure (S _ _ _ _ _ _ _ hr) fun p l e R s m args below meth c dC dI CA base b n0 H locs cells slots Q lsA hF hP hS hl hcl hsl K => lv_aloadN hF.1 hF.2.1 hd (q_ld hl hq) (K lsA hl)
  next x hq =>
    exact q_pure (S _ _ _ _ _ _ _ hr) fun p l e R s m args below meth c dC dI CA base b n0 H locs cells slots Q lsA hF hP hS hl hcl hsl K => lv_aload hF.1 hF.2.1 hd (q_ld hl hq) (K lsA hl)
  next => simp [qgo] at hr
theorem o_aload_n {sc : Nat × (Nat → Int32)} {n k pc nx r1 r2 : Nat} {ls : qL} {st : List Value} {h h' : qH} {r : Option Value} {j : Fin 4} (S : qSound sc n) (hd : decode (qcode k) pc = .ok (.aload_n j, nx - pc)) (hx : nx = pc + 1) (hr : qgo (run sc n) (s_ald k nx ls st h (j.val)) h = some (r, h')) : qGoal sc k pc ls st h r h' := by
  subst hx
  rw [Nat.add_sub_cancel_left] at hd
  unfold s_ald at hr
  split at hr
  next x hq =>
    exact q_pure (S _ _ _ _ _ _ _ hr) fun p l e R s m args below meth c dC dI CA base b n0 H locs cells slots Q lsA hF hP hS hl hcl hsl K => lv_aload_n hF.1 hF.2.1 hd rfl (q_ld hl hq) (K lsA hl)
  next hq =>
    exact q_pure (S _ _ _ _ _ _ _ hr) fun p l e R s m args below meth c dC dI CA base b n0 H locs cells slots Q lsA hF hP hS hl hcl hsl K => lv_aload_nN hF.1 hF.2.1 hd rfl (q_ld hl hq) (K lsA hl)
  next x hq =>
    exact q_pure (S _ _ _ _ _ _ _ hr) fun p l e R s m args below meth c dC dI CA base b n0 H locs cells slots Q lsA hF hP hS hl hcl hsl K => lv_aload_n hF.1 hF.2.1 hd rfl (q_ld hl hq) (K lsA hl)
  next => simp [qgo] at hr
theorem o_istore {sc : Nat × (Nat → Int32)} {n k pc nx r1 r2 : Nat} {ls : qL} {st : List Value} {h h' : qH} {r : Option Value} {j : Nat} (S : qSound sc n) (hd : decode (qcode k) pc = .ok (.istore j, nx - pc)) (hx : nx = pc + 2) (hr : qgo (run sc n) (s_ist k nx ls st h (j)) h = some (r, h')) : qGoal sc k pc ls st h r h' := by
  subst hx
  rw [Nat.add_sub_cancel_left] at hd
  unfold s_ist at hr
  split at hr
  next x st =>
    cases hj : Nat.blt (j) (qmaxL k) with
    | false => rw [hj] at hr; simp [qgo] at hr
    | true =>
      rw [hj] at hr
      exact q_pure (S _ _ _ _ _ _ _ hr) fun p l e R s m args below meth c dC dI CA base b n0 H locs cells slots Q lsA hF hP hS hl hcl hsl K => lv_istore hF.1 hF.2.1 hd hl (Nat.blt_eq.mp hj) (by rw [q_k1]; rfl) (fun lsB hlB => K lsB hlB)
  next => simp [qgo] at hr
theorem o_istore_n {sc : Nat × (Nat → Int32)} {n k pc nx r1 r2 : Nat} {ls : qL} {st : List Value} {h h' : qH} {r : Option Value} {j : Fin 4} (S : qSound sc n) (hd : decode (qcode k) pc = .ok (.istore_n j, nx - pc)) (hx : nx = pc + 1) (hr : qgo (run sc n) (s_ist k nx ls st h (j.val)) h = some (r, h')) : qGoal sc k pc ls st h r h' := by
  subst hx
  rw [Nat.add_sub_cancel_left] at hd
  unfold s_ist at hr
  split at hr
  next x st =>
    cases hj : Nat.blt (j.val) (qmaxL k) with
    | false => rw [hj] at hr; simp [qgo] at hr
    | true =>
      rw [hj] at hr
      exact q_pure (S _ _ _ _ _ _ _ hr) fun p l e R s m args below meth c dC dI CA base b n0 H locs cells slots Q lsA hF hP hS hl hcl hsl K => lv_istore_n hF.1 hF.2.1 hd rfl hl (Nat.blt_eq.mp hj) (by rw [q_k1]; rfl) (fun lsB hlB => K lsB hlB)
  next => simp [qgo] at hr
theorem o_lstore {sc : Nat × (Nat → Int32)} {n k pc nx r1 r2 : Nat} {ls : qL} {st : List Value} {h h' : qH} {r : Option Value} {j : Nat} (S : qSound sc n) (hd : decode (qcode k) pc = .ok (.lstore j, nx - pc)) (hx : nx = pc + 2) (hr : qgo (run sc n) (s_lst k nx ls st h (j)) h = some (r, h')) : qGoal sc k pc ls st h r h' := by
  subst hx
  rw [Nat.add_sub_cancel_left] at hd
  unfold s_lst at hr
  split at hr
  next x st =>
    cases hj : Nat.blt (j + 1) (qmaxL k) with
    | false => rw [hj] at hr; simp [qgo] at hr
    | true =>
      rw [hj] at hr
      exact q_pure (S _ _ _ _ _ _ _ hr) fun p l e R s m args below meth c dC dI CA base b n0 H locs cells slots Q lsA hF hP hS hl hcl hsl K => lv_lstore hF.1 hF.2.1 hd hl (Nat.blt_eq.mp hj) (by rw [q_k2]; rfl) (fun lsB hlB => K lsB hlB)
  next => simp [qgo] at hr
theorem o_lstore_n {sc : Nat × (Nat → Int32)} {n k pc nx r1 r2 : Nat} {ls : qL} {st : List Value} {h h' : qH} {r : Option Value} {j : Fin 4} (S : qSound sc n) (hd : decode (qcode k) pc = .ok (.lstore_n j, nx - pc)) (hx : nx = pc + 1) (hr : qgo (run sc n) (s_lst k nx ls st h (j.val)) h = some (r, h')) : qGoal sc k pc ls st h r h' := by
  subst hx
  rw [Nat.add_sub_cancel_left] at hd
  unfold s_lst at hr
  split at hr
  next x st =>
    cases hj : Nat.blt (j.val + 1) (qmaxL k) with
    | false => rw [hj] at hr; simp [qgo] at hr
    | true =>
      rw [hj] at hr
      exact q_pure (S _ _ _ _ _ _ _ hr) fun p l e R s m args below meth c dC dI CA base b n0 H locs cells slots Q lsA hF hP hS hl hcl hsl K => lv_lstore_n hF.1 hF.2.1 hd rfl hl (Nat.blt_eq.mp hj) (by rw [q_k2]; rfl) (fun lsB hlB => K lsB hlB)
  next => simp [qgo] at hr
theorem o_astore {sc : Nat × (Nat → Int32)} {n k pc nx r1 r2 : Nat} {ls : qL} {st : List Value} {h h' : qH} {r : Option Value} {j : Nat} (S : qSound sc n) (hd : decode (qcode k) pc = .ok (.astore j, nx - pc)) (hx : nx = pc + 2) (hr : qgo (run sc n) (s_ast k nx ls st h (j)) h = some (r, h')) : qGoal sc k pc ls st h r h' := by
  subst hx
  rw [Nat.add_sub_cancel_left] at hd
  unfold s_ast at hr
  split at hr
  next x st =>
    cases hj : Nat.blt (j) (qmaxL k) with
    | false => rw [hj] at hr; simp [qgo] at hr
    | true =>
      rw [hj] at hr
      exact q_pure (S _ _ _ _ _ _ _ hr) fun p l e R s m args below meth c dC dI CA base b n0 H locs cells slots Q lsA hF hP hS hl hcl hsl K => lv_astore hF.1 hF.2.1 hd hl (Nat.blt_eq.mp hj) (by rw [q_k1]; rfl) (fun lsB hlB => K lsB hlB)
  next st =>
    cases hj : Nat.blt (j) (qmaxL k) with
    | false => rw [hj] at hr; simp [qgo] at hr
    | true =>
      rw [hj] at hr
      exact q_pure (S _ _ _ _ _ _ _ hr) fun p l e R s m args below meth c dC dI CA base b n0 H locs cells slots Q lsA hF hP hS hl hcl hsl K => lv_astoreN hF.1 hF.2.1 hd hl (Nat.blt_eq.mp hj) (by rw [q_k1]; rfl) (fun lsB hlB => K lsB hlB)
  next => simp [qgo] at hr
theorem o_astore_n {sc : Nat × (Nat → Int32)} {n k pc nx r1 r2 : Nat} {ls : qL} {st : List Value} {h h' : qH} {r : Option Value} {j : Fin 4} (S : qSound sc n) (hd : decode (qcode k) pc = .ok (.astore_n j, nx - pc)) (hx : nx = pc + 1) (hr : qgo (run sc n) (s_ast k nx ls st h (j.val)) h = some (r, h')) : qGoal sc k pc ls st h r h' := by
  subst hx
  rw [Nat.add_sub_cancel_left] at hd
  unfold s_ast at hr
  split at hr
  next x st =>
    cases hj : Nat.blt (j.val) (qmaxL k) with
    | false => rw [hj] at hr; simp [qgo] at hr
    | true =>
      rw [hj] at hr
      exact q_pure (S _ _ _ _ _ _ _ hr) fun p l e R s m args below meth c dC dI CA base b n0 H locs cells slots Q lsA hF hP hS hl hcl hsl K => lv_astore_n hF.1 hF.2.1 hd rfl hl (Nat.blt_eq.mp hj) (by rw [q_k1]; rfl) (fun lsB hlB => K lsB hlB)
  next st =>
    cases hj : Nat.blt (j.val) (qmaxL k) with
    | false => rw [hj] at hr; simp [qgo] at hr
    | true =>
      rw [hj] at hr
      exact q_pure (S _ _ _ _ _ _ _ hr) fun p l e R s m args below meth c dC dI CA base b n0 H locs cells slots Q lsA hF hP hS hl hcl hsl K => lv_astore_nN hF.1 hF.2.1 hd rfl hl (Nat.blt_eq.mp hj) (by rw [q_k1]; rfl) (fun lsB hlB => K lsB hlB)
  next => simp [qgo] at hr
theorem o_iinc {sc : Nat × (Nat → Int32)} {n k pc nx r1 r2 : Nat} {ls : qL} {st : List Value} {h h' : qH} {r : Option Value} {j : Nat} {v : Int} (S : qSound sc n) (hd : decode (qcode k) pc = .ok (.iinc j v, nx - pc)) (hx : nx = pc + 3) (hr : qgo (run sc n) (s_iinc k nx ls st h j v) h = some (r, h')) : qGoal sc k pc ls st h r h' := by
  subst hx
  rw [Nat.add_sub_cancel_left] at hd
  unfold s_iinc at hr
  split at hr
  next x hq =>
    cases hj : Nat.blt j (qmaxL k) with
    | false => rw [hj] at hr; simp [qgo] at hr
    | true =>
      rw [hj] at hr
      refine q_pure (S _ _ _ _ _ _ _ hr) fun p l e R s m args below meth c dC dI CA base b n0 H locs cells slots Q lsA hF hP hS hl hcl hsl K => ?_
      obtain ⟨i, hi⟩ := q_mem (base := base) (b := b) hq
      exact lv_iinc hF.1 hF.2.1 hd hl hi rfl (Nat.blt_eq.mp hj) (by rw [q_k1]; rfl) (fun lsB hlB => K lsB hlB)
  next => simp [qgo] at hr
theorem o_iconst {sc : Nat × (Nat → Int32)} {n k pc nx r1 r2 : Nat} {ls : qL} {st : List Value} {h h' : qH} {r : Option Value} {v : Int} (hv : Int32.ofInt v = qint r1 r2) (S : qSound sc n) (hd : decode (qcode k) pc = .ok (.iconst v, nx - pc)) (hx : nx = pc + 1) (hr : qgo (run sc n) (s_const k nx r1 r2 ls st h) h = some (r, h')) : qGoal sc k pc ls st h r h' := by
  subst hx
  rw [Nat.add_sub_cancel_left] at hd
  unfold s_const at hr
  split at hr
  next => exact q_pure (S _ _ _ _ _ _ _ hr) fun p l e R s m args below meth c dC dI CA base b n0 H locs cells slots Q lsA hF hP hS hl hcl hsl K => lv_iconst hF.1 hF.2.1 hd hv (K lsA hl)
  next hne => exact q_pure (S _ _ _ _ _ _ _ hr) fun p l e R s m args below meth c dC dI CA base b n0 H locs cells slots Q lsA hF hP hS hl hcl hsl K => lv_iconst hF.1 hF.2.1 hd (hv.trans (by unfold qint; split; exact absurd rfl hne; rfl)) (K lsA hl)
theorem o_bipush {sc : Nat × (Nat → Int32)} {n k pc nx r1 r2 : Nat} {ls : qL} {st : List Value} {h h' : qH} {r : Option Value} {v : Int} (hv : (Int8.ofInt v).toInt32 = qint r1 r2) (S : qSound sc n) (hd : decode (qcode k) pc = .ok (.bipush v, nx - pc)) (hx : nx = pc + 2) (hr : qgo (run sc n) (s_const k nx r1 r2 ls st h) h = some (r, h')) : qGoal sc k pc ls st h r h' := by
  subst hx
  rw [Nat.add_sub_cancel_left] at hd
  unfold s_const at hr
  split at hr
  next => exact q_pure (S _ _ _ _ _ _ _ hr) fun p l e R s m args below meth c dC dI CA base b n0 H locs cells slots Q lsA hF hP hS hl hcl hsl K => lv_bipush hF.1 hF.2.1 hd hv (K lsA hl)
  next hne => exact q_pure (S _ _ _ _ _ _ _ hr) fun p l e R s m args below meth c dC dI CA base b n0 H locs cells slots Q lsA hF hP hS hl hcl hsl K => lv_bipush hF.1 hF.2.1 hd (hv.trans (by unfold qint; split; exact absurd rfl hne; rfl)) (K lsA hl)
theorem o_sipush {sc : Nat × (Nat → Int32)} {n k pc nx r1 r2 : Nat} {ls : qL} {st : List Value} {h h' : qH} {r : Option Value} {v : Int} (hv : (Int16.ofInt v).toInt32 = qint r1 r2) (S : qSound sc n) (hd : decode (qcode k) pc = .ok (.sipush v, nx - pc)) (hx : nx = pc + 3) (hr : qgo (run sc n) (s_const k nx r1 r2 ls st h) h = some (r, h')) : qGoal sc k pc ls st h r h' := by
  subst hx
  rw [Nat.add_sub_cancel_left] at hd
  unfold s_const at hr
  split at hr
  next => exact q_pure (S _ _ _ _ _ _ _ hr) fun p l e R s m args below meth c dC dI CA base b n0 H locs cells slots Q lsA hF hP hS hl hcl hsl K => lv_sipush hF.1 hF.2.1 hd hv (K lsA hl)
  next hne => exact q_pure (S _ _ _ _ _ _ _ hr) fun p l e R s m args below meth c dC dI CA base b n0 H locs cells slots Q lsA hF hP hS hl hcl hsl K => lv_sipush hF.1 hF.2.1 hd (hv.trans (by unfold qint; split; exact absurd rfl hne; rfl)) (K lsA hl)
theorem o_lconst {sc : Nat × (Nat → Int32)} {n k pc nx r1 r2 : Nat} {ls : qL} {st : List Value} {h h' : qH} {r : Option Value} {v : Fin 2} (S : qSound sc n) (hd : decode (qcode k) pc = .ok (.lconst v, nx - pc)) (hx : nx = pc + 1) (hr : qgo (run sc n) (s_lconst k nx ls st h v.val) h = some (r, h')) : qGoal sc k pc ls st h r h' := by
  subst hx
  rw [Nat.add_sub_cancel_left] at hd
  unfold s_lconst at hr
  split at hr
  next hv => exact q_pure (S _ _ _ _ _ _ _ hr) fun p l e R s m args below meth c dC dI CA base b n0 H locs cells slots Q lsA hF hP hS hl hcl hsl K => lv_lconst hF.1 hF.2.1 hd (by rw [hv]; rfl) (K lsA hl)
  next hv => exact q_pure (S _ _ _ _ _ _ _ hr) fun p l e R s m args below meth c dC dI CA base b n0 H locs cells slots Q lsA hF hP hS hl hcl hsl K => lv_lconst hF.1 hF.2.1 hd (by have h1 := v.isLt; have h2 : v.val = 1 := (by have h3 : ¬ v.val = 0 := hv; omega); rw [h2]; rfl) (K lsA hl)
theorem o_null {sc : Nat × (Nat → Int32)} {n k pc nx r1 r2 : Nat} {ls : qL} {st : List Value} {h h' : qH} {r : Option Value} (S : qSound sc n) (hd : decode (qcode k) pc = .ok (.aconst_null, nx - pc)) (hx : nx = pc + 1) (hr : qgo (run sc n) (s_null k nx ls st h) h = some (r, h')) : qGoal sc k pc ls st h r h' := by
  subst hx
  rw [Nat.add_sub_cancel_left] at hd
  exact q_pure (S _ _ _ _ _ _ _ hr) fun p l e R s m args below meth c dC dI CA base b n0 H locs cells slots Q lsA hF hP hS hl hcl hsl K => lv_null hF.1 hF.2.1 hd (K lsA hl)
theorem o_iadd {sc : Nat × (Nat → Int32)} {n k pc nx r1 r2 : Nat} {ls : qL} {st : List Value} {h h' : qH} {r : Option Value} (S : qSound sc n) (hd : decode (qcode k) pc = .ok (.iadd, nx - pc)) (hx : nx = pc + 1) (hr : qgo (run sc n) (s_iadd k nx ls st h) h = some (r, h')) : qGoal sc k pc ls st h r h' := by
  subst hx
  rw [Nat.add_sub_cancel_left] at hd
  unfold s_iadd at hr
  split at hr
  next y x st => exact q_pure (S _ _ _ _ _ _ _ hr) fun p l e R s m args below meth c dC dI CA base b n0 H locs cells slots Q lsA hF hP hS hl hcl hsl K => lv_iadd hF.1 hF.2.1 hd (K lsA hl)
  next => simp [qgo] at hr
theorem o_isub {sc : Nat × (Nat → Int32)} {n k pc nx r1 r2 : Nat} {ls : qL} {st : List Value} {h h' : qH} {r : Option Value} (S : qSound sc n) (hd : decode (qcode k) pc = .ok (.isub, nx - pc)) (hx : nx = pc + 1) (hr : qgo (run sc n) (s_isub k nx ls st h) h = some (r, h')) : qGoal sc k pc ls st h r h' := by
  subst hx
  rw [Nat.add_sub_cancel_left] at hd
  unfold s_isub at hr
  split at hr
  next y x st => exact q_pure (S _ _ _ _ _ _ _ hr) fun p l e R s m args below meth c dC dI CA base b n0 H locs cells slots Q lsA hF hP hS hl hcl hsl K => lv_isub hF.1 hF.2.1 hd (K lsA hl)
  next => simp [qgo] at hr
theorem o_imul {sc : Nat × (Nat → Int32)} {n k pc nx r1 r2 : Nat} {ls : qL} {st : List Value} {h h' : qH} {r : Option Value} (S : qSound sc n) (hd : decode (qcode k) pc = .ok (.imul, nx - pc)) (hx : nx = pc + 1) (hr : qgo (run sc n) (s_imul k nx ls st h) h = some (r, h')) : qGoal sc k pc ls st h r h' := by
  subst hx
  rw [Nat.add_sub_cancel_left] at hd
  unfold s_imul at hr
  split at hr
  next y x st => exact q_pure (S _ _ _ _ _ _ _ hr) fun p l e R s m args below meth c dC dI CA base b n0 H locs cells slots Q lsA hF hP hS hl hcl hsl K => lv_imul hF.1 hF.2.1 hd (K lsA hl)
  next => simp [qgo] at hr
theorem o_iand {sc : Nat × (Nat → Int32)} {n k pc nx r1 r2 : Nat} {ls : qL} {st : List Value} {h h' : qH} {r : Option Value} (S : qSound sc n) (hd : decode (qcode k) pc = .ok (.iand, nx - pc)) (hx : nx = pc + 1) (hr : qgo (run sc n) (s_iand k nx ls st h) h = some (r, h')) : qGoal sc k pc ls st h r h' := by
  subst hx
  rw [Nat.add_sub_cancel_left] at hd
  unfold s_iand at hr
  split at hr
  next y x st => exact q_pure (S _ _ _ _ _ _ _ hr) fun p l e R s m args below meth c dC dI CA base b n0 H locs cells slots Q lsA hF hP hS hl hcl hsl K => lv_iand hF.1 hF.2.1 hd (K lsA hl)
  next => simp [qgo] at hr
theorem o_ior {sc : Nat × (Nat → Int32)} {n k pc nx r1 r2 : Nat} {ls : qL} {st : List Value} {h h' : qH} {r : Option Value} (S : qSound sc n) (hd : decode (qcode k) pc = .ok (.ior, nx - pc)) (hx : nx = pc + 1) (hr : qgo (run sc n) (s_ior k nx ls st h) h = some (r, h')) : qGoal sc k pc ls st h r h' := by
  subst hx
  rw [Nat.add_sub_cancel_left] at hd
  unfold s_ior at hr
  split at hr
  next y x st => exact q_pure (S _ _ _ _ _ _ _ hr) fun p l e R s m args below meth c dC dI CA base b n0 H locs cells slots Q lsA hF hP hS hl hcl hsl K => lv_ior hF.1 hF.2.1 hd (K lsA hl)
  next => simp [qgo] at hr
theorem o_ixor {sc : Nat × (Nat → Int32)} {n k pc nx r1 r2 : Nat} {ls : qL} {st : List Value} {h h' : qH} {r : Option Value} (S : qSound sc n) (hd : decode (qcode k) pc = .ok (.ixor, nx - pc)) (hx : nx = pc + 1) (hr : qgo (run sc n) (s_ixor k nx ls st h) h = some (r, h')) : qGoal sc k pc ls st h r h' := by
  subst hx
  rw [Nat.add_sub_cancel_left] at hd
  unfold s_ixor at hr
  split at hr
  next y x st => exact q_pure (S _ _ _ _ _ _ _ hr) fun p l e R s m args below meth c dC dI CA base b n0 H locs cells slots Q lsA hF hP hS hl hcl hsl K => lv_ixor hF.1 hF.2.1 hd (K lsA hl)
  next => simp [qgo] at hr
theorem o_ladd {sc : Nat × (Nat → Int32)} {n k pc nx r1 r2 : Nat} {ls : qL} {st : List Value} {h h' : qH} {r : Option Value} (S : qSound sc n) (hd : decode (qcode k) pc = .ok (.ladd, nx - pc)) (hx : nx = pc + 1) (hr : qgo (run sc n) (s_ladd k nx ls st h) h = some (r, h')) : qGoal sc k pc ls st h r h' := by
  subst hx
  rw [Nat.add_sub_cancel_left] at hd
  unfold s_ladd at hr
  split at hr
  next y x st => exact q_pure (S _ _ _ _ _ _ _ hr) fun p l e R s m args below meth c dC dI CA base b n0 H locs cells slots Q lsA hF hP hS hl hcl hsl K => lv_ladd hF.1 hF.2.1 hd (K lsA hl)
  next => simp [qgo] at hr
theorem o_lsub {sc : Nat × (Nat → Int32)} {n k pc nx r1 r2 : Nat} {ls : qL} {st : List Value} {h h' : qH} {r : Option Value} (S : qSound sc n) (hd : decode (qcode k) pc = .ok (.lsub, nx - pc)) (hx : nx = pc + 1) (hr : qgo (run sc n) (s_lsub k nx ls st h) h = some (r, h')) : qGoal sc k pc ls st h r h' := by
  subst hx
  rw [Nat.add_sub_cancel_left] at hd
  unfold s_lsub at hr
  split at hr
  next y x st => exact q_pure (S _ _ _ _ _ _ _ hr) fun p l e R s m args below meth c dC dI CA base b n0 H locs cells slots Q lsA hF hP hS hl hcl hsl K => lv_lsub hF.1 hF.2.1 hd (K lsA hl)
  next => simp [qgo] at hr
theorem o_land {sc : Nat × (Nat → Int32)} {n k pc nx r1 r2 : Nat} {ls : qL} {st : List Value} {h h' : qH} {r : Option Value} (S : qSound sc n) (hd : decode (qcode k) pc = .ok (.land, nx - pc)) (hx : nx = pc + 1) (hr : qgo (run sc n) (s_land k nx ls st h) h = some (r, h')) : qGoal sc k pc ls st h r h' := by
  subst hx
  rw [Nat.add_sub_cancel_left] at hd
  unfold s_land at hr
  split at hr
  next y x st => exact q_pure (S _ _ _ _ _ _ _ hr) fun p l e R s m args below meth c dC dI CA base b n0 H locs cells slots Q lsA hF hP hS hl hcl hsl K => lv_land hF.1 hF.2.1 hd (K lsA hl)
  next => simp [qgo] at hr
theorem o_lor {sc : Nat × (Nat → Int32)} {n k pc nx r1 r2 : Nat} {ls : qL} {st : List Value} {h h' : qH} {r : Option Value} (S : qSound sc n) (hd : decode (qcode k) pc = .ok (.lor, nx - pc)) (hx : nx = pc + 1) (hr : qgo (run sc n) (s_lor k nx ls st h) h = some (r, h')) : qGoal sc k pc ls st h r h' := by
  subst hx
  rw [Nat.add_sub_cancel_left] at hd
  unfold s_lor at hr
  split at hr
  next y x st => exact q_pure (S _ _ _ _ _ _ _ hr) fun p l e R s m args below meth c dC dI CA base b n0 H locs cells slots Q lsA hF hP hS hl hcl hsl K => lv_lor hF.1 hF.2.1 hd (K lsA hl)
  next => simp [qgo] at hr
theorem o_lxor {sc : Nat × (Nat → Int32)} {n k pc nx r1 r2 : Nat} {ls : qL} {st : List Value} {h h' : qH} {r : Option Value} (S : qSound sc n) (hd : decode (qcode k) pc = .ok (.lxor, nx - pc)) (hx : nx = pc + 1) (hr : qgo (run sc n) (s_lxor k nx ls st h) h = some (r, h')) : qGoal sc k pc ls st h r h' := by
  subst hx
  rw [Nat.add_sub_cancel_left] at hd
  unfold s_lxor at hr
  split at hr
  next y x st => exact q_pure (S _ _ _ _ _ _ _ hr) fun p l e R s m args below meth c dC dI CA base b n0 H locs cells slots Q lsA hF hP hS hl hcl hsl K => lv_lxor hF.1 hF.2.1 hd (K lsA hl)
  next => simp [qgo] at hr
theorem o_lshl {sc : Nat × (Nat → Int32)} {n k pc nx r1 r2 : Nat} {ls : qL} {st : List Value} {h h' : qH} {r : Option Value} (S : qSound sc n) (hd : decode (qcode k) pc = .ok (.lshl, nx - pc)) (hx : nx = pc + 1) (hr : qgo (run sc n) (s_lshl k nx ls st h) h = some (r, h')) : qGoal sc k pc ls st h r h' := by
  subst hx
  rw [Nat.add_sub_cancel_left] at hd
  unfold s_lshl at hr
  split at hr
  next y x st => exact q_pure (S _ _ _ _ _ _ _ hr) fun p l e R s m args below meth c dC dI CA base b n0 H locs cells slots Q lsA hF hP hS hl hcl hsl K => lv_lshl hF.1 hF.2.1 hd rfl (K lsA hl)
  next => simp [qgo] at hr
theorem o_lshr {sc : Nat × (Nat → Int32)} {n k pc nx r1 r2 : Nat} {ls : qL} {st : List Value} {h h' : qH} {r : Option Value} (S : qSound sc n) (hd : decode (qcode k) pc = .ok (.lshr, nx - pc)) (hx : nx = pc + 1) (hr : qgo (run sc n) (s_lshr k nx ls st h) h = some (r, h')) : qGoal sc k pc ls st h r h' := by
  subst hx
  rw [Nat.add_sub_cancel_left] at hd
  unfold s_lshr at hr
  split at hr
  next y x st => exact q_pure (S _ _ _ _ _ _ _ hr) fun p l e R s m args below meth c dC dI CA base b n0 H locs cells slots Q lsA hF hP hS hl hcl hsl K => lv_lshr hF.1 hF.2.1 hd rfl (K lsA hl)
  next => simp [qgo] at hr
theorem o_lushr {sc : Nat × (Nat → Int32)} {n k pc nx r1 r2 : Nat} {ls : qL} {st : List Value} {h h' : qH} {r : Option Value} (S : qSound sc n) (hd : decode (qcode k) pc = .ok (.lushr, nx - pc)) (hx : nx = pc + 1) (hr : qgo (run sc n) (s_lushr k nx ls st h) h = some (r, h')) : qGoal sc k pc ls st h r h' := by
  subst hx
  rw [Nat.add_sub_cancel_left] at hd
  unfold s_lushr at hr
  split at hr
  next y x st => exact q_pure (S _ _ _ _ _ _ _ hr) fun p l e R s m args below meth c dC dI CA base b n0 H locs cells slots Q lsA hF hP hS hl hcl hsl K => lv_lushr hF.1 hF.2.1 hd rfl (K lsA hl)
  next => simp [qgo] at hr
theorem o_lcmp {sc : Nat × (Nat → Int32)} {n k pc nx r1 r2 : Nat} {ls : qL} {st : List Value} {h h' : qH} {r : Option Value} (S : qSound sc n) (hd : decode (qcode k) pc = .ok (.lcmp, nx - pc)) (hx : nx = pc + 1) (hr : qgo (run sc n) (s_lcmp k nx ls st h) h = some (r, h')) : qGoal sc k pc ls st h r h' := by
  subst hx
  rw [Nat.add_sub_cancel_left] at hd
  unfold s_lcmp at hr
  split at hr
  next y x st => exact q_pure (S _ _ _ _ _ _ _ hr) fun p l e R s m args below meth c dC dI CA base b n0 H locs cells slots Q lsA hF hP hS hl hcl hsl K => W.lcmp hF.1 hF.2.1 hd (K lsA hl)
  next => simp [qgo] at hr
theorem o_ineg {sc : Nat × (Nat → Int32)} {n k pc nx r1 r2 : Nat} {ls : qL} {st : List Value} {h h' : qH} {r : Option Value} (S : qSound sc n) (hd : decode (qcode k) pc = .ok (.ineg, nx - pc)) (hx : nx = pc + 1) (hr : qgo (run sc n) (s_ineg k nx ls st h) h = some (r, h')) : qGoal sc k pc ls st h r h' := by
  subst hx
  rw [Nat.add_sub_cancel_left] at hd
  unfold s_ineg at hr
  split at hr
  next x st => exact q_pure (S _ _ _ _ _ _ _ hr) fun p l e R s m args below meth c dC dI CA base b n0 H locs cells slots Q lsA hF hP hS hl hcl hsl K => lv_ineg hF.1 hF.2.1 hd (K lsA hl)
  next => simp [qgo] at hr
theorem o_i2l {sc : Nat × (Nat → Int32)} {n k pc nx r1 r2 : Nat} {ls : qL} {st : List Value} {h h' : qH} {r : Option Value} (S : qSound sc n) (hd : decode (qcode k) pc = .ok (.i2l, nx - pc)) (hx : nx = pc + 1) (hr : qgo (run sc n) (s_i2l k nx ls st h) h = some (r, h')) : qGoal sc k pc ls st h r h' := by
  subst hx
  rw [Nat.add_sub_cancel_left] at hd
  unfold s_i2l at hr
  split at hr
  next x st => exact q_pure (S _ _ _ _ _ _ _ hr) fun p l e R s m args below meth c dC dI CA base b n0 H locs cells slots Q lsA hF hP hS hl hcl hsl K => lv_i2l hF.1 hF.2.1 hd rfl (K lsA hl)
  next => simp [qgo] at hr
theorem o_l2i {sc : Nat × (Nat → Int32)} {n k pc nx r1 r2 : Nat} {ls : qL} {st : List Value} {h h' : qH} {r : Option Value} (S : qSound sc n) (hd : decode (qcode k) pc = .ok (.l2i, nx - pc)) (hx : nx = pc + 1) (hr : qgo (run sc n) (s_l2i k nx ls st h) h = some (r, h')) : qGoal sc k pc ls st h r h' := by
  subst hx
  rw [Nat.add_sub_cancel_left] at hd
  unfold s_l2i at hr
  split at hr
  next x st => exact q_pure (S _ _ _ _ _ _ _ hr) fun p l e R s m args below meth c dC dI CA base b n0 H locs cells slots Q lsA hF hP hS hl hcl hsl K => lv_l2i hF.1 hF.2.1 hd rfl (K lsA hl)
  next => simp [qgo] at hr
theorem o_i2b {sc : Nat × (Nat → Int32)} {n k pc nx r1 r2 : Nat} {ls : qL} {st : List Value} {h h' : qH} {r : Option Value} (S : qSound sc n) (hd : decode (qcode k) pc = .ok (.i2b, nx - pc)) (hx : nx = pc + 1) (hr : qgo (run sc n) (s_i2b k nx ls st h) h = some (r, h')) : qGoal sc k pc ls st h r h' := by
  subst hx
  rw [Nat.add_sub_cancel_left] at hd
  unfold s_i2b at hr
  split at hr
  next x st => exact q_pure (S _ _ _ _ _ _ _ hr) fun p l e R s m args below meth c dC dI CA base b n0 H locs cells slots Q lsA hF hP hS hl hcl hsl K => lv_i2b hF.1 hF.2.1 hd rfl (K lsA hl)
  next => simp [qgo] at hr
theorem o_irem {sc : Nat × (Nat → Int32)} {n k pc nx r1 r2 : Nat} {ls : qL} {st : List Value} {h h' : qH} {r : Option Value} (S : qSound sc n) (hd : decode (qcode k) pc = .ok (.irem, nx - pc)) (hx : nx = pc + 1) (hr : qgo (run sc n) (s_irem k nx ls st h) h = some (r, h')) : qGoal sc k pc ls st h r h' := by
  subst hx
  rw [Nat.add_sub_cancel_left] at hd
  unfold s_irem at hr
  split at hr
  next y x st =>
    by_cases hy : y = 0
    · simp [qgo, qG, hy] at hr
    · rw [decide_eq_false hy] at hr
      exact q_pure (S _ _ _ _ _ _ _ hr) fun p l e R s m args below meth c dC dI CA base b n0 H locs cells slots Q lsA hF hP hS hl hcl hsl K => lv_irem hF.1 hF.2.1 hd hy (K lsA hl)
  next => simp [qgo] at hr
theorem o_dup {sc : Nat × (Nat → Int32)} {n k pc nx r1 r2 : Nat} {ls : qL} {st : List Value} {h h' : qH} {r : Option Value} (S : qSound sc n) (hd : decode (qcode k) pc = .ok (.dup, nx - pc)) (hx : nx = pc + 1) (hr : qgo (run sc n) (s_dup k nx ls st h) h = some (r, h')) : qGoal sc k pc ls st h r h' := by
  subst hx
  rw [Nat.add_sub_cancel_left] at hd
  unfold s_dup at hr
  split at hr
  next v st =>
    cases hv : qlong v with
    | true => rw [hv] at hr; simp [qgo] at hr
    | false => rw [hv] at hr; exact q_pure (S _ _ _ _ _ _ _ hr) fun p l e R s m args below meth c dC dI CA base b n0 H locs cells slots Q lsA hF hP hS hl hcl hsl K => lv_dup hF.1 hF.2.1 hd (qv_cat1 hv) (K lsA hl)
  next => simp [qgo] at hr
theorem o_dup2 {sc : Nat × (Nat → Int32)} {n k pc nx r1 r2 : Nat} {ls : qL} {st : List Value} {h h' : qH} {r : Option Value} (S : qSound sc n) (hd : decode (qcode k) pc = .ok (.dup2, nx - pc)) (hx : nx = pc + 1) (hr : qgo (run sc n) (s_dup2 k nx ls st h) h = some (r, h')) : qGoal sc k pc ls st h r h' := by
  subst hx
  rw [Nat.add_sub_cancel_left] at hd
  unfold s_dup2 at hr
  split at hr
  next v w st =>
    cases hv : qlong v with
    | true => rw [hv] at hr; simp [qgo] at hr
    | false =>
      cases hw : qlong w with
      | true => rw [hv, hw] at hr; simp [qgo] at hr
      | false => rw [hv, hw] at hr; exact q_pure (S _ _ _ _ _ _ _ hr) fun p l e R s m args below meth c dC dI CA base b n0 H locs cells slots Q lsA hF hP hS hl hcl hsl K => lv_dup2_11 hF.1 hF.2.1 hd (qv_cat1 hv) (qv_cat1 hw) (K lsA hl)
  next => simp [qgo] at hr
theorem o_goto {sc : Nat × (Nat → Int32)} {n k pc nx r1 r2 : Nat} {ls : qL} {st : List Value} {h h' : qH} {r : Option Value} {f : Int} (ht : (pc : Int) + f = (r1 : Int)) (S : qSound sc n) (hd : decode (qcode k) pc = .ok (.goto f, nx - pc)) (hx : nx = pc + 3) (hr : qgo (run sc n) (s_goto k r1 ls st h) h = some (r, h')) : qGoal sc k pc ls st h r h' := by
  subst hx
  rw [Nat.add_sub_cancel_left] at hd
  exact q_pure (S _ _ _ _ _ _ _ hr) fun p l e R s m args below meth c dC dI CA base b n0 H locs cells slots Q lsA hF hP hS hl hcl hsl K => lv_goto hF.1 hF.2.1 hd ht (K lsA hl)
theorem o_if_eq {sc : Nat × (Nat → Int32)} {n k pc nx r1 r2 : Nat} {ls : qL} {st : List Value} {h h' : qH} {r : Option Value} {f : Int} (ht : (pc : Int) + f = (r1 : Int)) (S : qSound sc n) (hd : decode (qcode k) pc = .ok (.ifCond .eq f, nx - pc)) (hx : nx = pc + 3) (hr : qgo (run sc n) (s_if k nx r1 ls st h .eq) h = some (r, h')) : qGoal sc k pc ls st h r h' := by
  subst hx
  rw [Nat.add_sub_cancel_left] at hd
  unfold s_if at hr
  split at hr
  next x st =>
    cases hc : qcc1 .eq x with
    | true =>
      rw [hc] at hr
      have hP9 : x = 0 := by simpa [qcc1] using hc
      exact q_pure (S _ _ _ _ _ _ _ hr) fun p l e R s m args below meth c dC dI CA base b n0 H locs cells slots Q lsA hF hP hS hl hcl hsl K => lv_if_eq hF.1 hF.2.1 hd ht (fun _ => K lsA hl) (fun z => absurd hP9 z)
    | false =>
      rw [hc] at hr
      have hP9 : ¬ (x = 0) := of_decide_eq_false (show decide (x = 0) = false from hc)
      exact q_pure (S _ _ _ _ _ _ _ hr) fun p l e R s m args below meth c dC dI CA base b n0 H locs cells slots Q lsA hF hP hS hl hcl hsl K => lv_if_eq hF.1 hF.2.1 hd ht (fun z => absurd z hP9) (fun _ => K lsA hl)
  next => simp [qgo] at hr
theorem o_icmp_eq {sc : Nat × (Nat → Int32)} {n k pc nx r1 r2 : Nat} {ls : qL} {st : List Value} {h h' : qH} {r : Option Value} {f : Int} (ht : (pc : Int) + f = (r1 : Int)) (S : qSound sc n) (hd : decode (qcode k) pc = .ok (.if_icmp .eq f, nx - pc)) (hx : nx = pc + 3) (hr : qgo (run sc n) (s_icmp k nx r1 ls st h .eq) h = some (r, h')) : qGoal sc k pc ls st h r h' := by
  subst hx
  rw [Nat.add_sub_cancel_left] at hd
  unfold s_icmp at hr
  split at hr
  next y x st =>
    cases hc : qcc2 .eq x y with
    | true =>
      rw [hc] at hr
      have hP9 : x = y := by simpa [qcc2] using hc
      exact q_pure (S _ _ _ _ _ _ _ hr) fun p l e R s m args below meth c dC dI CA base b n0 H locs cells slots Q lsA hF hP hS hl hcl hsl K => lv_icmp_eq hF.1 hF.2.1 hd ht (fun _ => K lsA hl) (fun z => absurd hP9 z)
    | false =>
      rw [hc] at hr
      have hP9 : ¬ (x = y) := of_decide_eq_false (show decide (x = y) = false from hc)
      exact q_pure (S _ _ _ _ _ _ _ hr) fun p l e R s m args below meth c dC dI CA base b n0 H locs cells slots Q lsA hF hP hS hl hcl hsl K => lv_icmp_eq hF.1 hF.2.1 hd ht (fun z => absurd z hP9) (fun _ => K lsA hl)
  next => simp [qgo] at hr
theorem o_if_ne {sc : Nat × (Nat → Int32)} {n k pc nx r1 r2 : Nat} {ls : qL} {st : List Value} {h h' : qH} {r : Option Value} {f : Int} (ht : (pc : Int) + f = (r1 : Int)) (S : qSound sc n) (hd : decode (qcode k) pc = .ok (.ifCond .ne f, nx - pc)) (hx : nx = pc + 3) (hr : qgo (run sc n) (s_if k nx r1 ls st h .ne) h = some (r, h')) : qGoal sc k pc ls st h r h' := by
  subst hx
  rw [Nat.add_sub_cancel_left] at hd
  unfold s_if at hr
  split at hr
  next x st =>
    cases hc : qcc1 .ne x with
    | true =>
      rw [hc] at hr
      have hP9 : ¬ x = 0 := by simpa [qcc1] using hc
      exact q_pure (S _ _ _ _ _ _ _ hr) fun p l e R s m args below meth c dC dI CA base b n0 H locs cells slots Q lsA hF hP hS hl hcl hsl K => lv_if_ne hF.1 hF.2.1 hd ht (fun _ => K lsA hl) (fun z => absurd z hP9)
    | false =>
      rw [hc] at hr
      have hP9 : x = 0 := by simpa [qcc1] using hc
      exact q_pure (S _ _ _ _ _ _ _ hr) fun p l e R s m args below meth c dC dI CA base b n0 H locs cells slots Q lsA hF hP hS hl hcl hsl K => lv_if_ne hF.1 hF.2.1 hd ht (fun z => absurd hP9 z) (fun _ => K lsA hl)
  next => simp [qgo] at hr
theorem o_icmp_ne {sc : Nat × (Nat → Int32)} {n k pc nx r1 r2 : Nat} {ls : qL} {st : List Value} {h h' : qH} {r : Option Value} {f : Int} (ht : (pc : Int) + f = (r1 : Int)) (S : qSound sc n) (hd : decode (qcode k) pc = .ok (.if_icmp .ne f, nx - pc)) (hx : nx = pc + 3) (hr : qgo (run sc n) (s_icmp k nx r1 ls st h .ne) h = some (r, h')) : qGoal sc k pc ls st h r h' := by
  subst hx
  rw [Nat.add_sub_cancel_left] at hd
  unfold s_icmp at hr
  split at hr
  next y x st =>
    cases hc : qcc2 .ne x y with
    | true =>
      rw [hc] at hr
      have hP9 : ¬ x = y := by simpa [qcc2] using hc
      exact q_pure (S _ _ _ _ _ _ _ hr) fun p l e R s m args below meth c dC dI CA base b n0 H locs cells slots Q lsA hF hP hS hl hcl hsl K => lv_icmp_ne hF.1 hF.2.1 hd ht (fun _ => K lsA hl) (fun z => absurd z hP9)
    | false =>
      rw [hc] at hr
      have hP9 : x = y := by simpa [qcc2] using hc
      exact q_pure (S _ _ _ _ _ _ _ hr) fun p l e R s m args below meth c dC dI CA base b n0 H locs cells slots Q lsA hF hP hS hl hcl hsl K => lv_icmp_ne hF.1 hF.2.1 hd ht (fun z => absurd hP9 z) (fun _ => K lsA hl)
  next => simp [qgo] at hr
theorem o_if_lt {sc : Nat × (Nat → Int32)} {n k pc nx r1 r2 : Nat} {ls : qL} {st : List Value} {h h' : qH} {r : Option Value} {f : Int} (ht : (pc : Int) + f = (r1 : Int)) (S : qSound sc n) (hd : decode (qcode k) pc = .ok (.ifCond .lt f, nx - pc)) (hx : nx = pc + 3) (hr : qgo (run sc n) (s_if k nx r1 ls st h .lt) h = some (r, h')) : qGoal sc k pc ls st h r h' := by
  subst hx
  rw [Nat.add_sub_cancel_left] at hd
  unfold s_if at hr
  split at hr
  next x st =>
    cases hc : qcc1 .lt x with
    | true =>
      rw [hc] at hr
      have hP9 : x < 0 := by simpa [qcc1] using hc
      exact q_pure (S _ _ _ _ _ _ _ hr) fun p l e R s m args below meth c dC dI CA base b n0 H locs cells slots Q lsA hF hP hS hl hcl hsl K => lv_if_lt hF.1 hF.2.1 hd ht (fun _ => K lsA hl) (fun z => absurd hP9 z)
    | false =>
      rw [hc] at hr
      have hP9 : ¬ (x < 0) := of_decide_eq_false (show decide (x < 0) = false from hc)
      exact q_pure (S _ _ _ _ _ _ _ hr) fun p l e R s m args below meth c dC dI CA base b n0 H locs cells slots Q lsA hF hP hS hl hcl hsl K => lv_if_lt hF.1 hF.2.1 hd ht (fun z => absurd z hP9) (fun _ => K lsA hl)
  next => simp [qgo] at hr
theorem o_icmp_lt {sc : Nat × (Nat → Int32)} {n k pc nx r1 r2 : Nat} {ls : qL} {st : List Value} {h h' : qH} {r : Option Value} {f : Int} (ht : (pc : Int) + f = (r1 : Int)) (S : qSound sc n) (hd : decode (qcode k) pc = .ok (.if_icmp .lt f, nx - pc)) (hx : nx = pc + 3) (hr : qgo (run sc n) (s_icmp k nx r1 ls st h .lt) h = some (r, h')) : qGoal sc k pc ls st h r h' := by
  subst hx
  rw [Nat.add_sub_cancel_left] at hd
  unfold s_icmp at hr
  split at hr
  next y x st =>
    cases hc : qcc2 .lt x y with
    | true =>
      rw [hc] at hr
      have hP9 : x < y := by simpa [qcc2] using hc
      exact q_pure (S _ _ _ _ _ _ _ hr) fun p l e R s m args below meth c dC dI CA base b n0 H locs cells slots Q lsA hF hP hS hl hcl hsl K => lv_icmp_lt hF.1 hF.2.1 hd ht (fun _ => K lsA hl) (fun z => absurd hP9 z)
    | false =>
      rw [hc] at hr
      have hP9 : ¬ (x < y) := of_decide_eq_false (show decide (x < y) = false from hc)
      exact q_pure (S _ _ _ _ _ _ _ hr) fun p l e R s m args below meth c dC dI CA base b n0 H locs cells slots Q lsA hF hP hS hl hcl hsl K => lv_icmp_lt hF.1 hF.2.1 hd ht (fun z => absurd z hP9) (fun _ => K lsA hl)
  next => simp [qgo] at hr
theorem o_if_ge {sc : Nat × (Nat → Int32)} {n k pc nx r1 r2 : Nat} {ls : qL} {st : List Value} {h h' : qH} {r : Option Value} {f : Int} (ht : (pc : Int) + f = (r1 : Int)) (S : qSound sc n) (hd : decode (qcode k) pc = .ok (.ifCond .ge f, nx - pc)) (hx : nx = pc + 3) (hr : qgo (run sc n) (s_if k nx r1 ls st h .ge) h = some (r, h')) : qGoal sc k pc ls st h r h' := by
  subst hx
  rw [Nat.add_sub_cancel_left] at hd
  unfold s_if at hr
  split at hr
  next x st =>
    cases hc : qcc1 .ge x with
    | true =>
      rw [hc] at hr
      have hP9 : 0 ≤ x := by simpa [qcc1] using hc
      exact q_pure (S _ _ _ _ _ _ _ hr) fun p l e R s m args below meth c dC dI CA base b n0 H locs cells slots Q lsA hF hP hS hl hcl hsl K => lv_if_ge hF.1 hF.2.1 hd ht (fun _ => K lsA hl) (fun z => absurd hP9 z)
    | false =>
      rw [hc] at hr
      have hP9 : ¬ (0 ≤ x) := of_decide_eq_false (show decide (0 ≤ x) = false from hc)
      exact q_pure (S _ _ _ _ _ _ _ hr) fun p l e R s m args below meth c dC dI CA base b n0 H locs cells slots Q lsA hF hP hS hl hcl hsl K => lv_if_ge hF.1 hF.2.1 hd ht (fun z => absurd z hP9) (fun _ => K lsA hl)
  next => simp [qgo] at hr
theorem o_icmp_ge {sc : Nat × (Nat → Int32)} {n k pc nx r1 r2 : Nat} {ls : qL} {st : List Value} {h h' : qH} {r : Option Value} {f : Int} (ht : (pc : Int) + f = (r1 : Int)) (S : qSound sc n) (hd : decode (qcode k) pc = .ok (.if_icmp .ge f, nx - pc)) (hx : nx = pc + 3) (hr : qgo (run sc n) (s_icmp k nx r1 ls st h .ge) h = some (r, h')) : qGoal sc k pc ls st h r h' := by
  subst hx
  rw [Nat.add_sub_cancel_left] at hd
  unfold s_icmp at hr
  split at hr
  next y x st =>
    cases hc : qcc2 .ge x y with
    | true =>
      rw [hc] at hr
      have hP9 : y ≤ x := by simpa [qcc2] using hc
      exact q_pure (S _ _ _ _ _ _ _ hr) fun p l e R s m args below meth c dC dI CA base b n0 H locs cells slots Q lsA hF hP hS hl hcl hsl K => lv_icmp_ge hF.1 hF.2.1 hd ht (fun _ => K lsA hl) (fun z => absurd hP9 z)
    | false =>
      rw [hc] at hr
      have hP9 : ¬ (y ≤ x) := of_decide_eq_false (show decide (y ≤ x) = false from hc)
      exact q_pure (S _ _ _ _ _ _ _ hr) fun p l e R s m args below meth c dC dI CA base b n0 H locs cells slots Q lsA hF hP hS hl hcl hsl K => lv_icmp_ge hF.1 hF.2.1 hd ht (fun z => absurd z hP9) (fun _ => K lsA hl)
  next => simp [qgo] at hr
theorem o_if_gt {sc : Nat × (Nat → Int32)} {n k pc nx r1 r2 : Nat} {ls : qL} {st : List Value} {h h' : qH} {r : Option Value} {f : Int} (ht : (pc : Int) + f = (r1 : Int)) (S : qSound sc n) (hd : decode (qcode k) pc = .ok (.ifCond .gt f, nx - pc)) (hx : nx = pc + 3) (hr : qgo (run sc n) (s_if k nx r1 ls st h .gt) h = some (r, h')) : qGoal sc k pc ls st h r h' := by
  subst hx
  rw [Nat.add_sub_cancel_left] at hd
  unfold s_if at hr
  split at hr
  next x st =>
    cases hc : qcc1 .gt x with
    | true =>
      rw [hc] at hr
      have hP9 : 0 < x := by simpa [qcc1] using hc
      exact q_pure (S _ _ _ _ _ _ _ hr) fun p l e R s m args below meth c dC dI CA base b n0 H locs cells slots Q lsA hF hP hS hl hcl hsl K => lv_if_gt hF.1 hF.2.1 hd ht (fun _ => K lsA hl) (fun z => absurd hP9 z)
    | false =>
      rw [hc] at hr
      have hP9 : ¬ (0 < x) := of_decide_eq_false (show decide (0 < x) = false from hc)
      exact q_pure (S _ _ _ _ _ _ _ hr) fun p l e R s m args below meth c dC dI CA base b n0 H locs cells slots Q lsA hF hP hS hl hcl hsl K => lv_if_gt hF.1 hF.2.1 hd ht (fun z => absurd z hP9) (fun _ => K lsA hl)
  next => simp [qgo] at hr
theorem o_icmp_gt {sc : Nat × (Nat → Int32)} {n k pc nx r1 r2 : Nat} {ls : qL} {st : List Value} {h h' : qH} {r : Option Value} {f : Int} (ht : (pc : Int) + f = (r1 : Int)) (S : qSound sc n) (hd : decode (qcode k) pc = .ok (.if_icmp .gt f, nx - pc)) (hx : nx = pc + 3) (hr : qgo (run sc n) (s_icmp k nx r1 ls st h .gt) h = some (r, h')) : qGoal sc k pc ls st h r h' := by
  subst hx
  rw [Nat.add_sub_cancel_left] at hd
  unfold s_icmp at hr
  split at hr
  next y x st =>
    cases hc : qcc2 .gt x y with
    | true =>
      rw [hc] at hr
      have hP9 : y < x := by simpa [qcc2] using hc
      exact q_pure (S _ _ _ _ _ _ _ hr) fun p l e R s m args below meth c dC dI CA base b n0 H locs cells slots Q lsA hF hP hS hl hcl hsl K => lv_icmp_gt hF.1 hF.2.1 hd ht (fun _ => K lsA hl) (fun z => absurd hP9 z)
    | false =>
      rw [hc] at hr
      have hP9 : ¬ (y < x) := of_decide_eq_false (show decide (y < x) = false from hc)
      exact q_pure (S _ _ _ _ _ _ _ hr) fun p l e R s m args below meth c dC dI CA base b n0 H locs cells slots Q lsA hF hP hS hl hcl hsl K => lv_icmp_gt hF.1 hF.2.1 hd ht (fun z => absurd z hP9) (fun _ => K lsA hl)
  next => simp [qgo] at hr
theorem o_if_le {sc : Nat × (Nat → Int32)} {n k pc nx r1 r2 : Nat} {ls : qL} {st : List Value} {h h' : qH} {r : Option Value} {f : Int} (ht : (pc : Int) + f = (r1 : Int)) (S : qSound sc n) (hd : decode (qcode k) pc = .ok (.ifCond .le f, nx - pc)) (hx : nx = pc + 3) (hr : qgo (run sc n) (s_if k nx r1 ls st h .le) h = some (r, h')) : qGoal sc k pc ls st h r h' := by
  subst hx
  rw [Nat.add_sub_cancel_left] at hd
  unfold s_if at hr
  split at hr
  next x st =>
    cases hc : qcc1 .le x with
    | true =>
      rw [hc] at hr
      have hP9 : x ≤ 0 := by simpa [qcc1] using hc
      exact q_pure (S _ _ _ _ _ _ _ hr) fun p l e R s m args below meth c dC dI CA base b n0 H locs cells slots Q lsA hF hP hS hl hcl hsl K => lv_if_le hF.1 hF.2.1 hd ht (fun _ => K lsA hl) (fun z => absurd hP9 z)
    | false =>
      rw [hc] at hr
      have hP9 : ¬ (x ≤ 0) := of_decide_eq_false (show decide (x ≤ 0) = false from hc)
      exact q_pure (S _ _ _ _ _ _ _ hr) fun p l e R s m args below meth c dC dI CA base b n0 H locs cells slots Q lsA hF hP hS hl hcl hsl K => lv_if_le hF.1 hF.2.1 hd ht (fun z => absurd z hP9) (fun _ => K lsA hl)
  next => simp [qgo] at hr
theorem o_icmp_le {sc : Nat × (Nat → Int32)} {n k pc nx r1 r2 : Nat} {ls : qL} {st : List Value} {h h' : qH} {r : Option Value} {f : Int} (ht : (pc : Int) + f = (r1 : Int)) (S : qSound sc n) (hd : decode (qcode k) pc = .ok (.if_icmp .le f, nx - pc)) (hx : nx = pc + 3) (hr : qgo (run sc n) (s_icmp k nx r1 ls st h .le) h = some (r, h')) : qGoal sc k pc ls st h r h' := by
  subst hx
  rw [Nat.add_sub_cancel_left] at hd
  unfold s_icmp at hr
  split at hr
  next y x st =>
    cases hc : qcc2 .le x y with
    | true =>
      rw [hc] at hr
      have hP9 : x ≤ y := by simpa [qcc2] using hc
      exact q_pure (S _ _ _ _ _ _ _ hr) fun p l e R s m args below meth c dC dI CA base b n0 H locs cells slots Q lsA hF hP hS hl hcl hsl K => lv_icmp_le hF.1 hF.2.1 hd ht (fun _ => K lsA hl) (fun z => absurd hP9 z)
    | false =>
      rw [hc] at hr
      have hP9 : ¬ (x ≤ y) := of_decide_eq_false (show decide (x ≤ y) = false from hc)
      exact q_pure (S _ _ _ _ _ _ _ hr) fun p l e R s m args below meth c dC dI CA base b n0 H locs cells slots Q lsA hF hP hS hl hcl hsl K => lv_icmp_le hF.1 hF.2.1 hd ht (fun z => absurd z hP9) (fun _ => K lsA hl)
  next => simp [qgo] at hr
theorem o_ifnull {sc : Nat × (Nat → Int32)} {n k pc nx r1 r2 : Nat} {ls : qL} {st : List Value} {h h' : qH} {r : Option Value} {f : Int} (ht : (pc : Int) + f = (r1 : Int)) (S : qSound sc n) (hd : decode (qcode k) pc = .ok (.ifnull f, nx - pc)) (hx : nx = pc + 3) (hr : qgo (run sc n) (s_ifnull k nx r1 ls st h) h = some (r, h')) : qGoal sc k pc ls st h r h' := by
  subst hx
  rw [Nat.add_sub_cancel_left] at hd
  unfold s_ifnull at hr
  split at hr
  next x st => exact q_pure (S _ _ _ _ _ _ _ hr) fun p l e R s m args below meth c dC dI CA base b n0 H locs cells slots Q lsA hF hP hS hl hcl hsl K => lv_ifnull hF.1 hF.2.1 hd (K lsA hl)
  next st => exact q_pure (S _ _ _ _ _ _ _ hr) fun p l e R s m args below meth c dC dI CA base b n0 H locs cells slots Q lsA hF hP hS hl hcl hsl K => lv_ifnullN hF.1 hF.2.1 hd ht (K lsA hl)
  next => simp [qgo] at hr
theorem o_ifnonnull {sc : Nat × (Nat → Int32)} {n k pc nx r1 r2 : Nat} {ls : qL} {st : List Value} {h h' : qH} {r : Option Value} {f : Int} (ht : (pc : Int) + f = (r1 : Int)) (S : qSound sc n) (hd : decode (qcode k) pc = .ok (.ifnonnull f, nx - pc)) (hx : nx = pc + 3) (hr : qgo (run sc n) (s_ifnonnull k nx r1 ls st h) h = some (r, h')) : qGoal sc k pc ls st h r h' := by
  subst hx
  rw [Nat.add_sub_cancel_left] at hd
  unfold s_ifnonnull at hr
  split at hr
  next x st => exact q_pure (S _ _ _ _ _ _ _ hr) fun p l e R s m args below meth c dC dI CA base b n0 H locs cells slots Q lsA hF hP hS hl hcl hsl K => lv_ifnonnull hF.1 hF.2.1 hd ht (K lsA hl)
  next st => exact q_pure (S _ _ _ _ _ _ _ hr) fun p l e R s m args below meth c dC dI CA base b n0 H locs cells slots Q lsA hF hP hS hl hcl hsl K => lv_ifnonnullN hF.1 hF.2.1 hd (K lsA hl)
  next => simp [qgo] at hr
theorem o_acmpne {sc : Nat × (Nat → Int32)} {n k pc nx r1 r2 : Nat} {ls : qL} {st : List Value} {h h' : qH} {r : Option Value} {f : Int} (ht : (pc : Int) + f = (r1 : Int)) (S : qSound sc n) (hd : decode (qcode k) pc = .ok (.if_acmp .ne f, nx - pc)) (hx : nx = pc + 3) (hr : qgo (run sc n) (s_acmpne k nx r1 ls st h) h = some (r, h')) : qGoal sc k pc ls st h r h' := by
  subst hx
  rw [Nat.add_sub_cancel_left] at hd
  unfold s_acmpne at hr
  split at hr
  next y x st =>
    cases hc : Nat.beq x y with
    | true =>
      rw [hc] at hr
      have hxy := Nat.eq_of_beq_eq_true hc
      exact q_pure (S _ _ _ _ _ _ _ hr) fun p l e R s m args below meth c dC dI CA base b n0 H locs cells slots Q lsA hF hP hS hl hcl hsl K => lv_acmp_ne (rx := some (base + x)) (ry := some (base + y)) hF.1 hF.2.1 hd ht (fun z => absurd (by rw [hxy]) z) (fun _ => K lsA hl)
    | false =>
      rw [hc] at hr
      have hxy := Nat.ne_of_beq_eq_false hc
      exact q_pure (S _ _ _ _ _ _ _ hr) fun p l e R s m args below meth c dC dI CA base b n0 H locs cells slots Q lsA hF hP hS hl hcl hsl K => lv_acmp_ne (rx := some (base + x)) (ry := some (base + y)) hF.1 hF.2.1 hd ht (fun _ => K lsA hl) (fun z => absurd (by have := Option.some.inj z; omega) hxy)
  next y st => exact q_pure (S _ _ _ _ _ _ _ hr) fun p l e R s m args below meth c dC dI CA base b n0 H locs cells slots Q lsA hF hP hS hl hcl hsl K => lv_acmp_ne (rx := none) (ry := some (base + y)) hF.1 hF.2.1 hd ht (fun _ => K lsA hl) (fun z => by cases z)
  next x st => exact q_pure (S _ _ _ _ _ _ _ hr) fun p l e R s m args below meth c dC dI CA base b n0 H locs cells slots Q lsA hF hP hS hl hcl hsl K => lv_acmp_ne (rx := some (base + x)) (ry := none) hF.1 hF.2.1 hd ht (fun _ => K lsA hl) (fun z => by cases z)
  next st => exact q_pure (S _ _ _ _ _ _ _ hr) fun p l e R s m args below meth c dC dI CA base b n0 H locs cells slots Q lsA hF hP hS hl hcl hsl K => lv_acmp_ne (rx := none) (ry := none) hF.1 hF.2.1 hd ht (fun z => absurd rfl z) (fun _ => K lsA hl)
  next => simp [qgo] at hr
