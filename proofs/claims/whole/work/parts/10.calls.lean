/-! Calls, and all instructions together. -/
theorem q_good (k : Nat) : GoodIn qtb (.code (qyn k) (qcode k) (qmaxL k) (qret k) :: qtb) ↔ .code (qyn k) (qcode k) (qmaxL k) (qret k) ∈ qtb := by
  constructor
  · intro h
    exact (h _ List.mem_cons_self).1
  · intro h w hw
    rcases List.mem_cons.mp hw with rfl | hw
    · exact ⟨h, good_of_word (List.mem_filter.mp h).2⟩
    · exact ⟨hw, good_of_word (List.mem_filter.mp hw).2⟩
theorem q_zn {x : Int32} (h : qbit x = true) : narrow .boolean (.int x) = .int x := by
  simp only [qbit, Bool.or_eq_true, decide_eq_true_eq] at h
  rcases h with rfl | rfl
  · exact (by decide +kernel : narrow .boolean (.int 0) = .int 0)
  · exact (by decide +kernel : narrow .boolean (.int 1) = .int 1)
set_option maxHeartbeats 1000000 in
/-- a method's contract over one picture: it returns what 'run' says -/
theorem q_met {sc : Nat × (Nat → Int32)} {n k : Nat} {as : List Value} {h h2 : qH} {v : Option Value} (S : qSound sc n) (hr : run sc n (k, 0, qargs 0 as, [], h) = some (v, h2)) (hk : k < m_L_law) (hlen : qcats as ≤ qmaxL k)
    (l : Launch) (dC : Nat → ClassId) (dI : Nat → Nat → Nat) (CA : Nat → ClassId) (base b : Nat) :
    Met l (qyn k) (.code (qyn k) (qcode k) (qmaxL k) (qret k) :: qtb) { frames := qnf k, cells := h2.length - h.length, slots := qss h2 - qss h, locals := qnl k } (qPc base b dC dI CA as h) (qQc base b dC dI CA v h2) (h2.length - h.length) (qss h2 - qss h) (fun q => base ≤ q) := by
  have hmf := qmfs_190 k hk
  obtain ⟨m1, m2, m3, m4, m5, m6⟩ := hmf
  refine Met.ofW (cc := qcode k) (maxL := qmaxL k) (ret := qret k) (by rw [m4]; exact (qown_ok _ m5).2.2) rfl ?_
  intro p e s m args below meth c s₁ B hml hv
  obtain ⟨rfl, hP, hK, hsz⟩ := hv
  have hts := atoms_spec (ws := .code (qyn k) (qcode k) (qmaxL k) (qret k) :: qtb) B.pre
  have hown : s.vm.findClass (qyn k).cls = some m.cls := findClass_of_methodNamed B.named
  have hlocks := B.notSynchronized
  have hrt := B.returns
  have hl := lv_entry (as.map (qv base b)) (n := qmaxL k) (by rw [q_sl]; exact hlen)
  rw [lg_entry_eq]
  rw [q_args] at hl
  have G := S _ _ _ _ _ _ _ hr
  have K := G.2 p l e { frames := qnf k, cells := h2.length - h.length, slots := qss h2 - qss h, locals := qnl k } s m (as.map (qv base b)).toArray below meth c dC dI CA base b h.length (qss h) (MQ below (qQc base b dC dI CA v h2) (as.map (qv base b)).toArray s (h2.length - h.length) (qss h2 - qss h) (fun q => base ≤ q))
    ⟨B.exec, B.bytes, hml, by rw [← m4]; exact hown, fun w hw => hts w (List.mem_cons_of_mem _ hw), hK, fun h2k => by
      rw [h2k] at m6
      rw [(name_of_methodNamed B.named B.method).1]
      exact m6.2.1, hsz, Nat.le_refl _, Nat.le_refl _, fun e9 => by unfold qLaw at e9; omega⟩
    (by
      intro pc i H locs lsA hd hret hP hS
      rcases hret with ⟨x, rfl, rfl, hx⟩ | ⟨x, rfl, rfl, hx⟩ | ⟨w, C, rfl, rfl, hw, hx⟩ | ⟨rfl, rfl, hx⟩
      · rcases hx with hx | ⟨hx, hbit⟩
        · exact W.zret (ty := .int) B.exec B.bytes (by rw [hrt, hx]) rfl (fun t ht hW => ⟨rfl, by rw [ht]; exact hP, hS.F ht⟩) hS.2.2 hd hlocks
        · exact W.zret (ty := .boolean) B.exec B.bytes (by rw [hrt, hx]) (q_zn hbit) (fun t ht hW => ⟨rfl, by rw [ht]; exact hP, hS.F ht⟩) hS.2.2 hd hlocks
      · exact W.lret B.exec B.bytes (by rw [hrt, hx]) (fun t ht hW => ⟨rfl, by rw [ht]; exact hP, hS.F ht⟩) hS.2.2 hd hlocks
      · refine W.aret (v := qv base b w) (rt := .object C) B.exec B.bytes (by rw [hrt, hx]) (Or.inl ⟨C, rfl⟩) ?_ (fun t ht hW => ⟨rfl, by rw [ht]; exact hP, hS.F ht⟩) hS.2.2 hd hlocks
        rcases hw with rfl | ⟨a, rfl⟩
        · exact Or.inl rfl
        · exact Or.inr ⟨base + a, rfl⟩
      · exact W.vret B.exec B.bytes (by rw [hrt, hx]) (fun t ht hW => ⟨rfl, by rw [ht]; exact hP, hS.F ht⟩) hS.2.2 hd hlocks)
    (Nat.le_refl _) (Nat.le_refl _) s.heap [] _ (Nat.le_refl _) (Nat.le_refl _) hP va_S.rf hl
  rw [Nat.sub_self, Nat.sub_self] at K
  exact K
/-- behind a call -/
theorem q_after {p : Program} {l : Launch} {e : Env} {R : Room} {s : State} {m : MethodId} {args : Array Value} {below : List Frame} {meth : Method} {c : Code} {H : Heap} {locs : List Loc} {cells slots mc ms : Nat} {Q : State → Prop} {base b : Nat} {dC : Nat → ClassId} {dI : Nat → Nat → Nat} {CA : Nat → ClassId} {v : Option Value} {h2 : qH} {pc : Nat} {lsA : Array Slot} {st0 rest : List Value} {a : Array Value}
    (hrun : va_Run p l e R s m args below meth c H locs cells slots mc ms (F0 m pc lsA st0) rest (qQc base b dC dI CA v h2 a) (fun q => base ≤ q)) (hS : va_S (fun q => base ≤ q) s.heap H locs)
    (kk : ∀ (H1 : Heap) (locs1 : List Loc), va_P (dC, dI) qcl (qw base b CA h2) H1 → va_S (fun q => base ≤ q) s.heap H1 locs1 → W p l e R s m args below meth c H1 locs1 (cells + mc) (slots + ms) Q (F0 m (pc + 3) lsA ((v.map (qv base b)).toList ++ rest))) : W p l e R s m args below meth c H locs cells slots Q (F0 m pc lsA st0) := by
  intro T hT X
  obtain ⟨v9, st₀, t, T', L, h0, X', hL, e1, e2, ⟨q1, q2, hz, hk⟩, st⟩ := hrun T hT X
  cases q1
  rw [h0] at hz hk
  obtain ⟨t2, a1, b1⟩ := kk T'.heap (locs ++ L) (by rw [e1]; exact q2)
    ⟨Nat.le_trans hS.1 (by rw [e1]; exact hz), fun q h1 h2 => by rw [e1, hk q (Nat.lt_of_lt_of_le h1 hS.1) h2]; exact hS.2.1 q h1 h2, fun q hq => by
      rcases List.mem_append.mp hq with h | h
      · exact hS.2.2 q h
      · exact hL q h⟩ T' rfl X'
  exact ⟨t2, st t2 a1, b1⟩
theorem q_spl : ∀ (n : Nat) (acc st as rest : List Value), qspl n acc st = some (as, rest) → ∃ xs : List Value, xs.length = n ∧ st = xs ++ rest ∧ as = xs.reverse ++ acc
  | 0, acc, st, as, rest, h => by
    cases h
    exact ⟨[], rfl, rfl, rfl⟩
  | n + 1, acc, [], as, rest, h => by cases h
  | n + 1, acc, v :: st, as, rest, h => by
    obtain ⟨xs, h1, h2, h3⟩ := q_spl n (v :: acc) st as rest h
    exact ⟨v :: xs, by simp [h1], by simp [h2], by simp [h3]⟩
theorem q_call {k nx r1 N : Nat} {ls : qL} {st : List Value} {h h' : qH} {r : Option Value} {sc : Nat × (Nat → Int32)} {n : Nat} (hr : qgo (run sc n) (s_call k nx r1 ls st h N) h = some (r, h')) :
    ∃ (as rest : List Value) (v : Option Value) (h2 : qH), as.length = N ∧ st = as.reverse ++ rest ∧ qspl N [] st = some (as, rest) ∧ qcats as ≤ qmaxL r1 ∧ qcats rest ≤ 8 ∧ run sc n (r1, 0, qargs 0 as, [], h) = some (v, h2) ∧ run sc n (k, nx, ls, v.toList ++ rest, h2) = some (r, h') := by
  unfold s_call at hr
  split at hr
  next as rest hq =>
    split at hr
    next hb =>
      simp only [Bool.and_eq_true, Nat.ble_eq] at hb
      obtain ⟨xs, h1, h2, h3⟩ := q_spl _ _ _ _ _ hq
      rw [List.append_nil] at h3
      have hr : (match run sc n (r1, 0, qargs 0 as, [], h) with
        | none => none
        | some (v, h2) => run sc n (k, nx, ls, v.toList ++ rest, h2)) = some (r, h') := hr
      cases hc : run sc n (r1, 0, qargs 0 as, [], h) with
      | none => rw [hc] at hr; cases hr
      | some q =>
        obtain ⟨v, h2⟩ := q
        rw [hc] at hr
        exact ⟨as, rest, v, h2, by rw [h3, List.length_reverse, h1], by rw [h3, List.reverse_reverse]; assumption, hq, hb.1, hb.2, hc, hr⟩
    next => simp [qgo] at hr
  next => simp [qgo] at hr
theorem q_need {k r1 : Nat} (h : qneed k r1 = true) : qnf r1 + 1 ≤ qnf k ∧ qnl r1 + (qmaxL r1 + 19) ≤ qnl k := by
  simpa only [qneed, Bool.and_eq_true, Nat.ble_eq] using h
/-- a call's frame: what is left to do is the call itself -/
theorem q_callG {sc : Nat × (Nat → Int32)} {n k pc r1 : Nat} {ls : qL} {st as rest : List Value} {v : Option Value} {h h2 h' : qH} {r : Option Value} (S : qSound sc n) (hr1 : run sc n (r1, 0, qargs 0 as, [], h) = some (v, h2)) (hr2 : run sc n (k, pc + 3, ls, v.toList ++ rest, h2) = some (r, h'))
    (f : ∀ (p : Program) (l : Launch) (e : Env) (R : Room) (s : State) (m : MethodId) (args : Array Value) (below : List Frame) (meth : Method) (c : Code) (dC : Nat → ClassId) (dI : Nat → Nat → Nat) (CA : Nat → ClassId) (base b n0 : Nat) (H : Heap) (locs : List Loc) (cells slots : Nat) (lsA : Array Slot),
      qFr sc k p R s m args meth c dC dI CA base b n0 → va_P (dC, dI) qcl (qw base b CA h) H → va_S (fun q => base ≤ q) s.heap H locs → lv_has lsA (qmaxL k) (qvl base b ls) → cells + (h2.length - h.length) ≤ R.cells → slots + (qss h2 - qss h) ≤ R.slots → H.size = base + h.length →
      ∃ a, va_Run p l e R s m args below meth c H locs cells slots (h2.length - h.length) (qss h2 - qss h) (F0 m pc lsA (st.map (qv base b))) (rest.map (qv base b)) (qQc base b dC dI CA v h2 a) (fun q => base ≤ q)) : qGoal sc k pc ls st h r h' := by
  obtain ⟨⟨a1, a2⟩, -⟩ := S _ _ _ _ _ _ _ hr1
  obtain ⟨⟨b1, b2⟩, b3⟩ := S _ _ _ _ _ _ _ hr2
  refine ⟨⟨by omega, by omega⟩, fun p l e R s m args below meth c dC dI CA base b n0 z0 Q hF hE hc hz H locs lsA hn hz0 hP hS hl => ?_⟩
  refine q_size hF.2.2.2.2.2.2.2.1 hn rfl hP hS fun hsz => ?_
  obtain ⟨a, hrun⟩ := f p l e R s m args below meth c dC dI CA base b n0 H locs (h.length - n0) (qss h - z0) lsA hF hP hS hl (by omega) (by omega) hsz
  refine q_after hrun hS fun H1 locs1 hP1 hS1 => ?_
  have K := b3 p l e R s m args below meth c dC dI CA base b n0 z0 Q hF hE hc hz H1 locs1 lsA (by omega) (by omega) hP1 hS1 hl
  rw [show h2.length - n0 = h.length - n0 + (h2.length - h.length) by omega, show qss h2 - z0 = qss h - z0 + (qss h2 - qss h) by omega, List.map_append] at K
  have e9 : v.toList.map (qv base b) = (v.map (qv base b)).toList := by cases v <;> rfl
  rw [e9] at K
  exact K
theorem q_callB {sc : Nat × (Nat → Int32)} {k r1 x : Nat} {p : Program} {R : Room} {s : State} {m : MethodId} {args : Array Value} {meth : Method} {c : Code} {dC : Nat → ClassId} {dI : Nat → Nat → Nat} {CA : Nat → ClassId} {base b n0 mc ms : Nat} (hF : qFr sc k p R s m args meth c dC dI CA base b n0) (hk : r1 < m_L_law) (hn : qneed k r1 = true)
    (hlink : .methodLink (qcn (qown k)) x (qyn r1) ∈ qtb) : CallB R s args (qcn (qown k)) x (qyn r1) (qcode r1) (qmaxL r1) (qret r1) (.code (qyn r1) (qcode r1) (qmaxL r1) (qret r1) :: qtb) { frames := qnf r1, cells := mc, slots := ms, locals := qnl r1 } mc ms (qnp r1) := by
  obtain ⟨m1, m2, m3, m4, m5, m6⟩ := qmfs_190 r1 hk
  obtain ⟨o1, o2, o3⟩ := qown_ok _ m5
  obtain ⟨n1, n2⟩ := q_need hn
  have f1 := hF.2.2.2.2.2.2.2.2.1
  have f2 := hF.2.2.2.2.2.2.2.2.2.1
  exact callB_of (qnp r1) hF.2.2.2.2.1 ((q_good r1).mpr m1) rfl rfl rfl (hF.2.2.2.2.1 _ m2) (hF.2.2.2.2.1 _ hlink) ⟨by rw [m4]; exact o1, by rw [m4]; exact o2, m3⟩ ⟨by show qnf r1 + 1 ≤ _; omega, by show 8 + (qmaxL r1 + 11) + qnl r1 ≤ _; omega⟩
theorem q_ml {k x r1 : Nat} (h : (qMLs.any fun q => Nat.beq q.1 (qown k) && (Nat.beq q.2.1 x && (Nat.beq q.2.2.1 r1 && Nat.beq q.2.2.2.1 0))) = true) : .methodLink (qcn (qown k)) x (qmnm r1) ∈ qtb := by
  obtain ⟨q, hq, hb⟩ := List.any_eq_true.mp h
  simp only [Bool.and_eq_true, Nat.beq_eq] at hb
  obtain ⟨e1, e2, e3, e4⟩ := hb
  have hw := qML_ok q hq
  unfold qMLp at hw
  rw [e1, e2, e3, e4] at hw
  rcases hw with ⟨-, hw⟩ | ⟨hw, -⟩
  · exact hw
  · cases hw
theorem q_mln {k x r1 : Nat} (h : (qMLs.any fun q => Nat.beq q.1 (qown k) && (Nat.beq q.2.1 x && Nat.beq q.2.2.1 r1)) = true) : .methodLink (qcn (qown k)) x (qmnm r1) ∈ qtb ∨ .methodLinkNest (qcn (qown k)) x (qmnm r1) "AbilityChecker" ∈ qnest := by
  obtain ⟨q, hq, hb⟩ := List.any_eq_true.mp h
  simp only [Bool.and_eq_true, Nat.beq_eq] at hb
  obtain ⟨e1, e2, e3⟩ := hb
  have hw := qML_ok q hq
  unfold qMLp at hw
  rw [e1, e2, e3] at hw
  rcases hw with ⟨-, hw⟩ | ⟨-, hw⟩
  · exact Or.inl hw
  · exact Or.inr hw
theorem q_mnm {r1 : Nat} (h : r1 < m_L_law) : qmnm r1 = qyn r1 := by
  unfold qmnm
  have h1 : Nat.beq r1 1000 = false := by rw [Bool.eq_false_iff]; intro z; have := Nat.eq_of_beq_eq_true z; have hL : m_L_law = 190 := rfl; omega
  have h2 : Nat.beq r1 1001 = false := by rw [Bool.eq_false_iff]; intro z; have := Nat.eq_of_beq_eq_true z; have hL : m_L_law = 190 := rfl; omega
  have h3 : Nat.beq r1 1002 = false := by rw [Bool.eq_false_iff]; intro z; have := Nat.eq_of_beq_eq_true z; have hL : m_L_law = 190 := rfl; omega
  rw [h1, h2, h3]
  rfl
theorem o_virtual {sc : Nat × (Nat → Int32)} {n k pc nx r1 x : Nat} {ls : qL} {st : List Value} {h h' : qH} {r : Option Value} (S : qSound sc n) (hd : decode (qcode k) pc = .ok (.invokevirtual x, nx - pc)) (hx : nx = pc + 3)
    (hq : (qMLs.any fun q => Nat.beq q.1 (qown k) && (Nat.beq q.2.1 x && (Nat.beq q.2.2.1 r1 && Nat.beq q.2.2.2.1 0))) = true) (hkd : Nat.beq (qkd r1) 1 = true) (hlt : r1 < m_L_law) (hn : qneed k r1 = true)
    (hr : qgo (run sc n) (s_virtual k nx r1 ls st h) h = some (r, h')) : qGoal sc k pc ls st h r h' := by
  subst hx
  rw [Nat.add_sub_cancel_left] at hd
  have hlink := q_ml hq
  rw [q_mnm hlt] at hlink
  obtain ⟨m1, m2, m3, m4, m5, m6⟩ := qmfs_190 r1 hlt
  rw [Nat.eq_of_beq_eq_true hkd] at m6
  obtain ⟨v1, v2, v3, v4⟩ := m6
  unfold s_virtual at hr
  split at hr
  next a as0 rest0 hsp =>
    split at hr
    next ci fs ha =>
      split at hr
      next hb =>
        have e := Nat.eq_of_beq_eq_true hb
        subst e
        obtain ⟨as, rest, v, h2, c1, c2, c3, c4, c5, c6, c7⟩ := q_call hr
        rw [hsp] at c3
        cases c3
        refine q_callG S c6 c7 fun p l e R s m args below meth c dC dI CA base b n0 H locs cells slots lsA hF hP hS hl hcl hsl hsz => ?_
        have hM := q_met S c6 hlt c4 l dC dI CA base b
        refine ⟨_, va_runV (As := as0.map (qv base b)) (b := base + a) (C := (qyn r1).cls) (Ts := qtb) ⟨hF.1, hF.2.1, hF.2.2.1, hF.2.2.2.1, hF.2.2.2.2.1⟩ hM ⟨q_callB hF hlt hn hlink, hF.2.2.2.2.1 _ v1, hF.2.2.2.2.1 _ v4⟩ ⟨qPc_blind, ?_, fun U hU hW => ⟨rfl, by rw [hU]; exact hP, qKK.moved hW hF.2.2.2.2.2.1, by rw [hU]; exact hsz⟩⟩ rfl (by rw [List.length_map]; simpa using c1) (hl.1.trans rfl) ?_ (lv_room (by rw [qcats_eq]; exact c5)) hd ⟨hcl, hsl⟩⟩
        · have := va_recv hF.2.2.2.2.2.1.1 hP (qcl_at (qck r1) v2) (qw_at ha)
          rw [v3]
          exact this
        · rw [c2]
          simp [qv]
      next => simp [qgo] at hr
    next => simp [qgo] at hr
  next => simp [qgo] at hr
theorem o_callS {sc : Nat × (Nat → Int32)} {n k pc nx r1 x : Nat} {ls : qL} {st : List Value} {h h' : qH} {r : Option Value} (S : qSound sc n) (hd : decode (qcode k) pc = .ok (.invokestatic x, nx - pc)) (hx : nx = pc + 3)
    (hlink : .methodLink (qcn (qown k)) x (qmnm r1) ∈ qtb) (hkd : Nat.beq (qkd r1) 0 = true) (hlt : r1 < m_L_law) (hn : qneed k r1 = true)
    (hr : qgo (run sc n) (s_call k nx r1 ls st h (qnp r1)) h = some (r, h')) : qGoal sc k pc ls st h r h' := by
  subst hx
  rw [Nat.add_sub_cancel_left] at hd
  rw [q_mnm hlt] at hlink
  obtain ⟨m1, m2, m3, m4, m5, m6⟩ := qmfs_190 r1 hlt
  rw [Nat.eq_of_beq_eq_true hkd] at m6
  obtain ⟨as, rest, v, h2, c1, c2, c3, c4, c5, c6, c7⟩ := q_call hr
  refine q_callG S c6 c7 fun p l e R s m args below meth c dC dI CA base b n0 H locs cells slots lsA hF hP hS hl hcl hsl hsz => ?_
  have hM := q_met S c6 hlt c4 l dC dI CA base b
  refine ⟨_, va_runS (As := as.map (qv base b)) (Ts := qtb) ⟨hF.1, hF.2.1, hF.2.2.1, hF.2.2.2.1, hF.2.2.2.2.1⟩ hM ⟨q_callB hF hlt hn hlink, hF.2.2.2.2.1 _ m6⟩ ⟨qPc_blind, fun U hU hW => ⟨rfl, by rw [hU]; exact hP, qKK.moved hW hF.2.2.2.2.2.1, by rw [hU]; exact hsz⟩⟩ rfl (by rw [List.length_map]; exact c1) (hl.1.trans rfl) ?_ (lv_room (by rw [qcats_eq]; exact c5)) hd ⟨hcl, hsl⟩⟩
  rw [c2]
  simp
theorem o_callI {sc : Nat × (Nat → Int32)} {n k pc nx r1 x : Nat} {ls : qL} {st : List Value} {h h' : qH} {r : Option Value} {a : Nat} {as0 rest0 : List Value} (S : qSound sc n) (hd : decode (qcode k) pc = .ok (.invokespecial x, nx - pc)) (hx : nx = pc + 3)
    (hlk : .methodLink (qcn (qown k)) x (qmnm r1) ∈ qtb ∨ .methodLinkNest (qcn (qown k)) x (qmnm r1) "AbilityChecker" ∈ qnest) (hkd : Nat.beq (qkd r1) 2 = true) (hlt : r1 < m_L_law) (hn : qneed k r1 = true) (hsp : qspl (qnp r1 + 1) [] st = some (.ref a :: as0, rest0))
    (hr : qgo (run sc n) (s_call k nx r1 ls st h (qnp r1 + 1)) h = some (r, h')) : qGoal sc k pc ls st h r h' := by
  subst hx
  rw [Nat.add_sub_cancel_left] at hd
  rw [q_mnm hlt] at hlk
  obtain ⟨m1, m2, m3, m4, m5, m6⟩ := qmfs_190 r1 hlt
  obtain ⟨o1, o2, o3⟩ := qown_ok _ m5
  obtain ⟨n1, n2⟩ := q_need hn
  rw [Nat.eq_of_beq_eq_true hkd] at m6
  obtain ⟨v1, v2, v3⟩ := m6
  obtain ⟨as, rest, v, h2, c1, c2, c3, c4, c5, c6, c7⟩ := q_call hr
  rw [hsp] at c3
  cases c3
  refine q_callG S c6 c7 fun p l e R s m args below meth c dC dI CA base b n0 H locs cells slots lsA hF hP hS hl hcl hsl hsz => ?_
  have hM := q_met S c6 hlt c4 l dC dI CA base b
  have f1 := hF.2.2.2.2.2.2.2.2.1
  have f2 := hF.2.2.2.2.2.2.2.2.2.1
  rw [v3] at hM
  rcases hlk with hlink | hlink
  · have hB := q_callB (mc := h2.length - h.length) (ms := qss h2 - qss h) hF hlt hn hlink
    rw [v3] at hB
    refine ⟨_, va_runI (As := as0.map (qv base b)) (b := base + a) (Ts := qtb) ⟨hF.1, hF.2.1, hF.2.2.1, hF.2.2.2.1, hF.2.2.2.2.1⟩ hM ⟨hB, v2, hF.2.2.2.2.1 _ v1⟩ ⟨qPc_blind, fun U hU hW => ⟨rfl, by rw [hU]; exact hP, qKK.moved hW hF.2.2.2.2.2.1, by rw [hU]; exact hsz⟩⟩ rfl (by rw [List.length_map]; simpa using c1) (hl.1.trans rfl) ?_ (lv_room (by rw [qcats_eq]; exact c5)) hd ⟨hcl, hsl⟩⟩
    rw [c2]
    simp [qv]
  · have hG := (q_good r1).mpr m1
    rw [v3] at hG
    refine ⟨_, va_runIN (host := "AbilityChecker") (As := as0.map (qv base b)) (b := base + a) (Ts := qtb) ⟨hF.1, hF.2.1, hF.2.2.1, hF.2.2.2.1, hF.2.2.2.2.1⟩ hM ⟨va_cnB (qnp r1) hF.2.2.2.2.1 hG rfl rfl rfl (hF.2.2.2.2.2.1.2.2.2 _ hlink) (hF.2.2.2.2.1 _ m2) ⟨by rw [m4]; exact o1, by rw [m4]; exact o2, m3⟩ ⟨by show qnf r1 + 1 ≤ _; omega, by show 8 + (qmaxL r1 + 11) + qnl r1 ≤ _; omega⟩, v2, hF.2.2.2.2.1 _ v1⟩ ⟨qPc_blind, fun U hU hW => ⟨rfl, by rw [hU]; exact hP, qKK.moved hW hF.2.2.2.2.2.1, by rw [hU]; exact hsz⟩⟩ rfl (by rw [List.length_map]; simpa using c1) (hl.1.trans rfl) ?_ (lv_room (by rw [qcats_eq]; exact c5)) hd ⟨hcl, hsl⟩⟩
    rw [c2]
    simp [qv]
theorem o_objinit {sc : Nat × (Nat → Int32)} {n k pc nx x : Nat} {ls : qL} {st : List Value} {h h' : qH} {r : Option Value} (S : qSound sc n) (hd : decode (qcode k) pc = .ok (.invokespecial x, nx - pc)) (hx : nx = pc + 3)
    (hlink : .methodLink (qcn (qown k)) x Lib.objectInit ∈ qtb) (hn1 : 1 ≤ qnf k) (hn2 : 12 ≤ qnl k)
    (hr : qgo (run sc n) (s_objinit k nx ls st h) h = some (r, h')) : qGoal sc k pc ls st h r h' := by
  subst hx
  rw [Nat.add_sub_cancel_left] at hd
  unfold s_objinit at hr
  split at hr
  next a =>
    refine q_pure (S _ _ _ _ _ _ _ hr) fun p l e R s m args below meth c dC dI CA base b n0 H locs cells slots Q lsA hF hP hS hl hcl hsl K => ?_
    have f1 := hF.2.2.2.2.2.2.2.2.1
    have f2 := hF.2.2.2.2.2.2.2.2.2.1
    exact W.objInit hF.1 hF.2.1 hF.2.2.2.1 (hF.2.2.2.2.1 _ hlink) (hF.2.2.2.2.1 _ qtw_oin) (hF.2.2.2.2.1 _ qtw_oco) (g := F0 m pc lsA [.ref (base + a)]) rfl (hl.1.trans hF.2.2.1.symm) rfl hd (by omega) (by show 2 * 0 + 0 + 12 ≤ _; omega) (K lsA hl)
  next => simp [qgo] at hr
theorem o_min {sc : Nat × (Nat → Int32)} {n k pc nx x : Nat} {ls : qL} {st : List Value} {h h' : qH} {r : Option Value} (S : qSound sc n) (hd : decode (qcode k) pc = .ok (.invokestatic x, nx - pc)) (hx : nx = pc + 3)
    (hlink : .methodLink (qcn (qown k)) x Lib.Math.min.name ∈ qtb) (hn1 : 1 ≤ qnf k) (hn2 : 21 ≤ qnl k)
    (hr : qgo (run sc n) (s_min k nx ls st h) h = some (r, h')) : qGoal sc k pc ls st h r h' := by
  subst hx
  rw [Nat.add_sub_cancel_left] at hd
  unfold s_min at hr
  split at hr
  next y z st =>
    split at hr
    next hb =>
      have hb := Nat.le_of_ble_eq_true hb
      refine q_pure (S _ _ _ _ _ _ _ hr) fun p l e R s m args below meth c dC dI CA base b n0 H locs cells slots Q lsA hF hP hS hl hcl hsl K => ?_
      have f1 := hF.2.2.2.2.2.2.2.2.1
      have f2 := hF.2.2.2.2.2.2.2.2.2.1
      exact va_mmin hF.1 hF.2.1 (hF.2.2.1.trans hl.1.symm) hF.2.2.2.1 (hF.2.2.2.2.1 _ hlink) (hF.2.2.2.2.1 _ qtw_mst) (hF.2.2.2.2.1 _ qtw_mat) (hF.2.2.2.2.1 _ qtw_mco) (by omega) (by rw [qcats_eq]; omega) hcl hsl hd (K lsA hl)
    next => simp [qgo] at hr
  next => simp [qgo] at hr
theorem o_copy {sc : Nat × (Nat → Int32)} {n k pc nx x : Nat} {ls : qL} {st : List Value} {h h' : qH} {r : Option Value} (S : qSound sc n) (hd : decode (qcode k) pc = .ok (.invokestatic x, nx - pc)) (hx : nx = pc + 3)
    (hlink : .methodLink (qcn (qown k)) x arraycopyName ∈ qtb) (hn1 : 1 ≤ qnf k) (hn2 : 60 ≤ qnl k)
    (hr : qgo (run sc n) (s_copy k nx ls st h) h = some (r, h')) : qGoal sc k pc ls st h r h' := by
  subst hx
  rw [Nat.add_sub_cancel_left] at hd
  unfold s_copy at hr
  split at hr
  next len dp d sp s0 st =>
    split at hr
    next n0 f n1 g hs0 hd0 hb =>
      have hb := Nat.le_of_ble_eq_true hb
      cases hg : (!decide (sp < 0) && !decide (dp < 0) && !decide (len < 0) && decide (sp.toNatClampNeg + len.toNatClampNeg ≤ n0) && decide (dp.toNatClampNeg + len.toNatClampNeg ≤ n1)) with
      | false => rw [hg] at hr; simp [qgo, qG] at hr
      | true =>
        rw [hg] at hr
        simp only [Bool.and_eq_true, Bool.not_eq_true', decide_eq_false_iff_not, decide_eq_true_eq] at hg
        obtain ⟨⟨⟨⟨g1, g2⟩, g3⟩, g4⟩, g5⟩ := hg
        refine q_store (c0 := .inl (1, n1, .inr (.inl g))) (c1 := .inl (1, n1, .inr (.inl (va_cpy f g sp.toNatClampNeg dp.toNatClampNeg len.toNatClampNeg)))) hd0 rfl (S _ _ _ _ _ _ _ hr) fun p l e R s m args below meth c dC dI CA base b n0 H locs cells slots Q lsA hF hP hS hl K => ?_
        have f1 := hF.2.2.2.2.2.2.2.2.1
        have f2 := hF.2.2.2.2.2.2.2.2.2.1
        have hnw : nativeFrameWords "java/lang/System" "arraycopy" 5 ≤ 7 := by decide +kernel
        exact va_copyl hF.1 hF.2.1 (hF.2.2.1.trans hl.1.symm) hF.2.2.2.1 (hF.2.2.2.2.1 _ hlink) (hF.2.2.2.2.1 _ qtw_nat) (hF.2.2.2.2.1 _ qtw_sta) (hF.2.2.2.2.1 _ qtw_sys) hF.2.2.2.2.2.1.1 hP qw_D hS s0 d 1 1 (ty := .long) (qw_at hs0) (qw_at hd0) rfl rfl rfl g1 g2 g3 g4 g5 (fun _ _ => rfl) (by omega) (by rw [qcats_eq]; omega) hd
          fun H1 locs1 hP1 _ hS1 => K H1 locs1 hP1 hS1
    next => simp [qgo] at hr
  next => simp [qgo] at hr
