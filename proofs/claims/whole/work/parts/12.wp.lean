/-! Reasoning about 'run': wp sc c Q: from c the small machine comes to an answer with Q. One row a kind of step. -/
theorem qgo_mono {f g : qK → Option (Option Value × qH)} (hfg : ∀ c x, f c = some x → g c = some x) (res : qR) (h : qH) (x : Option Value × qH) (hx : qgo f res h = some x) : qgo g res h = some x := by
  unfold qgo at hx ⊢
  split at hx
  · cases hx
  · exact hfg _ _ hx
  · split at hx
    · exact hfg _ _ hx
    · exact hfg _ _ hx
  · exact hx
  · split at hx
    · exact hfg _ _ hx
    · cases hx
  · split at hx
    · cases hx
    · next v h2 he =>
      rw [hfg _ _ he]
      exact hfg _ _ hx
theorem run_succ {sc : Nat × (Nat → Int32)} : ∀ (n : Nat) (c : qK) (x : Option Value × qH), run sc n c = some x → run sc (n + 1) c = some x
  | 0, c, x, h => by cases h
  | n + 1, c, x, h => qgo_mono (fun c x h => run_succ n c x h) _ _ _ h
theorem run_le {sc : Nat × (Nat → Int32)} {n m : Nat} (hnm : n ≤ m) {c : qK} {x : Option Value × qH} (h : run sc n c = some x) : run sc m c = some x := by
  induction hnm with
  | refl => exact h
  | step _ ih => exact run_succ _ _ _ ih
def wp (sc : Nat × (Nat → Int32)) (c : qK) (Q : Option Value → qH → Prop) : Prop := ∃ n r h', run sc n c = some (r, h') ∧ Q r h'
section WP
variable {sc : Nat × (Nat → Int32)} {Q : Option Value → qH → Prop} {k pc nx r1 r2 : Nat} {ls : qL} {st : List Value} {h : qH}
theorem wp.mono {c : qK} {Q' : Option Value → qH → Prop} (hw : wp sc c Q) (hq : ∀ v h', Q v h' → Q' v h') : wp sc c Q' := by
  obtain ⟨n, r, h', e, q⟩ := hw
  exact ⟨n, r, h', e, hq _ _ q⟩
theorem wp_N {c c' : qK} (hs : qstep sc c = qN c') (hw : wp sc c' Q) : wp sc c Q := by
  obtain ⟨n, r, h', e, q⟩ := hw
  refine ⟨n + 1, r, h', ?_, q⟩
  show qgo _ _ _ = _
  rw [hs]
  exact e
theorem wp_B {c c1 c2 : qK} {b : Bool} (hs : qstep sc c = qB b c1 c2) (h1 : b = true → wp sc c1 Q) (h2 : b = false → wp sc c2 Q) : wp sc c Q := by
  cases b with
  | true =>
    obtain ⟨n, r, h', e, q⟩ := h1 rfl
    refine ⟨n + 1, r, h', ?_, q⟩
    show qgo _ _ _ = _
    rw [hs]
    exact e
  | false =>
    obtain ⟨n, r, h', e, q⟩ := h2 rfl
    refine ⟨n + 1, r, h', ?_, q⟩
    show qgo _ _ _ = _
    rw [hs]
    exact e
theorem wp_G {c c' : qK} {b : Bool} (hs : qstep sc c = qG b c') (hb : b = true) (hw : wp sc c' Q) : wp sc c Q := by
  subst hb
  obtain ⟨n, r, h', e, q⟩ := hw
  refine ⟨n + 1, r, h', ?_, q⟩
  show qgo _ _ _ = _
  rw [hs]
  exact e
theorem wp_V {c : qK} {v : Option Value} (hs : qstep sc c = qV v) (hq : Q v c.2.2.2.2) : wp sc c Q := by
  refine ⟨1, v, c.2.2.2.2, ?_, hq⟩
  show qgo _ _ _ = _
  rw [hs]
  rfl
theorem wp_X {c c' : qK} {m : Nat} {as : List Value} {Q' : Option Value → qH → Prop} (hs : qstep sc c = qX m as c') (hw : wp sc (m, 0, qargs 0 as, [], c.2.2.2.2) Q') (hk : ∀ v h2, Q' v h2 → wp sc (c'.1, c'.2.1, c'.2.2.1, v.toList ++ c'.2.2.2.1, h2) Q) : wp sc c Q := by
  obtain ⟨n1, r1, h1, e1, q1⟩ := hw
  obtain ⟨n2, r2, h2, e2, q2⟩ := hk _ _ q1
  refine ⟨max n1 n2 + 1, r2, h2, ?_, q2⟩
  show qgo _ _ _ = _
  rw [hs]
  show (match run sc (max n1 n2) (m, 0, qargs 0 as, [], c.2.2.2.2) with
    | none => none
    | some (v, h2) => run sc (max n1 n2) (c'.1, c'.2.1, c'.2.2.1, v.toList ++ c'.2.2.2.1, h2)) = _
  rw [run_le (Nat.le_max_left n1 n2) e1]
  exact run_le (Nat.le_max_right n1 n2) e2
/-- where the heap is told by facts -/
theorem wp_getf {i a : Nat} {fs : List Value} {v : Value} (hi : qins k pc = some (.getfield i, nx, r1, r2)) (ha : h[a]? = some (.inr (r1, fs))) (hv : fs[r2]? = some v) (hw : wp sc (k, nx, ls, v :: st, h) Q) : wp sc (k, pc, ls, .ref a :: st, h) Q := by
  refine wp_N ?_ hw
  unfold qstep
  simp only [hi, qstepI, s_getf, ha, hv]
  rw [show Nat.beq r1 r1 = true from Nat.beq_refl r1]
theorem wp_putf {i a : Nat} {fs : List Value} {v : Value} (hi : qins k pc = some (.putfield i, nx, r1, r2)) (ha : h[a]? = some (.inr (r1, fs))) (hl : r2 < fs.length) (hv : qfit (qty r1 r2) v = true) (hw : wp sc (k, nx, ls, st, h.set a (.inr (r1, fs.set r2 v))) Q) : wp sc (k, pc, ls, v :: .ref a :: st, h) Q := by
  refine wp_G ?_ hv hw
  unfold qstep
  simp only [hi, qstepI, s_putf, ha]
  rw [show Nat.beq r1 r1 = true from Nat.beq_refl r1, show Nat.blt r2 fs.length = true from Nat.blt_eq.mpr hl]
  rfl
theorem wp_iald {a n : Nat} {f : Nat → Int32} {j : Int32} (hi : qins k pc = some (.iaload, nx, r1, r2)) (ha : h[a]? = some (.inl (0, n, .inl f))) (hj : qin j n = true) (hw : wp sc (k, nx, ls, .int (f j.toNatClampNeg) :: st, h) Q) : wp sc (k, pc, ls, .int j :: .ref a :: st, h) Q := by
  refine wp_G ?_ hj hw
  unfold qstep
  simp only [hi, qstepI, s_iald, ha]
theorem wp_lald {a n : Nat} {f : Nat → Int64} {j : Int32} (hi : qins k pc = some (.laload, nx, r1, r2)) (ha : h[a]? = some (.inl (1, n, .inr (.inl f)))) (hj : qin j n = true) (hw : wp sc (k, nx, ls, .long (f j.toNatClampNeg) :: st, h) Q) : wp sc (k, pc, ls, .int j :: .ref a :: st, h) Q := by
  refine wp_G ?_ hj hw
  unfold qstep
  simp only [hi, qstepI, s_lald, ha]
theorem wp_bald {a n : Nat} {f : Nat → Int32} {j : Int32} (hi : qins k pc = some (.baload, nx, r1, r2)) (ha : h[a]? = some (.inl (2, n, .inl f))) (hj : qin j n = true) (hw : wp sc (k, nx, ls, .int (f j.toNatClampNeg) :: st, h) Q) : wp sc (k, pc, ls, .int j :: .ref a :: st, h) Q := by
  refine wp_G ?_ hj hw
  unfold qstep
  simp only [hi, qstepI, s_bald, ha]
theorem wp_zald {a n : Nat} {f : Nat → Int32} {j : Int32} (hi : qins k pc = some (.baload, nx, r1, r2)) (ha : h[a]? = some (.inl (3, n, .inl f))) (hj : qin j n = true) (hw : wp sc (k, nx, ls, .int (f j.toNatClampNeg) :: st, h) Q) : wp sc (k, pc, ls, .int j :: .ref a :: st, h) Q := by
  refine wp_G ?_ hj hw
  unfold qstep
  simp only [hi, qstepI, s_bald, ha]
theorem wp_aald4 {a n : Nat} {f : Nat → Option Nat} {j : Int32} (hi : qins k pc = some (.aaload, nx, r1, r2)) (ha : h[a]? = some (.inl (4, n, .inr (.inr (.inr (.inr f)))))) (hj : qin j n = true) (hw : wp sc (k, nx, ls, va_rf (f j.toNatClampNeg) :: st, h) Q) : wp sc (k, pc, ls, .int j :: .ref a :: st, h) Q := by
  refine wp_G ?_ hj hw
  unfold qstep
  simp only [hi, qstepI, s_aald, ha]
theorem wp_aald5 {a n : Nat} {f : Nat → Option Nat} {j : Int32} (hi : qins k pc = some (.aaload, nx, r1, r2)) (ha : h[a]? = some (.inl (5, n, .inr (.inr (.inr (.inr f)))))) (hj : qin j n = true) (hw : wp sc (k, nx, ls, va_rf (f j.toNatClampNeg) :: st, h) Q) : wp sc (k, pc, ls, .int j :: .ref a :: st, h) Q := by
  refine wp_G ?_ hj hw
  unfold qstep
  simp only [hi, qstepI, s_aald, ha]
theorem wp_iast {a n : Nat} {f : Nat → Int32} {j x : Int32} (hi : qins k pc = some (.iastore, nx, r1, r2)) (ha : h[a]? = some (.inl (0, n, .inl f))) (hj : qin j n = true) (hw : wp sc (k, nx, ls, st, h.set a (.inl (0, n, .inl (upd f j.toNatClampNeg x)))) Q) : wp sc (k, pc, ls, .int x :: .int j :: .ref a :: st, h) Q := by
  refine wp_G ?_ hj hw
  unfold qstep
  simp only [hi, qstepI, s_iast, ha]
theorem wp_last {a n : Nat} {f : Nat → Int64} {j : Int32} {x : Int64} (hi : qins k pc = some (.lastore, nx, r1, r2)) (ha : h[a]? = some (.inl (1, n, .inr (.inl f)))) (hj : qin j n = true) (hw : wp sc (k, nx, ls, st, h.set a (.inl (1, n, .inr (.inl (vp_updL f j.toNatClampNeg x))))) Q) : wp sc (k, pc, ls, .long x :: .int j :: .ref a :: st, h) Q := by
  refine wp_G ?_ hj hw
  unfold qstep
  simp only [hi, qstepI, s_last, ha]
theorem wp_bast {a n : Nat} {f : Nat → Int32} {j x : Int32} (hi : qins k pc = some (.bastore, nx, r1, r2)) (ha : h[a]? = some (.inl (2, n, .inl f))) (hj : qin j n = true) (hw : wp sc (k, nx, ls, st, h.set a (.inl (2, n, .inl (upd f j.toNatClampNeg (vp_nar .byte x))))) Q) : wp sc (k, pc, ls, .int x :: .int j :: .ref a :: st, h) Q := by
  refine wp_G ?_ hj hw
  unfold qstep
  simp only [hi, qstepI, s_bast, ha]
theorem wp_zast {a n : Nat} {f : Nat → Int32} {j x : Int32} (hi : qins k pc = some (.bastore, nx, r1, r2)) (ha : h[a]? = some (.inl (3, n, .inl f))) (hj : qin j n = true) (hw : wp sc (k, nx, ls, st, h.set a (.inl (3, n, .inl (upd f j.toNatClampNeg (vp_nar .boolean x))))) Q) : wp sc (k, pc, ls, .int x :: .int j :: .ref a :: st, h) Q := by
  refine wp_G ?_ hj hw
  unfold qstep
  simp only [hi, qstepI, s_bast, ha]
theorem wp_aast4 {a n v : Nat} {vs : List Value} {f : Nat → Option Nat} {j : Int32} (hi : qins k pc = some (.aastore, nx, r1, r2)) (ha : h[a]? = some (.inl (4, n, .inr (.inr (.inr (.inr f)))))) (hv : h[v]? = some (.inr (7, vs))) (hj : qin j n = true) (hw : wp sc (k, nx, ls, st, h.set a (.inl (4, n, .inr (.inr (.inr (.inr (va_up f j.toNatClampNeg (some v)))))))) Q) : wp sc (k, pc, ls, .ref v :: .int j :: .ref a :: st, h) Q := by
  refine wp_G ?_ hj hw
  unfold qstep
  simp only [hi, qstepI, s_aast, ha, hv]
theorem wp_aast5 {a n v : Nat} {vs : List Value} {f : Nat → Option Nat} {j : Int32} (hi : qins k pc = some (.aastore, nx, r1, r2)) (ha : h[a]? = some (.inl (5, n, .inr (.inr (.inr (.inr f)))))) (hv : h[v]? = some (.inr (0, vs))) (hj : qin j n = true) (hw : wp sc (k, nx, ls, st, h.set a (.inl (5, n, .inr (.inr (.inr (.inr (va_up f j.toNatClampNeg (some v)))))))) Q) : wp sc (k, pc, ls, .ref v :: .int j :: .ref a :: st, h) Q := by
  refine wp_G ?_ hj hw
  unfold qstep
  simp only [hi, qstepI, s_aast, ha, hv]
theorem wp_alen {a n t : Nat} {f} (hi : qins k pc = some (.arraylength, nx, r1, r2)) (ha : h[a]? = some (.inl (t, n, f))) (ht : Nat.blt t 6 = true) (hw : wp sc (k, nx, ls, .int (nI n) :: st, h) Q) : wp sc (k, pc, ls, .ref a :: st, h) Q := by
  refine wp_N ?_ hw
  unfold qstep
  simp only [hi, qstepI, s_alen, ha, ht]
  rfl
theorem wp_new {i : Nat} (hi : qins k pc = some (.new i, nx, r1, r2)) (hw : wp sc (k, nx, ls, .ref h.length :: st, h ++ [.inr (r1, qdef r1)]) Q) : wp sc (k, pc, ls, st, h) Q := by
  refine wp_N ?_ hw
  unfold qstep
  simp only [hi, qstepI, s_new]
theorem wp_virt {i b : Nat} {as rest : List Value} {fs : List Value} {Q' : Option Value → qH → Prop} (hi : qins k pc = some (.invokevirtual i, nx, r1, r2)) (hsp : qspl (qnp r1 + 1) [] st = some (.ref b :: as, rest)) (hb : h[b]? = some (.inr (qck r1, fs)))
    (hc : (Nat.ble (qcats (.ref b :: as)) (qmaxL r1) && Nat.ble (qcats rest) 8) = true) (hw : wp sc (r1, 0, qargs 0 (.ref b :: as), [], h) Q') (hk : ∀ v h2, Q' v h2 → wp sc (k, nx, ls, v.toList ++ rest, h2) Q) : wp sc (k, pc, ls, st, h) Q := by
  refine wp_X (c' := (k, nx, ls, rest, h)) (m := r1) (as := .ref b :: as) ?_ hw hk
  unfold qstep
  simp only [hi, qstepI, s_virtual, hsp, hb]
  rw [show Nat.beq (qck r1) (qck r1) = true from Nat.beq_refl _]
  simp only [s_call, hsp, hc]
end WP
