/-! Rules for arrays read and written where the index is a number. -/
set_option maxHeartbeats 4000000 in
theorem bI01 (b : Bool) : vp_nar .boolean (bI b) = bI b := by cases b <;> decide +kernel
set_option maxHeartbeats 4000000 in
theorem bIe1 : nI 1 = bI true := rfl
set_option maxHeartbeats 4000000 in
theorem bIe0 : nI 0 = bI false := rfl
section RW
variable {sc : Nat × (Nat → Int32)} {Q : Option Value → qH → Prop} {k pc nx t1 t2 : Nat} {ls : qL} {st : List Value} {h : qH}
set_option maxHeartbeats 4000000 in
theorem wp_zB {a n j : Nat} {f : Nat → Int32} {b : Bool} (hi : qins k pc = some (.baload, nx, t1, t2)) (ha : h[a]? = some (.inl (3, n, .inl f))) (hj : j < n) (hn : n < 2 ^ 31) (hf : f j = bI b) (hw : wp sc (k, nx, ls, .int (bI b) :: st, h) Q) : wp sc (k, pc, ls, .int (nI j) :: .ref a :: st, h) Q := by
  refine wp_zald hi ha (qin_nI hj hn) ?_
  rw [nI_clamp (by omega), hf]
  exact hw
set_option maxHeartbeats 4000000 in
theorem wp_lB {a n j : Nat} {f : Nat → Int64} {x : Int64} (hi : qins k pc = some (.laload, nx, t1, t2)) (ha : h[a]? = some (.inl (1, n, .inr (.inl f)))) (hj : j < n) (hn : n < 2 ^ 31) (hf : f j = x) (hw : wp sc (k, nx, ls, .long x :: st, h) Q) : wp sc (k, pc, ls, .int (nI j) :: .ref a :: st, h) Q := by
  refine wp_lald hi ha (qin_nI hj hn) ?_
  rw [nI_clamp (by omega), hf]
  exact hw
set_option maxHeartbeats 4000000 in
theorem wp_iB {a n j : Nat} {f : Nat → Int32} {x : Int32} (hi : qins k pc = some (.iaload, nx, t1, t2)) (ha : h[a]? = some (.inl (0, n, .inl f))) (hj : j < n) (hn : n < 2 ^ 31) (hf : f j = x) (hw : wp sc (k, nx, ls, .int x :: st, h) Q) : wp sc (k, pc, ls, .int (nI j) :: .ref a :: st, h) Q := by
  refine wp_iald hi ha (qin_nI hj hn) ?_
  rw [nI_clamp (by omega), hf]
  exact hw
set_option maxHeartbeats 4000000 in
theorem wp_zS {a n j : Nat} {f : Nat → Int32} {x : Int32} {b : Bool} (hi : qins k pc = some (.bastore, nx, t1, t2)) (ha : h[a]? = some (.inl (3, n, .inl f))) (hj : j < n) (hn : n < 2 ^ 31) (hx : x = bI b) (hw : wp sc (k, nx, ls, st, h.set a (.inl (3, n, .inl (upd f j (bI b))))) Q) : wp sc (k, pc, ls, .int x :: .int (nI j) :: .ref a :: st, h) Q := by
  subst hx
  refine wp_zast hi ha (qin_nI hj hn) ?_
  rw [nI_clamp (by omega), bI01]
  exact hw
set_option maxHeartbeats 4000000 in
theorem wp_lS {a n j : Nat} {f : Nat → Int64} {x : Int64} (hi : qins k pc = some (.lastore, nx, t1, t2)) (ha : h[a]? = some (.inl (1, n, .inr (.inl f)))) (hj : j < n) (hn : n < 2 ^ 31) (hw : wp sc (k, nx, ls, st, h.set a (.inl (1, n, .inr (.inl (vp_updL f j x))))) Q) : wp sc (k, pc, ls, .long x :: .int (nI j) :: .ref a :: st, h) Q := by
  refine wp_last hi ha (qin_nI hj hn) ?_
  rw [nI_clamp (by omega)]
  exact hw
set_option maxHeartbeats 4000000 in
theorem wp_lBx {a n : Nat} {f : Nat → Int64} {j : Int32} {x : Int64} (hi : qins k pc = some (.laload, nx, t1, t2)) (ha : h[a]? = some (.inl (1, n, .inr (.inl f)))) (hj : qin j n = true) (hf : f j.toNatClampNeg = x) (hw : wp sc (k, nx, ls, .long x :: st, h) Q) : wp sc (k, pc, ls, .int j :: .ref a :: st, h) Q := by
  refine wp_lald hi ha hj ?_
  rw [hf]
  exact hw
set_option maxHeartbeats 4000000 in
theorem wp_zBx {a n : Nat} {f : Nat → Int32} {j x : Int32} (hi : qins k pc = some (.baload, nx, t1, t2)) (ha : h[a]? = some (.inl (3, n, .inl f))) (hj : qin j n = true) (hf : f j.toNatClampNeg = x) (hw : wp sc (k, nx, ls, .int x :: st, h) Q) : wp sc (k, pc, ls, .int j :: .ref a :: st, h) Q := by
  refine wp_zald hi ha hj ?_
  rw [hf]
  exact hw
set_option maxHeartbeats 4000000 in
theorem wp_iBx {a n : Nat} {f : Nat → Int32} {j x : Int32} (hi : qins k pc = some (.iaload, nx, t1, t2)) (ha : h[a]? = some (.inl (0, n, .inl f))) (hj : qin j n = true) (hf : f j.toNatClampNeg = x) (hw : wp sc (k, nx, ls, .int x :: st, h) Q) : wp sc (k, pc, ls, .int j :: .ref a :: st, h) Q := by
  refine wp_iald hi ha hj ?_
  rw [hf]
  exact hw
set_option maxHeartbeats 4000000 in
theorem wp_bBx {a n : Nat} {f : Nat → Int32} {j x : Int32} (hi : qins k pc = some (.baload, nx, t1, t2)) (ha : h[a]? = some (.inl (2, n, .inl f))) (hj : qin j n = true) (hf : f j.toNatClampNeg = x) (hw : wp sc (k, nx, ls, .int x :: st, h) Q) : wp sc (k, pc, ls, .int j :: .ref a :: st, h) Q := by
  refine wp_bald hi ha hj ?_
  rw [hf]
  exact hw
end RW
