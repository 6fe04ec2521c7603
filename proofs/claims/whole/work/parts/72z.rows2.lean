/-! Rules for reading and writing arrays at a known number, two more. -/
section RWZ
variable {sc : Nat × (Nat → Int32)} {Q : Option Value → qH → Prop} {k pc nx t1 t2 : Nat} {ls : qL} {st : List Value} {h : qH}
set_option maxHeartbeats 4000000 in
theorem wp_iS {a n j : Nat} {f : Nat → Int32} {x : Int32} (hi : qins k pc = some (.iastore, nx, t1, t2)) (ha : h[a]? = some (.inl (0, n, .inl f))) (hj : j < n) (hn : n < 2 ^ 31) (hw : wp sc (k, nx, ls, st, h.set a (.inl (0, n, .inl (upd f j x)))) Q) : wp sc (k, pc, ls, .int x :: .int (nI j) :: .ref a :: st, h) Q := by
  refine wp_iast hi ha (qin_nI hj hn) ?_
  rw [nI_clamp (by omega)]
  exact hw
set_option maxHeartbeats 4000000 in
theorem wp_bB {a n j : Nat} {f : Nat → Int32} {x : Int32} (hi : qins k pc = some (.baload, nx, t1, t2)) (ha : h[a]? = some (.inl (2, n, .inl f))) (hj : j < n) (hn : n < 2 ^ 31) (hf : f j = x) (hw : wp sc (k, nx, ls, .int x :: st, h) Q) : wp sc (k, pc, ls, .int (nI j) :: .ref a :: st, h) Q := by
  refine wp_bald hi ha (qin_nI hj hn) ?_
  rw [nI_clamp (by omega), hf]
  exact hw
end RWZ
