/-! Fewer locals will do. -/
def qsl (l : qL) (c : qK) : qK := (c.1, c.2.1, l, c.2.2.2.1, c.2.2.2.2)
def qsetL (l : qL) (res : qR) : qR := match res with
  | none => none
  | some (.inl c) => some (.inl (qsl l c))
  | some (.inr (.inl (b, c1, c2))) => some (.inr (.inl (b, qsl l c1, qsl l c2)))
  | some (.inr (.inr (.inl v))) => some (.inr (.inr (.inl v)))
  | some (.inr (.inr (.inr (.inl (b, c))))) => some (.inr (.inr (.inr (.inl (b, qsl l c)))))
  | some (.inr (.inr (.inr (.inr (k', as, c))))) => some (.inr (.inr (.inr (.inr (k', as, qsl l c)))))
def qle (l l' : qL) : Prop := ∀ i v, qlk l i = some v → qlk l' i = some v
def qloc : Instr → Bool
  | .iload _ | .iload_n _ | .lload _ | .lload_n _ | .aload _ | .aload_n _ | .istore _ | .istore_n _ | .lstore _ | .lstore_n _ | .astore _ | .astore_n _ | .iinc _ _ => true
  | _ => false
theorem qsetL_cond (l : qL) (b : Bool) (x y : qR) : qsetL l (cond b x y) = cond b (qsetL l x) (qsetL l y) := by cases b <;> rfl
theorem l_s_const (sc : Nat × (Nat → Int32)) (k nx r1 r2 n : Nat) (c : Jvm.ClassFile.Cond) (l l' : qL) (st : List Value) (h : qH) : s_const k nx r1 r2 l' st h = qsetL l' (s_const k nx r1 r2 l st h) := by
  unfold s_const
  repeat' (first | rfl | (simp only [qsetL_cond]; rfl) | split)
theorem l_s_lconst (sc : Nat × (Nat → Int32)) (k nx r1 r2 n : Nat) (c : Jvm.ClassFile.Cond) (l l' : qL) (st : List Value) (h : qH) : s_lconst k nx l' st h n = qsetL l' (s_lconst k nx l st h n) := by
  unfold s_lconst
  repeat' (first | rfl | (simp only [qsetL_cond]; rfl) | split)
theorem l_s_null (sc : Nat × (Nat → Int32)) (k nx r1 r2 n : Nat) (c : Jvm.ClassFile.Cond) (l l' : qL) (st : List Value) (h : qH) : s_null k nx l' st h = qsetL l' (s_null k nx l st h) := by
  unfold s_null
  repeat' (first | rfl | (simp only [qsetL_cond]; rfl) | split)
theorem l_s_ldc2 (sc : Nat × (Nat → Int32)) (k nx r1 r2 n : Nat) (c : Jvm.ClassFile.Cond) (l l' : qL) (st : List Value) (h : qH) : s_ldc2 k nx r1 l' st h = qsetL l' (s_ldc2 k nx r1 l st h) := by
  unfold s_ldc2
  repeat' (first | rfl | (simp only [qsetL_cond]; rfl) | split)
theorem l_s_iadd (sc : Nat × (Nat → Int32)) (k nx r1 r2 n : Nat) (c : Jvm.ClassFile.Cond) (l l' : qL) (st : List Value) (h : qH) : s_iadd k nx l' st h = qsetL l' (s_iadd k nx l st h) := by
  unfold s_iadd
  repeat' (first | rfl | (simp only [qsetL_cond]; rfl) | split)
theorem l_s_isub (sc : Nat × (Nat → Int32)) (k nx r1 r2 n : Nat) (c : Jvm.ClassFile.Cond) (l l' : qL) (st : List Value) (h : qH) : s_isub k nx l' st h = qsetL l' (s_isub k nx l st h) := by
  unfold s_isub
  repeat' (first | rfl | (simp only [qsetL_cond]; rfl) | split)
theorem l_s_imul (sc : Nat × (Nat → Int32)) (k nx r1 r2 n : Nat) (c : Jvm.ClassFile.Cond) (l l' : qL) (st : List Value) (h : qH) : s_imul k nx l' st h = qsetL l' (s_imul k nx l st h) := by
  unfold s_imul
  repeat' (first | rfl | (simp only [qsetL_cond]; rfl) | split)
theorem l_s_irem (sc : Nat × (Nat → Int32)) (k nx r1 r2 n : Nat) (c : Jvm.ClassFile.Cond) (l l' : qL) (st : List Value) (h : qH) : s_irem k nx l' st h = qsetL l' (s_irem k nx l st h) := by
  unfold s_irem
  repeat' (first | rfl | (simp only [qsetL_cond]; rfl) | split)
theorem l_s_ineg (sc : Nat × (Nat → Int32)) (k nx r1 r2 n : Nat) (c : Jvm.ClassFile.Cond) (l l' : qL) (st : List Value) (h : qH) : s_ineg k nx l' st h = qsetL l' (s_ineg k nx l st h) := by
  unfold s_ineg
  repeat' (first | rfl | (simp only [qsetL_cond]; rfl) | split)
theorem l_s_iand (sc : Nat × (Nat → Int32)) (k nx r1 r2 n : Nat) (c : Jvm.ClassFile.Cond) (l l' : qL) (st : List Value) (h : qH) : s_iand k nx l' st h = qsetL l' (s_iand k nx l st h) := by
  unfold s_iand
  repeat' (first | rfl | (simp only [qsetL_cond]; rfl) | split)
theorem l_s_ior (sc : Nat × (Nat → Int32)) (k nx r1 r2 n : Nat) (c : Jvm.ClassFile.Cond) (l l' : qL) (st : List Value) (h : qH) : s_ior k nx l' st h = qsetL l' (s_ior k nx l st h) := by
  unfold s_ior
  repeat' (first | rfl | (simp only [qsetL_cond]; rfl) | split)
theorem l_s_ixor (sc : Nat × (Nat → Int32)) (k nx r1 r2 n : Nat) (c : Jvm.ClassFile.Cond) (l l' : qL) (st : List Value) (h : qH) : s_ixor k nx l' st h = qsetL l' (s_ixor k nx l st h) := by
  unfold s_ixor
  repeat' (first | rfl | (simp only [qsetL_cond]; rfl) | split)
theorem l_s_ladd (sc : Nat × (Nat → Int32)) (k nx r1 r2 n : Nat) (c : Jvm.ClassFile.Cond) (l l' : qL) (st : List Value) (h : qH) : s_ladd k nx l' st h = qsetL l' (s_ladd k nx l st h) := by
  unfold s_ladd
  repeat' (first | rfl | (simp only [qsetL_cond]; rfl) | split)
theorem l_s_lsub (sc : Nat × (Nat → Int32)) (k nx r1 r2 n : Nat) (c : Jvm.ClassFile.Cond) (l l' : qL) (st : List Value) (h : qH) : s_lsub k nx l' st h = qsetL l' (s_lsub k nx l st h) := by
  unfold s_lsub
  repeat' (first | rfl | (simp only [qsetL_cond]; rfl) | split)
theorem l_s_land (sc : Nat × (Nat → Int32)) (k nx r1 r2 n : Nat) (c : Jvm.ClassFile.Cond) (l l' : qL) (st : List Value) (h : qH) : s_land k nx l' st h = qsetL l' (s_land k nx l st h) := by
  unfold s_land
  repeat' (first | rfl | (simp only [qsetL_cond]; rfl) | split)
theorem l_s_lor (sc : Nat × (Nat → Int32)) (k nx r1 r2 n : Nat) (c : Jvm.ClassFile.Cond) (l l' : qL) (st : List Value) (h : qH) : s_lor k nx l' st h = qsetL l' (s_lor k nx l st h) := by
  unfold s_lor
  repeat' (first | rfl | (simp only [qsetL_cond]; rfl) | split)
theorem l_s_lxor (sc : Nat × (Nat → Int32)) (k nx r1 r2 n : Nat) (c : Jvm.ClassFile.Cond) (l l' : qL) (st : List Value) (h : qH) : s_lxor k nx l' st h = qsetL l' (s_lxor k nx l st h) := by
  unfold s_lxor
  repeat' (first | rfl | (simp only [qsetL_cond]; rfl) | split)
theorem l_s_lshl (sc : Nat × (Nat → Int32)) (k nx r1 r2 n : Nat) (c : Jvm.ClassFile.Cond) (l l' : qL) (st : List Value) (h : qH) : s_lshl k nx l' st h = qsetL l' (s_lshl k nx l st h) := by
  unfold s_lshl
  repeat' (first | rfl | (simp only [qsetL_cond]; rfl) | split)
theorem l_s_lshr (sc : Nat × (Nat → Int32)) (k nx r1 r2 n : Nat) (c : Jvm.ClassFile.Cond) (l l' : qL) (st : List Value) (h : qH) : s_lshr k nx l' st h = qsetL l' (s_lshr k nx l st h) := by
  unfold s_lshr
  repeat' (first | rfl | (simp only [qsetL_cond]; rfl) | split)
theorem l_s_lushr (sc : Nat × (Nat → Int32)) (k nx r1 r2 n : Nat) (c : Jvm.ClassFile.Cond) (l l' : qL) (st : List Value) (h : qH) : s_lushr k nx l' st h = qsetL l' (s_lushr k nx l st h) := by
  unfold s_lushr
  repeat' (first | rfl | (simp only [qsetL_cond]; rfl) | split)
theorem l_s_lcmp (sc : Nat × (Nat → Int32)) (k nx r1 r2 n : Nat) (c : Jvm.ClassFile.Cond) (l l' : qL) (st : List Value) (h : qH) : s_lcmp k nx l' st h = qsetL l' (s_lcmp k nx l st h) := by
  unfold s_lcmp
  repeat' (first | rfl | (simp only [qsetL_cond]; rfl) | split)
theorem l_s_i2l (sc : Nat × (Nat → Int32)) (k nx r1 r2 n : Nat) (c : Jvm.ClassFile.Cond) (l l' : qL) (st : List Value) (h : qH) : s_i2l k nx l' st h = qsetL l' (s_i2l k nx l st h) := by
  unfold s_i2l
  repeat' (first | rfl | (simp only [qsetL_cond]; rfl) | split)
theorem l_s_l2i (sc : Nat × (Nat → Int32)) (k nx r1 r2 n : Nat) (c : Jvm.ClassFile.Cond) (l l' : qL) (st : List Value) (h : qH) : s_l2i k nx l' st h = qsetL l' (s_l2i k nx l st h) := by
  unfold s_l2i
  repeat' (first | rfl | (simp only [qsetL_cond]; rfl) | split)
theorem l_s_i2b (sc : Nat × (Nat → Int32)) (k nx r1 r2 n : Nat) (c : Jvm.ClassFile.Cond) (l l' : qL) (st : List Value) (h : qH) : s_i2b k nx l' st h = qsetL l' (s_i2b k nx l st h) := by
  unfold s_i2b
  repeat' (first | rfl | (simp only [qsetL_cond]; rfl) | split)
theorem l_s_dup (sc : Nat × (Nat → Int32)) (k nx r1 r2 n : Nat) (c : Jvm.ClassFile.Cond) (l l' : qL) (st : List Value) (h : qH) : s_dup k nx l' st h = qsetL l' (s_dup k nx l st h) := by
  unfold s_dup
  repeat' (first | rfl | (simp only [qsetL_cond]; rfl) | split)
theorem l_s_dup2 (sc : Nat × (Nat → Int32)) (k nx r1 r2 n : Nat) (c : Jvm.ClassFile.Cond) (l l' : qL) (st : List Value) (h : qH) : s_dup2 k nx l' st h = qsetL l' (s_dup2 k nx l st h) := by
  unfold s_dup2
  repeat' (first | rfl | (simp only [qsetL_cond]; rfl) | split)
theorem l_s_goto (sc : Nat × (Nat → Int32)) (k nx r1 r2 n : Nat) (c : Jvm.ClassFile.Cond) (l l' : qL) (st : List Value) (h : qH) : s_goto k r1 l' st h = qsetL l' (s_goto k r1 l st h) := by
  unfold s_goto
  repeat' (first | rfl | (simp only [qsetL_cond]; rfl) | split)
theorem l_s_if (sc : Nat × (Nat → Int32)) (k nx r1 r2 n : Nat) (c : Jvm.ClassFile.Cond) (l l' : qL) (st : List Value) (h : qH) : s_if k nx r1 l' st h c = qsetL l' (s_if k nx r1 l st h c) := by
  unfold s_if
  repeat' (first | rfl | (simp only [qsetL_cond]; rfl) | split)
theorem l_s_icmp (sc : Nat × (Nat → Int32)) (k nx r1 r2 n : Nat) (c : Jvm.ClassFile.Cond) (l l' : qL) (st : List Value) (h : qH) : s_icmp k nx r1 l' st h c = qsetL l' (s_icmp k nx r1 l st h c) := by
  unfold s_icmp
  repeat' (first | rfl | (simp only [qsetL_cond]; rfl) | split)
theorem l_s_acmpne (sc : Nat × (Nat → Int32)) (k nx r1 r2 n : Nat) (c : Jvm.ClassFile.Cond) (l l' : qL) (st : List Value) (h : qH) : s_acmpne k nx r1 l' st h = qsetL l' (s_acmpne k nx r1 l st h) := by
  unfold s_acmpne
  repeat' (first | rfl | (simp only [qsetL_cond]; rfl) | split)
theorem l_s_ifnull (sc : Nat × (Nat → Int32)) (k nx r1 r2 n : Nat) (c : Jvm.ClassFile.Cond) (l l' : qL) (st : List Value) (h : qH) : s_ifnull k nx r1 l' st h = qsetL l' (s_ifnull k nx r1 l st h) := by
  unfold s_ifnull
  repeat' (first | rfl | (simp only [qsetL_cond]; rfl) | split)
theorem l_s_ifnonnull (sc : Nat × (Nat → Int32)) (k nx r1 r2 n : Nat) (c : Jvm.ClassFile.Cond) (l l' : qL) (st : List Value) (h : qH) : s_ifnonnull k nx r1 l' st h = qsetL l' (s_ifnonnull k nx r1 l st h) := by
  unfold s_ifnonnull
  repeat' (first | rfl | (simp only [qsetL_cond]; rfl) | split)
theorem l_s_switch (sc : Nat × (Nat → Int32)) (k nx r1 r2 n : Nat) (c : Jvm.ClassFile.Cond) (l l' : qL) (st : List Value) (h : qH) : s_switch k r1 r2 l' st h = qsetL l' (s_switch k r1 r2 l st h) := by
  unfold s_switch
  repeat' (first | rfl | (simp only [qsetL_cond]; rfl) | split)
theorem l_s_getf (sc : Nat × (Nat → Int32)) (k nx r1 r2 n : Nat) (c : Jvm.ClassFile.Cond) (l l' : qL) (st : List Value) (h : qH) : s_getf k nx r1 r2 l' st h = qsetL l' (s_getf k nx r1 r2 l st h) := by
  unfold s_getf
  repeat' (first | rfl | (simp only [qsetL_cond]; rfl) | split)
theorem l_s_putf (sc : Nat × (Nat → Int32)) (k nx r1 r2 n : Nat) (c : Jvm.ClassFile.Cond) (l l' : qL) (st : List Value) (h : qH) : s_putf k nx r1 r2 l' st h = qsetL l' (s_putf k nx r1 r2 l st h) := by
  unfold s_putf
  repeat' (first | rfl | (simp only [qsetL_cond]; rfl) | split)
theorem l_s_iald (sc : Nat × (Nat → Int32)) (k nx r1 r2 n : Nat) (c : Jvm.ClassFile.Cond) (l l' : qL) (st : List Value) (h : qH) : s_iald sc k nx l' st h = qsetL l' (s_iald sc k nx l st h) := by
  unfold s_iald
  repeat' (first | rfl | (simp only [qsetL_cond]; rfl) | split)
theorem l_s_lald (sc : Nat × (Nat → Int32)) (k nx r1 r2 n : Nat) (c : Jvm.ClassFile.Cond) (l l' : qL) (st : List Value) (h : qH) : s_lald k nx l' st h = qsetL l' (s_lald k nx l st h) := by
  unfold s_lald
  repeat' (first | rfl | (simp only [qsetL_cond]; rfl) | split)
theorem l_s_bald (sc : Nat × (Nat → Int32)) (k nx r1 r2 n : Nat) (c : Jvm.ClassFile.Cond) (l l' : qL) (st : List Value) (h : qH) : s_bald k nx l' st h = qsetL l' (s_bald k nx l st h) := by
  unfold s_bald
  repeat' (first | rfl | (simp only [qsetL_cond]; rfl) | split)
theorem l_s_aald (sc : Nat × (Nat → Int32)) (k nx r1 r2 n : Nat) (c : Jvm.ClassFile.Cond) (l l' : qL) (st : List Value) (h : qH) : s_aald k nx l' st h = qsetL l' (s_aald k nx l st h) := by
  unfold s_aald
  repeat' (first | rfl | (simp only [qsetL_cond]; rfl) | split)
theorem l_s_iast (sc : Nat × (Nat → Int32)) (k nx r1 r2 n : Nat) (c : Jvm.ClassFile.Cond) (l l' : qL) (st : List Value) (h : qH) : s_iast k nx l' st h = qsetL l' (s_iast k nx l st h) := by
  unfold s_iast
  repeat' (first | rfl | (simp only [qsetL_cond]; rfl) | split)
theorem l_s_last (sc : Nat × (Nat → Int32)) (k nx r1 r2 n : Nat) (c : Jvm.ClassFile.Cond) (l l' : qL) (st : List Value) (h : qH) : s_last k nx l' st h = qsetL l' (s_last k nx l st h) := by
  unfold s_last
  repeat' (first | rfl | (simp only [qsetL_cond]; rfl) | split)
theorem l_s_bast (sc : Nat × (Nat → Int32)) (k nx r1 r2 n : Nat) (c : Jvm.ClassFile.Cond) (l l' : qL) (st : List Value) (h : qH) : s_bast k nx l' st h = qsetL l' (s_bast k nx l st h) := by
  unfold s_bast
  repeat' (first | rfl | (simp only [qsetL_cond]; rfl) | split)
theorem l_s_aast (sc : Nat × (Nat → Int32)) (k nx r1 r2 n : Nat) (c : Jvm.ClassFile.Cond) (l l' : qL) (st : List Value) (h : qH) : s_aast k nx l' st h = qsetL l' (s_aast k nx l st h) := by
  unfold s_aast
  repeat' (first | rfl | (simp only [qsetL_cond]; rfl) | split)
theorem l_s_alen (sc : Nat × (Nat → Int32)) (k nx r1 r2 n : Nat) (c : Jvm.ClassFile.Cond) (l l' : qL) (st : List Value) (h : qH) : s_alen sc k nx l' st h = qsetL l' (s_alen sc k nx l st h) := by
  unfold s_alen
  repeat' (first | rfl | (simp only [qsetL_cond]; rfl) | split)
theorem l_s_newa (sc : Nat × (Nat → Int32)) (k nx r1 r2 n : Nat) (c : Jvm.ClassFile.Cond) (l l' : qL) (st : List Value) (h : qH) : s_newa k nx l' st h n = qsetL l' (s_newa k nx l st h n) := by
  unfold s_newa
  repeat' (first | rfl | (simp only [qsetL_cond]; rfl) | split)
theorem l_s_new (sc : Nat × (Nat → Int32)) (k nx r1 r2 n : Nat) (c : Jvm.ClassFile.Cond) (l l' : qL) (st : List Value) (h : qH) : s_new k nx r1 l' st h = qsetL l' (s_new k nx r1 l st h) := by
  unfold s_new
  repeat' (first | rfl | (simp only [qsetL_cond]; rfl) | split)
theorem l_s_objinit (sc : Nat × (Nat → Int32)) (k nx r1 r2 n : Nat) (c : Jvm.ClassFile.Cond) (l l' : qL) (st : List Value) (h : qH) : s_objinit k nx l' st h = qsetL l' (s_objinit k nx l st h) := by
  unfold s_objinit
  repeat' (first | rfl | (simp only [qsetL_cond]; rfl) | split)
theorem l_s_min (sc : Nat × (Nat → Int32)) (k nx r1 r2 n : Nat) (c : Jvm.ClassFile.Cond) (l l' : qL) (st : List Value) (h : qH) : s_min k nx l' st h = qsetL l' (s_min k nx l st h) := by
  unfold s_min
  repeat' (first | rfl | (simp only [qsetL_cond]; rfl) | split)
theorem l_s_copy (sc : Nat × (Nat → Int32)) (k nx r1 r2 n : Nat) (c : Jvm.ClassFile.Cond) (l l' : qL) (st : List Value) (h : qH) : s_copy k nx l' st h = qsetL l' (s_copy k nx l st h) := by
  unfold s_copy
  repeat' (first | rfl | (simp only [qsetL_cond]; rfl) | split)
theorem l_s_call (sc : Nat × (Nat → Int32)) (k nx r1 r2 n : Nat) (c : Jvm.ClassFile.Cond) (l l' : qL) (st : List Value) (h : qH) : s_call k nx r1 l' st h n = qsetL l' (s_call k nx r1 l st h n) := by
  unfold s_call
  repeat' (first | rfl | (simp only [qsetL_cond]; rfl) | split)
theorem l_s_static (sc : Nat × (Nat → Int32)) (k nx r1 r2 n : Nat) (c : Jvm.ClassFile.Cond) (l l' : qL) (st : List Value) (h : qH) : s_static k nx r1 l' st h = qsetL l' (s_static k nx r1 l st h) := by
  unfold s_static
  rcases (Classical.em (r1 = 1000)) with e | e1
  · subst e
    exact l_s_min sc k nx 1000 r2 n c l l' st h
  rcases (Classical.em (r1 = 1001)) with e | e2
  · subst e
    exact l_s_copy sc k nx 1001 r2 n c l l' st h
  split
  · exact absurd rfl e1
  · exact absurd rfl e2
  · exact l_s_call sc k nx _ r2 _ c l l' st h
theorem l_s_special (sc : Nat × (Nat → Int32)) (k nx r1 r2 n : Nat) (c : Jvm.ClassFile.Cond) (l l' : qL) (st : List Value) (h : qH) : s_special k nx r1 l' st h = qsetL l' (s_special k nx r1 l st h) := by
  unfold s_special
  rcases (Classical.em (r1 = 1002)) with e | e1
  · subst e
    exact l_s_objinit sc k nx 1002 r2 n c l l' st h
  split
  · exact absurd rfl e1
  · split
    · exact l_s_call sc k nx _ r2 _ c l l' st h
    · rfl
theorem l_s_virtual (sc : Nat × (Nat → Int32)) (k nx r1 r2 n : Nat) (c : Jvm.ClassFile.Cond) (l l' : qL) (st : List Value) (h : qH) : s_virtual k nx r1 l' st h = qsetL l' (s_virtual k nx r1 l st h) := by
  unfold s_virtual
  split
  · split
    · split
      · exact l_s_call sc k nx _ r2 _ c l l' st h
      · rfl
    · rfl
  · rfl
theorem l_s_iret (k : Nat) (l' : qL) (st : List Value) : s_iret k st = qsetL l' (s_iret k st) := by
  unfold s_iret
  repeat' (first | rfl | (simp only [qsetL_cond]; rfl) | split)
theorem l_s_lret (k : Nat) (l' : qL) (st : List Value) : s_lret k st = qsetL l' (s_lret k st) := by
  unfold s_lret
  repeat' (first | rfl | (simp only [qsetL_cond]; rfl) | split)
theorem l_s_aret (k : Nat) (l' : qL) (st : List Value) : s_aret k st = qsetL l' (s_aret k st) := by
  unfold s_aret
  repeat' (first | rfl | (simp only [qsetL_cond]; rfl) | split)
theorem l_s_vret (k : Nat) (l' : qL) (st : List Value) : s_vret k st = qsetL l' (s_vret k st) := by
  unfold s_vret
  repeat' (first | rfl | (simp only [qsetL_cond]; rfl) | split)
theorem qstepI_set (sc : Nat × (Nat → Int32)) (i : Instr) (hi : qloc i = false) (k nx r1 r2 : Nat) (l l' : qL) (st : List Value) (h : qH) : qstepI sc i k nx r1 r2 l' st h = qsetL l' (qstepI sc i k nx r1 r2 l st h) := by
  cases i with
  | iconst v => exact l_s_const sc k nx r1 r2 0 .eq l l' st h
  | bipush v => exact l_s_const sc k nx r1 r2 0 .eq l l' st h
  | sipush v => exact l_s_const sc k nx r1 r2 0 .eq l l' st h
  | aconst_null => exact l_s_null sc k nx r1 r2 0 .eq l l' st h
  | ldc2_w x => exact l_s_ldc2 sc k nx r1 r2 0 .eq l l' st h
  | goto f => exact l_s_goto sc k nx r1 r2 0 .eq l l' st h
  | ifnull f => exact l_s_ifnull sc k nx r1 r2 0 .eq l l' st h
  | ifnonnull f => exact l_s_ifnonnull sc k nx r1 r2 0 .eq l l' st h
  | tableswitch a b c d => exact l_s_switch sc k nx r1 r2 0 .eq l l' st h
  | lookupswitch a b => exact l_s_switch sc k nx r1 r2 0 .eq l l' st h
  | getfield x => exact l_s_getf sc k nx r1 r2 0 .eq l l' st h
  | putfield x => exact l_s_putf sc k nx r1 r2 0 .eq l l' st h
  | iaload => exact l_s_iald sc k nx r1 r2 0 .eq l l' st h
  | laload => exact l_s_lald sc k nx r1 r2 0 .eq l l' st h
  | baload => exact l_s_bald sc k nx r1 r2 0 .eq l l' st h
  | aaload => exact l_s_aald sc k nx r1 r2 0 .eq l l' st h
  | iastore => exact l_s_iast sc k nx r1 r2 0 .eq l l' st h
  | lastore => exact l_s_last sc k nx r1 r2 0 .eq l l' st h
  | bastore => exact l_s_bast sc k nx r1 r2 0 .eq l l' st h
  | aastore => exact l_s_aast sc k nx r1 r2 0 .eq l l' st h
  | arraylength => exact l_s_alen sc k nx r1 r2 0 .eq l l' st h
  | new x => exact l_s_new sc k nx r1 r2 0 .eq l l' st h
  | invokestatic x => exact l_s_static sc k nx r1 r2 0 .eq l l' st h
  | invokespecial x => exact l_s_special sc k nx r1 r2 0 .eq l l' st h
  | invokevirtual x => exact l_s_virtual sc k nx r1 r2 0 .eq l l' st h
  | iadd => exact l_s_iadd sc k nx r1 r2 0 .eq l l' st h
  | isub => exact l_s_isub sc k nx r1 r2 0 .eq l l' st h
  | imul => exact l_s_imul sc k nx r1 r2 0 .eq l l' st h
  | irem => exact l_s_irem sc k nx r1 r2 0 .eq l l' st h
  | ineg => exact l_s_ineg sc k nx r1 r2 0 .eq l l' st h
  | iand => exact l_s_iand sc k nx r1 r2 0 .eq l l' st h
  | ior => exact l_s_ior sc k nx r1 r2 0 .eq l l' st h
  | ixor => exact l_s_ixor sc k nx r1 r2 0 .eq l l' st h
  | ladd => exact l_s_ladd sc k nx r1 r2 0 .eq l l' st h
  | lsub => exact l_s_lsub sc k nx r1 r2 0 .eq l l' st h
  | land => exact l_s_land sc k nx r1 r2 0 .eq l l' st h
  | lor => exact l_s_lor sc k nx r1 r2 0 .eq l l' st h
  | lxor => exact l_s_lxor sc k nx r1 r2 0 .eq l l' st h
  | lshl => exact l_s_lshl sc k nx r1 r2 0 .eq l l' st h
  | lshr => exact l_s_lshr sc k nx r1 r2 0 .eq l l' st h
  | lushr => exact l_s_lushr sc k nx r1 r2 0 .eq l l' st h
  | lcmp => exact l_s_lcmp sc k nx r1 r2 0 .eq l l' st h
  | i2l => exact l_s_i2l sc k nx r1 r2 0 .eq l l' st h
  | l2i => exact l_s_l2i sc k nx r1 r2 0 .eq l l' st h
  | i2b => exact l_s_i2b sc k nx r1 r2 0 .eq l l' st h
  | dup => exact l_s_dup sc k nx r1 r2 0 .eq l l' st h
  | dup2 => exact l_s_dup2 sc k nx r1 r2 0 .eq l l' st h
  | ireturn => exact l_s_iret k l' st
  | lreturn => exact l_s_lret k l' st
  | areturn => exact l_s_aret k l' st
  | return_ => exact l_s_vret k l' st
  | lconst v => exact l_s_lconst sc k nx r1 r2 v.val .eq l l' st h
  | ifCond c f => exact l_s_if sc k nx r1 r2 0 c l l' st h
  | if_icmp c f => exact l_s_icmp sc k nx r1 r2 0 c l l' st h
  | if_acmp c f =>
    cases c with
    | ne => exact l_s_acmpne sc k nx r1 r2 0 .eq l l' st h
    | eq => rfl
  | newarray a => exact l_s_newa sc k nx r1 r2 (qatag a) .eq l l' st h
  | anewarray x => exact l_s_newa sc k nx r1 r2 r1 .eq l l' st h
  | iload _ | iload_n _ | lload _ | lload_n _ | aload _ | aload_n _ | istore _ | istore_n _ | lstore _ | lstore_n _ | astore _ | astore_n _ | iinc _ _ => simp [qloc] at hi
  | _ => rfl
def qhas (k : Nat) : qL → Bool
  | [] => false
  | (i, _) :: q => Nat.beq i k || qhas k q
def qnd : qL → Bool
  | [] => true
  | (i, _) :: q => !qhas i q && qnd q
theorem qhas_of {i : Nat} {v : Value} : ∀ {l : qL}, qlk l i = some v → qhas i l = true
  | [], h => by cases h
  | (a, w) :: q, h => by
    simp only [qlk] at h
    simp only [qhas]
    cases ha : Nat.beq a i with
    | true => rfl
    | false => rw [ha] at h; exact qhas_of h
theorem qhas_k1 {i j : Nat} : ∀ {l : qL}, qhas i (qk1 j l) = true → qhas i l = true ∧ Nat.beq i j = false
  | [], h => by cases h
  | (a, w) :: q, h => by
    simp only [qk1] at h
    simp only [qhas]
    cases hb : (Nat.beq a j || (Nat.beq (a + 1) j && qlong w)) with
    | true =>
      rw [hb] at h
      obtain ⟨h1, h2⟩ := qhas_k1 (l := q) h
      rw [h1, Bool.or_true]
      exact ⟨rfl, h2⟩
    | false =>
      rw [hb] at h
      simp only [cond_false, qhas, Bool.or_eq_true] at h
      simp only [Bool.or_eq_false_iff] at hb
      rcases h with h | h
      · rw [h]
        have e := Nat.eq_of_beq_eq_true h
        subst e
        exact ⟨rfl, hb.1⟩
      · obtain ⟨h1, h2⟩ := qhas_k1 (l := q) h
        rw [h1, Bool.or_true]
        exact ⟨rfl, h2⟩
theorem qhas_k2 {i j : Nat} : ∀ {l : qL}, qhas i (qk2 j l) = true → qhas i l = true ∧ Nat.beq i j = false
  | [], h => by cases h
  | (a, w) :: q, h => by
    simp only [qk2] at h
    simp only [qhas]
    cases hb : (Nat.beq a j || (Nat.beq a (j + 1) || (Nat.beq (a + 1) j && qlong w))) with
    | true =>
      rw [hb] at h
      obtain ⟨h1, h2⟩ := qhas_k2 (l := q) h
      rw [h1, Bool.or_true]
      exact ⟨rfl, h2⟩
    | false =>
      rw [hb] at h
      simp only [cond_false, qhas, Bool.or_eq_true] at h
      simp only [Bool.or_eq_false_iff] at hb
      rcases h with h | h
      · rw [h]
        have e := Nat.eq_of_beq_eq_true h
        subst e
        exact ⟨rfl, hb.1⟩
      · obtain ⟨h1, h2⟩ := qhas_k2 (l := q) h
        rw [h1, Bool.or_true]
        exact ⟨rfl, h2⟩
theorem qnd_k1 {j : Nat} : ∀ {l : qL}, qnd l = true → qnd (qk1 j l) = true
  | [], _ => rfl
  | (a, w) :: q, h => by
    simp only [qnd, Bool.and_eq_true, Bool.not_eq_true'] at h
    simp only [qk1]
    cases hb : (Nat.beq a j || (Nat.beq (a + 1) j && qlong w)) with
    | true => exact qnd_k1 h.2
    | false =>
      simp only [cond_false, qnd, Bool.and_eq_true, Bool.not_eq_true']
      refine ⟨?_, qnd_k1 h.2⟩
      rw [Bool.eq_false_iff]
      intro z
      rw [(qhas_k1 z).1] at h
      cases h.1
theorem qnd_k2 {j : Nat} : ∀ {l : qL}, qnd l = true → qnd (qk2 j l) = true
  | [], _ => rfl
  | (a, w) :: q, h => by
    simp only [qnd, Bool.and_eq_true, Bool.not_eq_true'] at h
    simp only [qk2]
    cases hb : (Nat.beq a j || (Nat.beq a (j + 1) || (Nat.beq (a + 1) j && qlong w))) with
    | true => exact qnd_k2 h.2
    | false =>
      simp only [cond_false, qnd, Bool.and_eq_true, Bool.not_eq_true']
      refine ⟨?_, qnd_k2 h.2⟩
      rw [Bool.eq_false_iff]
      intro z
      rw [(qhas_k2 z).1] at h
      cases h.1
theorem qnd_c1 {j : Nat} {v : Value} {l : qL} (h : qnd l = true) : qnd ((j, v) :: qk1 j l) = true := by
  simp only [qnd, Bool.and_eq_true, Bool.not_eq_true']
  refine ⟨?_, qnd_k1 h⟩
  rw [Bool.eq_false_iff]
  intro z
  have := (qhas_k1 z).2
  rw [Nat.beq_refl] at this
  cases this
theorem qnd_c2 {j : Nat} {v : Value} {l : qL} (h : qnd l = true) : qnd ((j, v) :: qk2 j l) = true := by
  simp only [qnd, Bool.and_eq_true, Bool.not_eq_true']
  refine ⟨?_, qnd_k2 h⟩
  rw [Bool.eq_false_iff]
  intro z
  have := (qhas_k2 z).2
  rw [Nat.beq_refl] at this
  cases this
theorem qlk_k1 {j i : Nat} {v : Value} : ∀ {l : qL}, qnd l = true → qlk (qk1 j l) i = some v → qlk l i = some v ∧ Nat.beq i j = false ∧ (Nat.beq (i + 1) j && qlong v) = false
  | [], _, h => by cases h
  | (a, w) :: q, hn, h => by
    simp only [qnd, Bool.and_eq_true, Bool.not_eq_true'] at hn
    simp only [qk1] at h
    simp only [qlk]
    cases hb : (Nat.beq a j || (Nat.beq (a + 1) j && qlong w)) with
    | true =>
      rw [hb] at h
      obtain ⟨h1, h2, h3⟩ := qlk_k1 hn.2 h
      refine ⟨?_, h2, h3⟩
      cases ha : Nat.beq a i with
      | true =>
        exfalso
        have e := Nat.eq_of_beq_eq_true ha
        subst e
        rw [qhas_of h1] at hn
        cases hn.1
      | false => exact h1
    | false =>
      rw [hb] at h
      simp only [Bool.or_eq_false_iff] at hb
      simp only [cond_false, qlk] at h
      cases ha : Nat.beq a i with
      | true =>
        rw [ha] at h
        have e := Nat.eq_of_beq_eq_true ha
        subst e
        cases h
        exact ⟨rfl, hb.1, hb.2⟩
      | false =>
        rw [ha] at h
        exact qlk_k1 hn.2 h
theorem qlk_k2 {j i : Nat} {v : Value} : ∀ {l : qL}, qnd l = true → qlk (qk2 j l) i = some v → qlk l i = some v ∧ Nat.beq i j = false ∧ Nat.beq i (j + 1) = false ∧ (Nat.beq (i + 1) j && qlong v) = false
  | [], _, h => by cases h
  | (a, w) :: q, hn, h => by
    simp only [qnd, Bool.and_eq_true, Bool.not_eq_true'] at hn
    simp only [qk2] at h
    simp only [qlk]
    cases hb : (Nat.beq a j || (Nat.beq a (j + 1) || (Nat.beq (a + 1) j && qlong w))) with
    | true =>
      rw [hb] at h
      obtain ⟨h1, h2, h3⟩ := qlk_k2 hn.2 h
      refine ⟨?_, h2, h3⟩
      cases ha : Nat.beq a i with
      | true =>
        exfalso
        have e := Nat.eq_of_beq_eq_true ha
        subst e
        rw [qhas_of h1] at hn
        cases hn.1
      | false => exact h1
    | false =>
      rw [hb] at h
      simp only [Bool.or_eq_false_iff] at hb
      simp only [cond_false, qlk] at h
      cases ha : Nat.beq a i with
      | true =>
        rw [ha] at h
        have e := Nat.eq_of_beq_eq_true ha
        subst e
        cases h
        exact ⟨rfl, hb.1, hb.2.1, hb.2.2⟩
      | false =>
        rw [ha] at h
        exact qlk_k2 hn.2 h
theorem qlk_q1 {j i : Nat} {v : Value} : ∀ {l : qL}, qlk l i = some v → Nat.beq i j = false → (Nat.beq (i + 1) j && qlong v) = false → qlk (qk1 j l) i = some v
  | [], h, _, _ => by cases h
  | (a, w) :: q, h, h1, h2 => by
    simp only [qlk] at h
    simp only [qk1]
    cases ha : Nat.beq a i with
    | true =>
      rw [ha] at h
      have e := Nat.eq_of_beq_eq_true ha
      subst e
      cases h
      rw [h1, h2]
      simp only [Bool.or_self, cond_false, qlk, Nat.beq_refl, cond_true]
    | false =>
      rw [ha] at h
      have ih := qlk_q1 (l := q) h h1 h2
      cases (Nat.beq a j || (Nat.beq (a + 1) j && qlong w)) with
      | true => exact ih
      | false => simp only [cond_false, qlk, ha]; exact ih
theorem qlk_q2 {j i : Nat} {v : Value} : ∀ {l : qL}, qlk l i = some v → Nat.beq i j = false → Nat.beq i (j + 1) = false → (Nat.beq (i + 1) j && qlong v) = false → qlk (qk2 j l) i = some v
  | [], h, _, _, _ => by cases h
  | (a, w) :: q, h, h1, h3, h2 => by
    simp only [qlk] at h
    simp only [qk2]
    cases ha : Nat.beq a i with
    | true =>
      rw [ha] at h
      have e := Nat.eq_of_beq_eq_true ha
      subst e
      cases h
      rw [h1, h2, h3]
      simp only [Bool.or_self, cond_false, qlk, Nat.beq_refl, cond_true]
    | false =>
      rw [ha] at h
      have ih := qlk_q2 (l := q) h h1 h3 h2
      cases (Nat.beq a j || (Nat.beq a (j + 1) || (Nat.beq (a + 1) j && qlong w))) with
      | true => exact ih
      | false => simp only [cond_false, qlk, ha]; exact ih
theorem qle_c1 {j : Nat} {v : Value} {l l' : qL} (hn : qnd l = true) (hl : qle l l') : qle ((j, v) :: qk1 j l) ((j, v) :: qk1 j l') := by
  intro i w h
  simp only [qlk] at h ⊢
  cases hj : Nat.beq j i with
  | true => rw [hj] at h; exact h
  | false =>
    rw [hj] at h
    obtain ⟨h1, h2, h3⟩ := qlk_k1 hn h
    exact qlk_q1 (hl _ _ h1) h2 h3
theorem qle_c2 {j : Nat} {v : Value} {l l' : qL} (hn : qnd l = true) (hl : qle l l') : qle ((j, v) :: qk2 j l) ((j, v) :: qk2 j l') := by
  intro i w h
  simp only [qlk] at h ⊢
  cases hj : Nat.beq j i with
  | true => rw [hj] at h; exact h
  | false =>
    rw [hj] at h
    obtain ⟨h1, h2, h3, h4⟩ := qlk_k2 hn h
    exact qlk_q2 (hl _ _ h1) h2 h3 h4
theorem qgo_sub {f : qK → Option (Option Value × qH)} {l l' : qL} (hf : ∀ k pc st h x, f (k, pc, l, st, h) = some x → f (k, pc, l', st, h) = some x) : ∀ (res : qR) (h : qH) (x : Option Value × qH), qgo f (qsetL l res) h = some x → qgo f (qsetL l' res) h = some x
  | none, h, x, hx => by cases hx
  | some (.inl c), h, x, hx => hf _ _ _ _ _ hx
  | some (.inr (.inl (true, c1, c2))), h, x, hx => hf _ _ _ _ _ hx
  | some (.inr (.inl (false, c1, c2))), h, x, hx => hf _ _ _ _ _ hx
  | some (.inr (.inr (.inl v))), h, x, hx => hx
  | some (.inr (.inr (.inr (.inl (true, c))))), h, x, hx => hf _ _ _ _ _ hx
  | some (.inr (.inr (.inr (.inl (false, c))))), h, x, hx => by cases hx
  | some (.inr (.inr (.inr (.inr (k', as, c))))), h, x, hx => by
    have hx : (match f (k', 0, qargs 0 as, [], h) with
      | none => none
      | some (v, h2) => f (c.1, c.2.1, l, v.toList ++ c.2.2.2.1, h2)) = some x := hx
    show (match f (k', 0, qargs 0 as, [], h) with
      | none => none
      | some (v, h2) => f (c.1, c.2.1, l', v.toList ++ c.2.2.2.1, h2)) = some x
    cases hc : f (k', 0, qargs 0 as, [], h) with
    | none => rw [hc] at hx; cases hx
    | some q =>
      obtain ⟨v, h2⟩ := q
      rw [hc] at hx
      exact hf _ _ _ _ _ hx
def qmonoL (f : qK → Option (Option Value × qH)) : Prop := ∀ (l l' : qL), qnd l = true → qle l l' → ∀ k pc st h x, f (k, pc, l, st, h) = some x → f (k, pc, l', st, h) = some x
section UL
variable {f : qK → Option (Option Value × qH)} {k nx j : Nat} {l l' : qL} {st : List Value} {h : qH} {x : Option Value × qH}
theorem u_ild (hf : qmonoL f) (hn : qnd l = true) (hl : qle l l') (hx : qgo f (s_ild k nx l st h j) h = some x) : qgo f (s_ild k nx l' st h j) h = some x := by
  unfold s_ild at hx ⊢
  cases hv : qlk l j with
  | none => rw [hv] at hx; cases hx
  | some v =>
    rw [hv] at hx
    rw [hl _ _ hv]
    cases v <;> first | exact hf l l' hn hl _ _ _ _ _ hx | cases hx
theorem u_lld (hf : qmonoL f) (hn : qnd l = true) (hl : qle l l') (hx : qgo f (s_lld k nx l st h j) h = some x) : qgo f (s_lld k nx l' st h j) h = some x := by
  unfold s_lld at hx ⊢
  cases hv : qlk l j with
  | none => rw [hv] at hx; cases hx
  | some v =>
    rw [hv] at hx
    rw [hl _ _ hv]
    cases v <;> first | exact hf l l' hn hl _ _ _ _ _ hx | cases hx
theorem u_ald (hf : qmonoL f) (hn : qnd l = true) (hl : qle l l') (hx : qgo f (s_ald k nx l st h j) h = some x) : qgo f (s_ald k nx l' st h j) h = some x := by
  unfold s_ald at hx ⊢
  cases hv : qlk l j with
  | none => rw [hv] at hx; cases hx
  | some v =>
    rw [hv] at hx
    rw [hl _ _ hv]
    cases v <;> first | exact hf l l' hn hl _ _ _ _ _ hx | cases hx
theorem u_iinc {v9 : Int} (hf : qmonoL f) (hn : qnd l = true) (hl : qle l l') (hx : qgo f (s_iinc k nx l st h j v9) h = some x) : qgo f (s_iinc k nx l' st h j v9) h = some x := by
  unfold s_iinc at hx ⊢
  cases hv : qlk l j with
  | none => rw [hv] at hx; cases hx
  | some v =>
    rw [hv] at hx
    rw [hl _ _ hv]
    cases v <;> first | (cases hx; done) | skip
    cases hb : Nat.blt j (qmaxL k) with
    | false => simp only [hb] at hx; cases hx
    | true =>
      simp only [hb] at hx ⊢
      exact hf _ _ (qnd_c1 hn) (qle_c1 hn hl) _ _ _ _ _ hx
theorem u_ist (hf : qmonoL f) (hn : qnd l = true) (hl : qle l l') (hx : qgo f (s_ist k nx l st h j) h = some x) : qgo f (s_ist k nx l' st h j) h = some x := by
  unfold s_ist at hx ⊢
  split at hx
  next y st =>
    cases hb : Nat.blt j (qmaxL k) with
    | false => rw [hb] at hx; cases hx
    | true =>
      simp only [hb] at hx ⊢
      exact hf _ _ (qnd_c1 hn) (qle_c1 hn hl) _ _ _ _ _ hx
  next => cases hx
theorem u_lst (hf : qmonoL f) (hn : qnd l = true) (hl : qle l l') (hx : qgo f (s_lst k nx l st h j) h = some x) : qgo f (s_lst k nx l' st h j) h = some x := by
  unfold s_lst at hx ⊢
  split at hx
  next y st =>
    cases hb : Nat.blt (j + 1) (qmaxL k) with
    | false => rw [hb] at hx; cases hx
    | true =>
      simp only [hb] at hx ⊢
      exact hf _ _ (qnd_c2 hn) (qle_c2 hn hl) _ _ _ _ _ hx
  next => cases hx
theorem u_ast (hf : qmonoL f) (hn : qnd l = true) (hl : qle l l') (hx : qgo f (s_ast k nx l st h j) h = some x) : qgo f (s_ast k nx l' st h j) h = some x := by
  unfold s_ast at hx ⊢
  split at hx
  next y st =>
    cases hb : Nat.blt j (qmaxL k) with
    | false => rw [hb] at hx; cases hx
    | true =>
      simp only [hb] at hx ⊢
      exact hf _ _ (qnd_c1 hn) (qle_c1 hn hl) _ _ _ _ _ hx
  next st =>
    cases hb : Nat.blt j (qmaxL k) with
    | false => rw [hb] at hx; cases hx
    | true =>
      simp only [hb] at hx ⊢
      exact hf _ _ (qnd_c1 hn) (qle_c1 hn hl) _ _ _ _ _ hx
  next => cases hx
end UL
theorem run_sub {sc : Nat × (Nat → Int32)} : ∀ (n k pc : Nat) (l l' : qL) (st : List Value) (h : qH) (x : Option Value × qH), qnd l = true → qle l l' → run sc n (k, pc, l, st, h) = some x → run sc n (k, pc, l', st, h) = some x
  | 0, _, _, _, _, _, _, _, _, _, hx => by cases hx
  | n + 1, k, pc, l, l', st, h, x, hn, hl, hx => by
    have IH := fun (l l' : qL) (hn : qnd l = true) (hl : qle l l') k pc st h x => run_sub (sc := sc) n k pc l l' st h x hn hl
    have hx : qgo (run sc n) (qstep sc (k, pc, l, st, h)) h = some x := hx
    show qgo (run sc n) (qstep sc (k, pc, l', st, h)) h = some x
    cases hq : qins k pc with
    | none =>
      have e : qstep sc (k, pc, l, st, h) = none := by unfold qstep; rw [hq]
      rw [e] at hx
      cases hx
    | some e9 =>
      obtain ⟨i, nx, t1, t2⟩ := e9
      have e : ∀ l, qstep sc (k, pc, l, st, h) = qstepI sc i k nx t1 t2 l st h := fun l => by unfold qstep; rw [hq]
      rw [e] at hx ⊢
      cases hloc : qloc i with
      | false =>
        rw [qstepI_set sc i hloc k nx t1 t2 l l st h] at hx
        rw [qstepI_set sc i hloc k nx t1 t2 l l' st h]
        exact qgo_sub (IH l l' hn hl) _ h x hx
      | true =>
        have hf : qmonoL (run sc n) := fun l l' hn hl k pc st h x => IH l l' hn hl k pc st h x
        cases i <;> first | (simp [qloc] at hloc; done) | exact u_ild hf hn hl hx | exact u_lld hf hn hl hx | exact u_ald hf hn hl hx | exact u_iinc hf hn hl hx | exact u_ist hf hn hl hx | exact u_lst hf hn hl hx | exact u_ast hf hn hl hx
/-- a list of locals within another -/
def qsubs : qL → qL → Prop
  | [], _ => True
  | (i, v) :: q, l' => qlk l' i = some v ∧ qsubs q l'
theorem qle_subs : ∀ {l l' : qL}, qsubs l l' → qle l l'
  | [], l', _ => fun i v h => by cases h
  | (a, w) :: q, l', hs => fun i v h => by
    simp only [qlk] at h
    cases ha : Nat.beq a i with
    | true =>
      rw [ha] at h
      cases h
      rw [← Nat.eq_of_beq_eq_true ha]
      exact hs.1
    | false =>
      rw [ha] at h
      exact qle_subs hs.2 i v h
theorem wp_sub {sc : Nat × (Nat → Int32)} {Q : Option Value → qH → Prop} {k pc : Nat} {l l' : qL} {st : List Value} {h : qH} (hw : wp sc (k, pc, l, st, h) Q) (hn : qnd l = true) (hs : qsubs l l') : wp sc (k, pc, l', st, h) Q := by
  obtain ⟨n, r, h', e, q⟩ := hw
  exact ⟨n, r, h', run_sub n k pc l l' st h _ hn (qle_subs hs) e, q⟩
