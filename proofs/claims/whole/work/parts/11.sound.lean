theorem q_nonest (a : String) (x : Nat) : ¬ (Jvm.Cond.methodLinkNest a x Lib.objectInit "AbilityChecker") ∈ qnest := by
  intro h
  have key : ∀ w ∈ qnest, ∀ a x, w ≠ Jvm.Cond.methodLinkNest a x Lib.objectInit "AbilityChecker" := by
    refine List.forall_mem_cons.mpr ⟨fun a x e => ?_, List.forall_mem_cons.mpr ⟨fun a x e => ?_, List.forall_mem_cons.mpr ⟨fun a x e => ?_, List.forall_mem_cons.mpr ⟨fun a x e => ?_, fun _ h => absurd h List.not_mem_nil⟩⟩⟩⟩
    all_goals
      injection e with e1 e2 e3 e4
      exact absurd (congrArg MethodName.cls e3) (by decide +kernel)
  exact key _ h a x rfl
/-! Soundness: what 'run' answers, the machine answers. -/
theorem qsound (sc : Nat × (Nat → Int32)) : ∀ n, qSound sc n
  | 0 => fun k pc ls st h r h' hr => by cases hr
  | n + 1 => by
    have S := qsound sc n
    intro k pc ls st h r h' hr
    have hr : qgo (run sc n) (qstep sc (k, pc, ls, st, h)) h = some (r, h') := hr
    cases hq : qins k pc with
    | none =>
      have e : qstep sc (k, pc, ls, st, h) = none := by unfold qstep; rw [hq]
      rw [e] at hr
      simp [qgo] at hr
    | some e9 =>
      obtain ⟨i, nx, r1, r2⟩ := e9
      obtain ⟨hd, hle, hlen, harg⟩ := qok hq
      have e : qstep sc (k, pc, ls, st, h) = qstepI sc i k nx r1 r2 ls st h := by unfold qstep; rw [hq]
      rw [e] at hr
      clear e hq
      have hx : ∀ L, qil i = L + 1 → nx = pc + (L + 1) := fun L e => by
        rcases hlen with z | z
        · omega
        · omega
      cases i with
      | iload j => exact o_iload (r1 := r1) (r2 := r2) S hd (hx 1 rfl) hr
      | iload_n j => exact o_iload_n (r1 := r1) (r2 := r2) S hd (hx 0 rfl) hr
      | lload j => exact o_lload (r1 := r1) (r2 := r2) S hd (hx 1 rfl) hr
      | lload_n j => exact o_lload_n (r1 := r1) (r2 := r2) S hd (hx 0 rfl) hr
      | aload j => exact o_aload (r1 := r1) (r2 := r2) S hd (hx 1 rfl) hr
      | aload_n j => exact o_aload_n (r1 := r1) (r2 := r2) S hd (hx 0 rfl) hr
      | istore j => exact o_istore (r1 := r1) (r2 := r2) S hd (hx 1 rfl) hr
      | istore_n j => exact o_istore_n (r1 := r1) (r2 := r2) S hd (hx 0 rfl) hr
      | lstore j => exact o_lstore (r1 := r1) (r2 := r2) S hd (hx 1 rfl) hr
      | lstore_n j => exact o_lstore_n (r1 := r1) (r2 := r2) S hd (hx 0 rfl) hr
      | astore j => exact o_astore (r1 := r1) (r2 := r2) S hd (hx 1 rfl) hr
      | astore_n j => exact o_astore_n (r1 := r1) (r2 := r2) S hd (hx 0 rfl) hr
      | iinc j v => exact o_iinc (r1 := r1) (r2 := r2) S hd (hx 2 rfl) hr
      | iconst v => exact o_iconst (r1 := r1) (r2 := r2) (of_decide_eq_true harg) S hd (hx 0 rfl) hr
      | bipush v => exact o_bipush (r1 := r1) (r2 := r2) (of_decide_eq_true harg) S hd (hx 1 rfl) hr
      | sipush v => exact o_sipush (r1 := r1) (r2 := r2) (of_decide_eq_true harg) S hd (hx 2 rfl) hr
      | lconst v => exact o_lconst (r1 := r1) (r2 := r2) S hd (hx 0 rfl) hr
      | aconst_null => exact o_null (r1 := r1) (r2 := r2) S hd (hx 0 rfl) hr
      | ldc2_w x => exact o_ldc2 S hd (hx 2 rfl) harg hr
      | goto f => exact o_goto (r1 := r1) (r2 := r2) (of_decide_eq_true harg) S hd (hx 2 rfl) hr
      | ifnull f => exact o_ifnull (r1 := r1) (r2 := r2) (of_decide_eq_true harg) S hd (hx 2 rfl) hr
      | ifnonnull f => exact o_ifnonnull (r1 := r1) (r2 := r2) (of_decide_eq_true harg) S hd (hx 2 rfl) hr
      | getfield x => exact o_getf S hd (hx 2 rfl) harg hr
      | putfield x => exact o_putf S hd (hx 2 rfl) (Bool.and_eq_true_iff.mp harg).1 (Bool.and_eq_true_iff.mp harg).2 hr
      | new x => exact o_new S hd (hx 2 rfl) harg hr
      | newarray a => exact o_newarray S hd (hx 1 rfl) harg hr
      | anewarray x => exact o_anewarray S hd (hx 2 rfl) harg hr
      | ireturn => exact o_ireturn hd (hx 0 rfl) hr
      | lreturn => exact o_lreturn hd (hx 0 rfl) hr
      | areturn => exact o_areturn hd (hx 0 rfl) hr
      | return_ => exact o_return hd (hx 0 rfl) hr
      | arraylength => exact o_alen S hd (hx 0 rfl) hr
      | iaload => exact o_iald S hd (hx 0 rfl) hr
      | laload => exact o_lald S hd (hx 0 rfl) hr
      | baload => exact o_bald S hd (hx 0 rfl) hr
      | aaload => exact o_aald S hd (hx 0 rfl) hr
      | iastore => exact o_iast S hd (hx 0 rfl) hr
      | lastore => exact o_last S hd (hx 0 rfl) hr
      | bastore => exact o_bast S hd (hx 0 rfl) hr
      | aastore => exact o_aast S hd (hx 0 rfl) hr
      | iadd => exact o_iadd (r1 := r1) (r2 := r2) S hd (hx 0 rfl) hr
      | isub => exact o_isub (r1 := r1) (r2 := r2) S hd (hx 0 rfl) hr
      | imul => exact o_imul (r1 := r1) (r2 := r2) S hd (hx 0 rfl) hr
      | irem => exact o_irem (r1 := r1) (r2 := r2) S hd (hx 0 rfl) hr
      | ineg => exact o_ineg (r1 := r1) (r2 := r2) S hd (hx 0 rfl) hr
      | iand => exact o_iand (r1 := r1) (r2 := r2) S hd (hx 0 rfl) hr
      | ior => exact o_ior (r1 := r1) (r2 := r2) S hd (hx 0 rfl) hr
      | ixor => exact o_ixor (r1 := r1) (r2 := r2) S hd (hx 0 rfl) hr
      | ladd => exact o_ladd (r1 := r1) (r2 := r2) S hd (hx 0 rfl) hr
      | lsub => exact o_lsub (r1 := r1) (r2 := r2) S hd (hx 0 rfl) hr
      | land => exact o_land (r1 := r1) (r2 := r2) S hd (hx 0 rfl) hr
      | lor => exact o_lor (r1 := r1) (r2 := r2) S hd (hx 0 rfl) hr
      | lxor => exact o_lxor (r1 := r1) (r2 := r2) S hd (hx 0 rfl) hr
      | lshl => exact o_lshl (r1 := r1) (r2 := r2) S hd (hx 0 rfl) hr
      | lshr => exact o_lshr (r1 := r1) (r2 := r2) S hd (hx 0 rfl) hr
      | lushr => exact o_lushr (r1 := r1) (r2 := r2) S hd (hx 0 rfl) hr
      | lcmp => exact o_lcmp (r1 := r1) (r2 := r2) S hd (hx 0 rfl) hr
      | i2l => exact o_i2l (r1 := r1) (r2 := r2) S hd (hx 0 rfl) hr
      | l2i => exact o_l2i (r1 := r1) (r2 := r2) S hd (hx 0 rfl) hr
      | i2b => exact o_i2b (r1 := r1) (r2 := r2) S hd (hx 0 rfl) hr
      | dup => exact o_dup (r1 := r1) (r2 := r2) S hd (hx 0 rfl) hr
      | dup2 => exact o_dup2 (r1 := r1) (r2 := r2) S hd (hx 0 rfl) hr
      | ifCond c f =>
        have ht := of_decide_eq_true harg
        cases c with
        | eq => exact o_if_eq (r1 := r1) (r2 := r2) ht S hd (hx 2 rfl) hr
        | ne => exact o_if_ne (r1 := r1) (r2 := r2) ht S hd (hx 2 rfl) hr
        | lt => exact o_if_lt (r1 := r1) (r2 := r2) ht S hd (hx 2 rfl) hr
        | ge => exact o_if_ge (r1 := r1) (r2 := r2) ht S hd (hx 2 rfl) hr
        | gt => exact o_if_gt (r1 := r1) (r2 := r2) ht S hd (hx 2 rfl) hr
        | le => exact o_if_le (r1 := r1) (r2 := r2) ht S hd (hx 2 rfl) hr
      | if_icmp c f =>
        have ht := of_decide_eq_true harg
        cases c with
        | eq => exact o_icmp_eq (r1 := r1) (r2 := r2) ht S hd (hx 2 rfl) hr
        | ne => exact o_icmp_ne (r1 := r1) (r2 := r2) ht S hd (hx 2 rfl) hr
        | lt => exact o_icmp_lt (r1 := r1) (r2 := r2) ht S hd (hx 2 rfl) hr
        | ge => exact o_icmp_ge (r1 := r1) (r2 := r2) ht S hd (hx 2 rfl) hr
        | gt => exact o_icmp_gt (r1 := r1) (r2 := r2) ht S hd (hx 2 rfl) hr
        | le => exact o_icmp_le (r1 := r1) (r2 := r2) ht S hd (hx 2 rfl) hr
      | if_acmp c f =>
        have ht := of_decide_eq_true harg
        cases c with
        | ne => exact o_acmpne (r1 := r1) (r2 := r2) ht S hd (hx 2 rfl) hr
        | eq => exact absurd (show none = some (r, h') from hr) (by simp)
      | tableswitch d lo hi offs =>
        simp only [qarg, Bool.and_eq_true, decide_eq_true_eq] at harg
        exact o_table S hd harg.1 harg.2.1 harg.2.2.1 hr
      | lookupswitch d ps =>
        simp only [qarg, Bool.and_eq_true, decide_eq_true_eq] at harg
        exact o_lookup S hd harg.1 harg.2.1 harg.2.2 hr
      | invokevirtual x =>
        simp only [qarg, Bool.and_eq_true] at harg
        exact o_virtual S hd (hx 2 rfl) harg.1 harg.2.1 (Nat.blt_eq.mp harg.2.2.1) harg.2.2.2 hr
      | invokestatic x =>
        have harg := Bool.and_eq_true_iff.mp harg
        have hl9 := q_ml harg.1
        have ha := harg.2
        have hr : qgo (run sc n) (s_static k nx r1 ls st h) h = some (r, h') := hr
        unfold s_static at hr
        split at hr
        next =>
          have ha : (Nat.ble 1 (qnf k) && Nat.ble 21 (qnl k)) = true := ha
          simp only [Bool.and_eq_true, Nat.ble_eq] at ha
          exact o_min S hd (hx 2 rfl) hl9 ha.1 ha.2 hr
        next =>
          have ha : (Nat.ble 1 (qnf k) && Nat.ble 60 (qnl k)) = true := ha
          simp only [Bool.and_eq_true, Nat.ble_eq] at ha
          exact o_copy S hd (hx 2 rfl) hl9 ha.1 ha.2 hr
        next h1 h2 =>
          have e1 : Nat.beq r1 1000 = false := by rw [Bool.eq_false_iff]; intro z; exact h1 (Nat.eq_of_beq_eq_true z)
          have e2 : Nat.beq r1 1001 = false := by rw [Bool.eq_false_iff]; intro z; exact h2 (Nat.eq_of_beq_eq_true z)
          rw [e1, e2] at ha
          simp only [cond_false, Bool.and_eq_true] at ha
          exact o_callS S hd (hx 2 rfl) hl9 ha.1 (Nat.blt_eq.mp ha.2.1) ha.2.2 hr
      | invokespecial x =>
        have harg := Bool.and_eq_true_iff.mp harg
        have hl9 := q_mln harg.1
        have ha := harg.2
        have hr : qgo (run sc n) (s_special k nx r1 ls st h) h = some (r, h') := hr
        unfold s_special at hr
        split at hr
        next =>
          have ha : (Nat.ble 1 (qnf k) && Nat.ble 12 (qnl k)) = true := ha
          simp only [Bool.and_eq_true, Nat.ble_eq] at ha
          rcases hl9 with hl9 | hl9
          · exact o_objinit S hd (hx 2 rfl) hl9 ha.1 ha.2 hr
          · exact absurd (show (Jvm.Cond.methodLinkNest (qcn (qown k)) x Lib.objectInit "AbilityChecker") ∈ qnest from hl9) (q_nonest _ _)
        next h1 =>
          have e1 : Nat.beq r1 1002 = false := by rw [Bool.eq_false_iff]; intro z; exact h1 (Nat.eq_of_beq_eq_true z)
          rw [e1] at ha
          simp only [cond_false, Bool.and_eq_true] at ha
          split at hr
          next a as0 rest0 hsp => exact o_callI S hd (hx 2 rfl) hl9 ha.1 (Nat.blt_eq.mp ha.2.1) ha.2.2 hsp hr
          next => simp [qgo] at hr
      | _ => exact absurd (show none = some (r, h') from hr) (by simp)
