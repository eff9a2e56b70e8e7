/-! the reference's parser: operator, expression -/
theorem yopr_101 {g : am_G} {l : Launch} {σ : am_S} {m a d x : Nat} {ts : List (Nat × Int32)} {b : Bool} {o : yp_O} {W H : List Nat} {ns ou : Int32} {w : Bool} {z1 z2 : Option Value} {Q : Option Value → am_S → Prop} (h : yZ σ m ts a b o W H ns ou w) (hx : 3 ≤ x ∧ x ≤ 13) (hl2 : W.length < 82)
    (hQ : ∀ σ', yZ σ' m ts (a + 1) b o (x :: W) H ns ou true → yb_f m σ σ' → Q (some (.int 1)) σ') : am_W g l mX10_operator d (am_tp σ, am_us σ) Q 101 [some (.ref m), some (.int (nI x)), z1, z2] [] σ := by
  obtain ⟨hH, hT, hP, hW, hHH⟩ := id h
  have e19 : am_i σ m 19 = nI W.length := hP.2.2.2.1.1
  have e12 : am_i σ m 12 = nI a := hP.1
  refine kX10_operator_101 ?_
  simp (disch := omega) only [ax_const, ax_iload, ax_lload, ax_aload, ax_istore, ax_astore, ax_iinc, ax_i2, ax_i2n, ax_l2, ax_lsh, ax_ii, ax_il, ax_li, ax_pop, ax_dup, ax_dup2, ax_if, ax_cmp, ax_acmp, ax_goto, ax_getI, ax_getR, ax_putI, ax_putR, ax_gets, ax_getsT, ax_aldI, ax_aldR, ax_astI, ax_astR, ax_alen, ax_ret, ax_aret, ax_vret, am_st, am_kl, List.getElem?_cons_zero, List.getElem?_cons_succ, List.set_cons_zero, List.set_cons_succ, Value.category, true_and, and_true, if_true, if_false, reduceCtorEq, Bool.false_eq_true, false_implies, forall_const, Option.some.injEq, exists_eq_left', exists_eq_left, Sum.inl.injEq, Sum.inr.injEq, Prod.mk.injEq, nI_toInt, nI_clamp, am_ix_nI, am_ix_0, am_ix_1, am_ix_2, am_ix_3, am_n0, am_n1, am_n2, am_n3, am_n4, am_t0, am_t1, am_t2, am_t3, am_t4, am_tm1, am_nS, am_nP, am_nM, Int.ofNat_lt, Int.ofNat_le, am_sh_wi, am_r_wi, am_tp_wi, am_us_wi, ym_is, ym_io, ym_ij, hH.1, hH.r16, hH.s16, e19, e12]
  have hf : yb_f m σ (am_wi (am_wi (am_wi (am_wi σ (m + 14) W.length (nI x)) m 19 (nI (W.length + 1))) m 12 (nI (a + 1))) m 23 (yb true)) := (((yb_f.rf.wa (by omega) (by omega)).wf (by decide) (by decide)).wf (by decide) (by decide)).wf (by decide) (by decide)
  refine ⟨hl2, Or.inr trivial, Or.inr trivial, hQ _ (h.up hf (((hP.push).at (a + 1)).wt true) (fun y hy => (List.mem_cons.mp hy).elim (fun e => by rw [e]; exact hx) (hW y)) hHH) hf⟩
theorem yopr_45 {g : am_G} {l : Launch} {m a d x tp us : Nat} {ts : List (Nat × Int32)} {b : Bool} {H : List Nat} {ns ou : Int32} {w : Bool} {z1 z2 : Option Value} {Q : Option Value → am_S → Prop} (hd : 1 ≤ d) (hx : 3 ≤ x ∧ x ≤ 5) : ∀ (W : List Nat) (σ : am_S) (o : yp_O), yZ σ m ts a b o W H ns ou w → o.length + W.length ≤ 99 → W.length < 82 → am_tp σ = tp → am_us σ = us →
    (∀ σ', yZ σ' m ts (a + 1) b (yp_pp x W o).1 (x :: (yp_pp x W o).2) H ns ou true → yb_f m σ σ' → Q (some (.int 1)) σ') → am_W g l mX10_operator d (tp, us) Q 45 [some (.ref m), some (.int (nI x)), z1, z2] [] σ := by
  intro W
  induction W with
  | nil =>
    intro σ o h hl hl2 h1 h2 hQ
    obtain ⟨hH, hT, hP, hW, hHH⟩ := id h
    have fin : am_W g l mX10_operator d (tp, us) Q 101 [some (.ref m), some (.int (nI x)), z1, z2] [] σ := by
      rw [← h1, ← h2]
      exact yopr_101 h (by omega) hl2 hQ
    have lst : ∀ {K : am_K}, K [some (.ref m), some (.int (nI x)), z1, z2] [.int (nI 0)] σ → ax_call g l d (tp, us) mX10_last (some 10) 1 K [some (.ref m), some (.int (nI x)), z1, z2] [.ref m] σ := fun {K} hk => by
      refine am_callK [.ref m] [] (d' := 0) (lim' := (am_tp σ, am_us σ)) rfl (by omega) (by rw [h1]; exact Nat.le_refl _) (by rw [h2]; exact Nat.le_refl _) rfl (by decide) (am_recv hH.1) ?_
      exact c_ylast h (by omega) (fun _ _ => hk)
    refine kX10_operator_45 ?_
    simp (disch := omega) only [ax_const, ax_iload, ax_lload, ax_aload, ax_istore, ax_astore, ax_iinc, ax_i2, ax_i2n, ax_l2, ax_lsh, ax_ii, ax_il, ax_li, ax_pop, ax_dup, ax_dup2, ax_if, ax_cmp, ax_acmp, ax_goto, ax_getI, ax_getR, ax_putI, ax_putR, ax_gets, ax_getsT, ax_aldI, ax_aldR, ax_astI, ax_astR, ax_alen, ax_ret, ax_aret, ax_vret, am_st, am_kl, List.getElem?_cons_zero, List.getElem?_cons_succ, List.set_cons_zero, List.set_cons_succ, Value.category, true_and, and_true, if_true, if_false, reduceCtorEq, Bool.false_eq_true, false_implies, forall_const, Option.some.injEq, exists_eq_left', exists_eq_left, Sum.inl.injEq, Sum.inr.injEq, Prod.mk.injEq]
    refine lst ?_
    simp (disch := omega) only [ax_const, ax_iload, ax_lload, ax_aload, ax_istore, ax_astore, ax_iinc, ax_i2, ax_i2n, ax_l2, ax_lsh, ax_ii, ax_il, ax_li, ax_pop, ax_dup, ax_dup2, ax_if, ax_cmp, ax_acmp, ax_goto, ax_getI, ax_getR, ax_putI, ax_putR, ax_gets, ax_getsT, ax_aldI, ax_aldR, ax_astI, ax_astR, ax_alen, ax_ret, ax_aret, ax_vret, am_st, am_kl, List.getElem?_cons_zero, List.getElem?_cons_succ, List.set_cons_zero, List.set_cons_succ, Value.category, true_and, and_true, if_true, if_false, reduceCtorEq, Bool.false_eq_true, false_implies, forall_const, Option.some.injEq, exists_eq_left', exists_eq_left, Sum.inl.injEq, Sum.inr.injEq, Prod.mk.injEq, yl_5, yl_eq, yl_lt]
    refine fun _ => ⟨fun _ => lst ?_, fun _ => fin⟩
    simp (disch := omega) only [ax_const, ax_iload, ax_lload, ax_aload, ax_istore, ax_astore, ax_iinc, ax_i2, ax_i2n, ax_l2, ax_lsh, ax_ii, ax_il, ax_li, ax_pop, ax_dup, ax_dup2, ax_if, ax_cmp, ax_acmp, ax_goto, ax_getI, ax_getR, ax_putI, ax_putR, ax_gets, ax_getsT, ax_aldI, ax_aldR, ax_astI, ax_astR, ax_alen, ax_ret, ax_aret, ax_vret, am_st, am_kl, List.getElem?_cons_zero, List.getElem?_cons_succ, List.set_cons_zero, List.set_cons_succ, Value.category, true_and, and_true, if_true, if_false, reduceCtorEq, Bool.false_eq_true, false_implies, forall_const, Option.some.injEq, exists_eq_left', exists_eq_left, Sum.inl.injEq, Sum.inr.injEq, Prod.mk.injEq, yl_3, yl_eq]
    refine fun _ => lst ?_
    simp (disch := omega) only [ax_const, ax_iload, ax_lload, ax_aload, ax_istore, ax_astore, ax_iinc, ax_i2, ax_i2n, ax_l2, ax_lsh, ax_ii, ax_il, ax_li, ax_pop, ax_dup, ax_dup2, ax_if, ax_cmp, ax_acmp, ax_goto, ax_getI, ax_getR, ax_putI, ax_putR, ax_gets, ax_getsT, ax_aldI, ax_aldR, ax_astI, ax_astR, ax_alen, ax_ret, ax_aret, ax_vret, am_st, am_kl, List.getElem?_cons_zero, List.getElem?_cons_succ, List.set_cons_zero, List.set_cons_succ, Value.category, true_and, and_true, if_true, if_false, reduceCtorEq, Bool.false_eq_true, false_implies, forall_const, Option.some.injEq, exists_eq_left', exists_eq_left, Sum.inl.injEq, Sum.inr.injEq, Prod.mk.injEq, yl_4, yl_eq]
    exact fun _ => fin
  | cons y W ih =>
    intro σ o h hl hl2 h1 h2 hQ
    obtain ⟨hH, hT, hP, hW, hHH⟩ := id h
    have hy := hW y List.mem_cons_self
    rw [yp_pp] at hQ
    rw [List.length_cons] at hl hl2
    have e19 : am_i σ m 19 = nI (W.length + 1) := hP.2.2.2.1.1
    obtain ⟨p1, p2⟩ := hP.pop
    have go : (y = 5 ∨ (x < 5 ∧ (y = 3 ∨ y = 4))) → am_W g l mX10_operator d (tp, us) Q 74 [some (.ref m), some (.int (nI x)), z1, z2] [] σ := by
      intro c
      rw [if_pos c] at hQ
      refine kX10_operator_74 ?_
      have p2' : am_i (am_wi σ m 19 (nI W.length)) (m + 14) W.length = nI y := by rw [ym_io (by omega)]; exact p2
      simp (disch := omega) only [ax_const, ax_iload, ax_lload, ax_aload, ax_istore, ax_astore, ax_iinc, ax_i2, ax_i2n, ax_l2, ax_lsh, ax_ii, ax_il, ax_li, ax_pop, ax_dup, ax_dup2, ax_if, ax_cmp, ax_acmp, ax_goto, ax_getI, ax_getR, ax_putI, ax_putR, ax_gets, ax_getsT, ax_aldI, ax_aldR, ax_astI, ax_astR, ax_alen, ax_ret, ax_aret, ax_vret, am_st, am_kl, List.getElem?_cons_zero, List.getElem?_cons_succ, List.set_cons_zero, List.set_cons_succ, Value.category, true_and, and_true, if_true, if_false, reduceCtorEq, Bool.false_eq_true, false_implies, forall_const, Option.some.injEq, exists_eq_left', exists_eq_left, Sum.inl.injEq, Sum.inr.injEq, Prod.mk.injEq, nI_toInt, nI_clamp, am_ix_nI, am_ix_0, am_ix_1, am_ix_2, am_ix_3, am_n0, am_n1, am_n2, am_n3, am_n4, am_t0, am_t1, am_t2, am_t3, am_t4, am_tm1, am_nS, am_nP, am_nM, Int.ofNat_lt, Int.ofNat_le, am_sh_wi, am_r_wi, ym_is, hH.1, hH.r16, hH.s16, e19, yl_m1, Nat.add_sub_cancel, p2']
      have hf : yb_f m σ (am_wi σ m 19 (nI W.length)) := yb_f.rf.wf (by decide) (by decide)
      have h' : yZ (am_wi σ m 19 (nI W.length)) m ts a b o W H ns ou w := h.up hf p1 (fun q hq => hW q (List.mem_cons_of_mem _ hq)) hHH
      have h1' := hf.tp.trans h1
      have h2' := hf.us.trans h2
      generalize am_wi σ m 19 (nI W.length) = σ1 at *
      refine ⟨by omega, ?_⟩
      refine am_callK [.ref m, .int (nI y), .int (yκ (y, 0))] [] (d' := 0) (lim' := (am_tp σ1, am_us σ1)) (by rw [yκ_op (show y ≠ 2 by omega)]; rfl) (by omega) (by rw [h1']; exact Nat.le_refl _) (by rw [h2']; exact Nat.le_refl _) rfl (by decide) (am_recv h'.1.1) ?_
      refine c_yemit (q := (y, 0)) h' (by omega) (show y < 100 by omega) (fun σ2 k2 f2 t2 u2 => ?_)
      simp (disch := omega) only [ax_const, ax_iload, ax_lload, ax_aload, ax_istore, ax_astore, ax_iinc, ax_i2, ax_i2n, ax_l2, ax_lsh, ax_ii, ax_il, ax_li, ax_pop, ax_dup, ax_dup2, ax_if, ax_cmp, ax_acmp, ax_goto, ax_getI, ax_getR, ax_putI, ax_putR, ax_gets, ax_getsT, ax_aldI, ax_aldR, ax_astI, ax_astR, ax_alen, ax_ret, ax_aret, ax_vret, am_st, am_kl, List.getElem?_cons_zero, List.getElem?_cons_succ, List.set_cons_zero, List.set_cons_succ, Value.category, true_and, and_true, if_true, if_false, reduceCtorEq, Bool.false_eq_true, false_implies, forall_const, Option.some.injEq, exists_eq_left', exists_eq_left, Sum.inl.injEq, Sum.inr.injEq, Prod.mk.injEq, Option.toList_some, Option.toList_none, List.cons_append, List.nil_append, List.append_nil]
      exact ih σ2 (o ++ [(y, 0)]) k2 (by rw [List.length_append]; simp; omega) (by omega) (t2.trans h1') (u2.trans h2') (fun σ3 k3 f3 => hQ σ3 k3 ((hf.tr f2).tr f3))
    have fin : ¬ (y = 5 ∨ (x < 5 ∧ (y = 3 ∨ y = 4))) → am_W g l mX10_operator d (tp, us) Q 101 [some (.ref m), some (.int (nI x)), z1, z2] [] σ := by
      intro c
      rw [if_neg c] at hQ
      rw [← h1, ← h2]
      exact yopr_101 h (by omega) (by rw [List.length_cons]; exact hl2) hQ
    have lst : ∀ {K : am_K}, K [some (.ref m), some (.int (nI x)), z1, z2] [.int (nI y)] σ → ax_call g l d (tp, us) mX10_last (some 10) 1 K [some (.ref m), some (.int (nI x)), z1, z2] [.ref m] σ := fun {K} hk => by
      refine am_callK [.ref m] [] (d' := 0) (lim' := (am_tp σ, am_us σ)) rfl (by omega) (by rw [h1]; exact Nat.le_refl _) (by rw [h2]; exact Nat.le_refl _) rfl (by decide) (am_recv hH.1) ?_
      exact c_ylast h (by rw [List.length_cons]; omega) (fun _ _ => hk)
    refine kX10_operator_45 ?_
    simp (disch := omega) only [ax_const, ax_iload, ax_lload, ax_aload, ax_istore, ax_astore, ax_iinc, ax_i2, ax_i2n, ax_l2, ax_lsh, ax_ii, ax_il, ax_li, ax_pop, ax_dup, ax_dup2, ax_if, ax_cmp, ax_acmp, ax_goto, ax_getI, ax_getR, ax_putI, ax_putR, ax_gets, ax_getsT, ax_aldI, ax_aldR, ax_astI, ax_astR, ax_alen, ax_ret, ax_aret, ax_vret, am_st, am_kl, List.getElem?_cons_zero, List.getElem?_cons_succ, List.set_cons_zero, List.set_cons_succ, Value.category, true_and, and_true, if_true, if_false, reduceCtorEq, Bool.false_eq_true, false_implies, forall_const, Option.some.injEq, exists_eq_left', exists_eq_left, Sum.inl.injEq, Sum.inr.injEq, Prod.mk.injEq]
    refine lst ?_
    simp (disch := omega) only [ax_const, ax_iload, ax_lload, ax_aload, ax_istore, ax_astore, ax_iinc, ax_i2, ax_i2n, ax_l2, ax_lsh, ax_ii, ax_il, ax_li, ax_pop, ax_dup, ax_dup2, ax_if, ax_cmp, ax_acmp, ax_goto, ax_getI, ax_getR, ax_putI, ax_putR, ax_gets, ax_getsT, ax_aldI, ax_aldR, ax_astI, ax_astR, ax_alen, ax_ret, ax_aret, ax_vret, am_st, am_kl, List.getElem?_cons_zero, List.getElem?_cons_succ, List.set_cons_zero, List.set_cons_succ, Value.category, true_and, and_true, if_true, if_false, reduceCtorEq, Bool.false_eq_true, false_implies, forall_const, Option.some.injEq, exists_eq_left', exists_eq_left, Sum.inl.injEq, Sum.inr.injEq, Prod.mk.injEq, yl_5, yl_eq, yl_lt]
    refine ⟨fun z => go (Or.inl z), fun n5 => ⟨fun l5 => lst ?_, fun n => fin (by omega)⟩⟩
    simp (disch := omega) only [ax_const, ax_iload, ax_lload, ax_aload, ax_istore, ax_astore, ax_iinc, ax_i2, ax_i2n, ax_l2, ax_lsh, ax_ii, ax_il, ax_li, ax_pop, ax_dup, ax_dup2, ax_if, ax_cmp, ax_acmp, ax_goto, ax_getI, ax_getR, ax_putI, ax_putR, ax_gets, ax_getsT, ax_aldI, ax_aldR, ax_astI, ax_astR, ax_alen, ax_ret, ax_aret, ax_vret, am_st, am_kl, List.getElem?_cons_zero, List.getElem?_cons_succ, List.set_cons_zero, List.set_cons_succ, Value.category, true_and, and_true, if_true, if_false, reduceCtorEq, Bool.false_eq_true, false_implies, forall_const, Option.some.injEq, exists_eq_left', exists_eq_left, Sum.inl.injEq, Sum.inr.injEq, Prod.mk.injEq, yl_3, yl_eq]
    refine ⟨fun z => go (Or.inr ⟨l5, Or.inl z⟩), fun n3 => lst ?_⟩
    simp (disch := omega) only [ax_const, ax_iload, ax_lload, ax_aload, ax_istore, ax_astore, ax_iinc, ax_i2, ax_i2n, ax_l2, ax_lsh, ax_ii, ax_il, ax_li, ax_pop, ax_dup, ax_dup2, ax_if, ax_cmp, ax_acmp, ax_goto, ax_getI, ax_getR, ax_putI, ax_putR, ax_gets, ax_getsT, ax_aldI, ax_aldR, ax_astI, ax_astR, ax_alen, ax_ret, ax_aret, ax_vret, am_st, am_kl, List.getElem?_cons_zero, List.getElem?_cons_succ, List.set_cons_zero, List.set_cons_succ, Value.category, true_and, and_true, if_true, if_false, reduceCtorEq, Bool.false_eq_true, false_implies, forall_const, Option.some.injEq, exists_eq_left', exists_eq_left, Sum.inl.injEq, Sum.inr.injEq, Prod.mk.injEq, yl_4, yl_eq]
    exact ⟨fun z => go (Or.inr ⟨l5, Or.inr z⟩), fun n4 => fin (by omega)⟩
theorem yopr_202 {g : am_G} {l : Launch} {m a d tp us : Nat} {ts : List (Nat × Int32)} {b : Bool} {H : List Nat} {ns ou v z1 z2 : Int32} {w : Bool} {Q : Option Value → am_S → Prop} (hd : 2 ≤ d) : ∀ (W : List Nat) (σ : am_S) (o : yp_O), 13 ∈ W → yZ σ m ts a b o W H ns ou w → o.length + W.length ≤ 99 → W.length ≤ 82 → am_tp σ = tp → am_us σ = us →
    (∀ σ', yZS σ' m ts (yp_sgs (a, b, (yp_po W o).1, (yp_po W o).2, ns - 1, w)) H ou → yb_f m σ σ' → Q (some (.int 1)) σ') → am_W g l mX10_operator d (tp, us) Q 202 [some (.ref m), some (.int v), some (.int z1), some (.int z2)] [] σ := by
  intro W
  induction W with
  | nil => intro σ o h; cases h
  | cons y W ih =>
    intro σ o h13 h hl hl2 h1 h2 hQ
    obtain ⟨hH, hT, hP, hW, hHH⟩ := id h
    have hy := hW y List.mem_cons_self
    rw [yp_po] at hQ
    rw [List.length_cons] at hl hl2
    have e19 : am_i σ m 19 = nI (W.length + 1) := hP.2.2.2.1.1
    have e21 : am_i σ m 21 = ns := hP.2.2.2.2.2.1
    obtain ⟨p1, p2⟩ := hP.pop
    refine kX10_operator_202 ?_
    simp (disch := omega) only [ax_const, ax_iload, ax_lload, ax_aload, ax_istore, ax_astore, ax_iinc, ax_i2, ax_i2n, ax_l2, ax_lsh, ax_ii, ax_il, ax_li, ax_pop, ax_dup, ax_dup2, ax_if, ax_cmp, ax_acmp, ax_goto, ax_getI, ax_getR, ax_putI, ax_putR, ax_gets, ax_getsT, ax_aldI, ax_aldR, ax_astI, ax_astR, ax_alen, ax_ret, ax_aret, ax_vret, am_st, am_kl, List.getElem?_cons_zero, List.getElem?_cons_succ, List.set_cons_zero, List.set_cons_succ, Value.category, true_and, and_true, if_true, if_false, reduceCtorEq, Bool.false_eq_true, false_implies, forall_const, Option.some.injEq, exists_eq_left', exists_eq_left, Sum.inl.injEq, Sum.inr.injEq, Prod.mk.injEq]
    refine am_callK [.ref m] [] (d' := 0) (lim' := (am_tp σ, am_us σ)) rfl (by omega) (by rw [h1]; exact Nat.le_refl _) (by rw [h2]; exact Nat.le_refl _) rfl (by decide) (am_recv hH.1) ?_
    refine c_ylast h (by rw [List.length_cons]; omega) (fun _ _ => ?_)
    simp (disch := omega) only [ax_const, ax_iload, ax_lload, ax_aload, ax_istore, ax_astore, ax_iinc, ax_i2, ax_i2n, ax_l2, ax_lsh, ax_ii, ax_il, ax_li, ax_pop, ax_dup, ax_dup2, ax_if, ax_cmp, ax_acmp, ax_goto, ax_getI, ax_getR, ax_putI, ax_putR, ax_gets, ax_getsT, ax_aldI, ax_aldR, ax_astI, ax_astR, ax_alen, ax_ret, ax_aret, ax_vret, am_st, am_kl, List.getElem?_cons_zero, List.getElem?_cons_succ, List.set_cons_zero, List.set_cons_succ, Value.category, true_and, and_true, if_true, if_false, reduceCtorEq, Bool.false_eq_true, false_implies, forall_const, Option.some.injEq, exists_eq_left', exists_eq_left, Sum.inl.injEq, Sum.inr.injEq, Prod.mk.injEq, Option.toList_some, Option.toList_none, List.cons_append, List.nil_append, List.append_nil, yl_13, List.headD_cons, yl_eq]
    refine ⟨fun c => ?_, fun c => ?_⟩
    · rw [if_pos c] at hQ
      simp (disch := omega) only [ax_const, ax_iload, ax_lload, ax_aload, ax_istore, ax_astore, ax_iinc, ax_i2, ax_i2n, ax_l2, ax_lsh, ax_ii, ax_il, ax_li, ax_pop, ax_dup, ax_dup2, ax_if, ax_cmp, ax_acmp, ax_goto, ax_getI, ax_getR, ax_putI, ax_putR, ax_gets, ax_getsT, ax_aldI, ax_aldR, ax_astI, ax_astR, ax_alen, ax_ret, ax_aret, ax_vret, am_st, am_kl, List.getElem?_cons_zero, List.getElem?_cons_succ, List.set_cons_zero, List.set_cons_succ, Value.category, true_and, and_true, if_true, if_false, reduceCtorEq, Bool.false_eq_true, false_implies, forall_const, Option.some.injEq, exists_eq_left', exists_eq_left, Sum.inl.injEq, Sum.inr.injEq, Prod.mk.injEq, nI_toInt, nI_clamp, am_ix_nI, am_ix_0, am_ix_1, am_ix_2, am_ix_3, am_n0, am_n1, am_n2, am_n3, am_n4, am_t0, am_t1, am_t2, am_t3, am_t4, am_tm1, am_nS, am_nP, am_nM, Int.ofNat_lt, Int.ofNat_le, am_sh_wi, am_r_wi, am_tp_wi, am_us_wi, ym_is, ym_io, ym_ij, hH.1, e19, e21, yl_m1, Nat.add_sub_cancel]
      have hf : yb_f m σ (am_wi (am_wi σ m 19 (nI W.length)) m 21 (ns - 1)) := (yb_f.rf.wf (by decide) (by decide)).wf (by decide) (by decide)
      have h' : yZ (am_wi (am_wi σ m 19 (nI W.length)) m 21 (ns - 1)) m ts a b o W H (ns - 1) ou w := h.up hf (p1.nsw _) (fun q hq => hW q (List.mem_cons_of_mem _ hq)) hHH
      have h1' := hf.tp.trans h1
      have h2' := hf.us.trans h2
      generalize am_wi (am_wi σ m 19 (nI W.length)) m 21 (ns - 1) = σ1 at *
      refine am_callK [.ref m] [] (d' := 1) (lim' := (am_tp σ1, am_us σ1)) rfl (by omega) (by rw [h1']; exact Nat.le_refl _) (by rw [h2']; exact Nat.le_refl _) rfl (by decide) (am_recv h'.1.1) ?_
      refine c_ysigns h' (by omega) (by omega) (fun σ2 k2 f2 t2 u2 => ?_)
      simp (disch := omega) only [ax_const, ax_iload, ax_lload, ax_aload, ax_istore, ax_astore, ax_iinc, ax_i2, ax_i2n, ax_l2, ax_lsh, ax_ii, ax_il, ax_li, ax_pop, ax_dup, ax_dup2, ax_if, ax_cmp, ax_acmp, ax_goto, ax_getI, ax_getR, ax_putI, ax_putR, ax_gets, ax_getsT, ax_aldI, ax_aldR, ax_astI, ax_astR, ax_alen, ax_ret, ax_aret, ax_vret, am_st, am_kl, List.getElem?_cons_zero, List.getElem?_cons_succ, List.set_cons_zero, List.set_cons_succ, Value.category, true_and, and_true, if_true, if_false, reduceCtorEq, Bool.false_eq_true, false_implies, forall_const, Option.some.injEq, exists_eq_left', exists_eq_left, Sum.inl.injEq, Sum.inr.injEq, Prod.mk.injEq, Option.toList_some, Option.toList_none, List.cons_append, List.nil_append, List.append_nil]
      exact ⟨Or.inr trivial, t2.trans h1', u2.trans h2', hQ σ2 k2 (hf.tr f2)⟩
    · rw [if_neg c] at hQ
      have p2' : am_i (am_wi σ m 19 (nI W.length)) (m + 14) W.length = nI y := by rw [ym_io (by omega)]; exact p2
      simp (disch := omega) only [ax_const, ax_iload, ax_lload, ax_aload, ax_istore, ax_astore, ax_iinc, ax_i2, ax_i2n, ax_l2, ax_lsh, ax_ii, ax_il, ax_li, ax_pop, ax_dup, ax_dup2, ax_if, ax_cmp, ax_acmp, ax_goto, ax_getI, ax_getR, ax_putI, ax_putR, ax_gets, ax_getsT, ax_aldI, ax_aldR, ax_astI, ax_astR, ax_alen, ax_ret, ax_aret, ax_vret, am_st, am_kl, List.getElem?_cons_zero, List.getElem?_cons_succ, List.set_cons_zero, List.set_cons_succ, Value.category, true_and, and_true, if_true, if_false, reduceCtorEq, Bool.false_eq_true, false_implies, forall_const, Option.some.injEq, exists_eq_left', exists_eq_left, Sum.inl.injEq, Sum.inr.injEq, Prod.mk.injEq, nI_toInt, nI_clamp, am_ix_nI, am_ix_0, am_ix_1, am_ix_2, am_ix_3, am_n0, am_n1, am_n2, am_n3, am_n4, am_t0, am_t1, am_t2, am_t3, am_t4, am_tm1, am_nS, am_nP, am_nM, Int.ofNat_lt, Int.ofNat_le, am_sh_wi, am_r_wi, ym_is, hH.1, hH.r16, hH.s16, e19, yl_m1, Nat.add_sub_cancel, p2']
      have hf : yb_f m σ (am_wi σ m 19 (nI W.length)) := yb_f.rf.wf (by decide) (by decide)
      have h' : yZ (am_wi σ m 19 (nI W.length)) m ts a b o W H ns ou w := h.up hf p1 (fun q hq => hW q (List.mem_cons_of_mem _ hq)) hHH
      have h1' := hf.tp.trans h1
      have h2' := hf.us.trans h2
      generalize am_wi σ m 19 (nI W.length) = σ1 at *
      refine ⟨by omega, ?_⟩
      refine am_callK [.ref m, .int (nI y), .int (yκ (y, 0))] [] (d' := 0) (lim' := (am_tp σ1, am_us σ1)) (by rw [yκ_op (show y ≠ 2 by omega)]; rfl) (by omega) (by rw [h1']; exact Nat.le_refl _) (by rw [h2']; exact Nat.le_refl _) rfl (by decide) (am_recv h'.1.1) ?_
      refine c_yemit (q := (y, 0)) h' (by omega) (show y < 100 by omega) (fun σ2 k2 f2 t2 u2 => ?_)
      simp (disch := omega) only [ax_const, ax_iload, ax_lload, ax_aload, ax_istore, ax_astore, ax_iinc, ax_i2, ax_i2n, ax_l2, ax_lsh, ax_ii, ax_il, ax_li, ax_pop, ax_dup, ax_dup2, ax_if, ax_cmp, ax_acmp, ax_goto, ax_getI, ax_getR, ax_putI, ax_putR, ax_gets, ax_getsT, ax_aldI, ax_aldR, ax_astI, ax_astR, ax_alen, ax_ret, ax_aret, ax_vret, am_st, am_kl, List.getElem?_cons_zero, List.getElem?_cons_succ, List.set_cons_zero, List.set_cons_succ, Value.category, true_and, and_true, if_true, if_false, reduceCtorEq, Bool.false_eq_true, false_implies, forall_const, Option.some.injEq, exists_eq_left', exists_eq_left, Sum.inl.injEq, Sum.inr.injEq, Prod.mk.injEq, Option.toList_some, Option.toList_none, List.cons_append, List.nil_append, List.append_nil]
      exact ih σ2 (o ++ [(y, 0)]) ((List.mem_cons.mp h13).elim (fun e => absurd e.symm c) id) k2 (by rw [List.length_append]; simp; omega) (by omega) (t2.trans h1') (u2.trans h2') (fun σ3 k3 f3 => hQ σ3 k3 ((hf.tr f2).tr f3))
theorem yopr_142 {g : am_G} {l : Launch} {σ : am_S} {m a d : Nat} {ts : List (Nat × Int32)} {b : Bool} {o : yp_O} {W H : List Nat} {ns ou v : Int32} {w : Bool} {Q : Option Value → am_S → Prop} (hEN : xp_EN ts) (hd : 2 ≤ d) (h : yZ σ m ts a b o W H ns ou w) (ha : a < ts.length) (hl : o.length + W.length ≤ 99) (hl2 : W.length ≤ 82)
    (hQ0 : ¬ (13 ∈ W ∧ xp_hd ts a = 24) → Q (some (.int 0)) σ) (hQ1 : 13 ∈ W ∧ xp_hd ts a = 24 → ∀ σ', yZS σ' m ts (yp_sgs (a + 1, b, (yp_po W o).1, (yp_po W o).2, ns - 1, w)) H ou → yb_f m σ σ' → Q (some (.int 1)) σ') :
    ∀ (T pre : List Nat), W.reverse = pre ++ T → am_W g l mX10_operator d (am_tp σ, am_us σ) Q 142 [some (.ref m), some (.int v), some (.int (yb (decide (13 ∈ pre)))), some (.int (nI pre.length))] [] σ := by
  obtain ⟨hH, hT, hP, hW, hHH⟩ := id h
  have e19 : am_i σ m 19 = nI W.length := hP.2.2.2.1.1
  intro T
  induction T with
  | nil =>
    intro pre hp
    rw [List.append_nil] at hp
    have hlen : W.length = pre.length := by rw [← hp, List.length_reverse]
    have hmem : 13 ∈ pre ↔ 13 ∈ W := by rw [← hp, List.mem_reverse]
    rw [hlen] at e19
    refine kX10_operator_142 ?_
    simp (disch := omega) only [ax_const, ax_iload, ax_lload, ax_aload, ax_istore, ax_astore, ax_iinc, ax_i2, ax_i2n, ax_l2, ax_lsh, ax_ii, ax_il, ax_li, ax_pop, ax_dup, ax_dup2, ax_if, ax_cmp, ax_acmp, ax_goto, ax_getI, ax_getR, ax_putI, ax_putR, ax_gets, ax_getsT, ax_aldI, ax_aldR, ax_astI, ax_astR, ax_alen, ax_ret, ax_aret, ax_vret, am_st, am_kl, List.getElem?_cons_zero, List.getElem?_cons_succ, List.set_cons_zero, List.set_cons_succ, Value.category, true_and, and_true, if_true, if_false, reduceCtorEq, Bool.false_eq_true, false_implies, forall_const, Option.some.injEq, exists_eq_left', exists_eq_left, Sum.inl.injEq, Sum.inr.injEq, Prod.mk.injEq, hH.1, e19, yl_lt]
    refine ⟨fun z => by omega, fun _ => ?_⟩
    by_cases c : 13 ∈ W
    · have e1 : yb (decide (13 ∈ pre)) = 1 := by rw [decide_eq_true (hmem.mpr c)]; rfl
      have o1 : ¬ (1 : Int32) = 0 := by decide
      rw [e1]
      simp (disch := omega) only [ax_const, ax_iload, ax_lload, ax_aload, ax_istore, ax_astore, ax_iinc, ax_i2, ax_i2n, ax_l2, ax_lsh, ax_ii, ax_il, ax_li, ax_pop, ax_dup, ax_dup2, ax_if, ax_cmp, ax_acmp, ax_goto, ax_getI, ax_getR, ax_putI, ax_putR, ax_gets, ax_getsT, ax_aldI, ax_aldR, ax_astI, ax_astR, ax_alen, ax_ret, ax_aret, ax_vret, am_st, am_kl, List.getElem?_cons_zero, List.getElem?_cons_succ, List.set_cons_zero, List.set_cons_succ, Value.category, true_and, and_true, if_true, if_false, reduceCtorEq, Bool.false_eq_true, false_implies, forall_const, Option.some.injEq, exists_eq_left', exists_eq_left, Sum.inl.injEq, Sum.inr.injEq, Prod.mk.injEq, o1]
      intro _
      refine am_callK [.ref m, .int (nI (yw_s 24))] [] (d' := 0) (lim' := (am_tp σ, am_us σ)) rfl (by omega) (Nat.le_refl _) (Nat.le_refl _) rfl (Nat.le_of_ble_eq_true rfl) (am_recv hH.1) ?_
      refine c_ysign h ha (by decide) (by decide) (fun _ _ => ?_)
      by_cases c24 : xp_hd ts a = 24
      · rw [if_pos c24]
        have e12 : am_i σ m 12 = nI a := hP.1
        simp (disch := omega) only [ax_const, ax_iload, ax_lload, ax_aload, ax_istore, ax_astore, ax_iinc, ax_i2, ax_i2n, ax_l2, ax_lsh, ax_ii, ax_il, ax_li, ax_pop, ax_dup, ax_dup2, ax_if, ax_cmp, ax_acmp, ax_goto, ax_getI, ax_getR, ax_putI, ax_putR, ax_gets, ax_getsT, ax_aldI, ax_aldR, ax_astI, ax_astR, ax_alen, ax_ret, ax_aret, ax_vret, am_st, am_kl, List.getElem?_cons_zero, List.getElem?_cons_succ, List.set_cons_zero, List.set_cons_succ, Value.category, true_and, and_true, if_true, if_false, reduceCtorEq, Bool.false_eq_true, false_implies, forall_const, Option.some.injEq, exists_eq_left', exists_eq_left, Sum.inl.injEq, Sum.inr.injEq, Prod.mk.injEq, nI_toInt, nI_clamp, am_ix_nI, am_ix_0, am_ix_1, am_ix_2, am_ix_3, am_n0, am_n1, am_n2, am_n3, am_n4, am_t0, am_t1, am_t2, am_t3, am_t4, am_tm1, am_nS, am_nP, am_nM, Int.ofNat_lt, Int.ofNat_le, Option.toList_some, Option.toList_none, List.cons_append, List.nil_append, List.append_nil, am_sh_wi, am_r_wi, am_tp_wi, am_us_wi, ym_is, ym_io, ym_ij, o1, hH.1, e12]
        intro _
        have hf : yb_f m σ (am_wi σ m 12 (nI (a + 1))) := yb_f.rf.wf (by decide) (by decide)
        exact yopr_202 hd W _ o c (h.up hf (hP.at (a + 1)) hW hHH) hl hl2 hf.tp hf.us (fun σ' k f => hQ1 ⟨c, c24⟩ σ' k (hf.tr f))
      · rw [if_neg c24]
        simp (disch := omega) only [ax_const, ax_iload, ax_lload, ax_aload, ax_istore, ax_astore, ax_iinc, ax_i2, ax_i2n, ax_l2, ax_lsh, ax_ii, ax_il, ax_li, ax_pop, ax_dup, ax_dup2, ax_if, ax_cmp, ax_acmp, ax_goto, ax_getI, ax_getR, ax_putI, ax_putR, ax_gets, ax_getsT, ax_aldI, ax_aldR, ax_astI, ax_astR, ax_alen, ax_ret, ax_aret, ax_vret, am_st, am_kl, List.getElem?_cons_zero, List.getElem?_cons_succ, List.set_cons_zero, List.set_cons_succ, Value.category, true_and, and_true, if_true, if_false, reduceCtorEq, Bool.false_eq_true, false_implies, forall_const, Option.some.injEq, exists_eq_left', exists_eq_left, Sum.inl.injEq, Sum.inr.injEq, Prod.mk.injEq, Option.toList_some, Option.toList_none, List.cons_append, List.nil_append, List.append_nil]
        exact ⟨⟨Or.inl trivial, hQ0 (fun z => c24 z.2)⟩, fun z => absurd trivial z⟩
    · have e1 : yb (decide (13 ∈ pre)) = 0 := by rw [decide_eq_false (fun z => c (hmem.mp z))]; rfl
      rw [e1]
      simp (disch := omega) only [ax_const, ax_iload, ax_lload, ax_aload, ax_istore, ax_astore, ax_iinc, ax_i2, ax_i2n, ax_l2, ax_lsh, ax_ii, ax_il, ax_li, ax_pop, ax_dup, ax_dup2, ax_if, ax_cmp, ax_acmp, ax_goto, ax_getI, ax_getR, ax_putI, ax_putR, ax_gets, ax_getsT, ax_aldI, ax_aldR, ax_astI, ax_astR, ax_alen, ax_ret, ax_aret, ax_vret, am_st, am_kl, List.getElem?_cons_zero, List.getElem?_cons_succ, List.set_cons_zero, List.set_cons_succ, Value.category, true_and, and_true, if_true, if_false, reduceCtorEq, Bool.false_eq_true, false_implies, forall_const, Option.some.injEq, exists_eq_left', exists_eq_left, Sum.inl.injEq, Sum.inr.injEq, Prod.mk.injEq]
      exact ⟨⟨Or.inl trivial, hQ0 (fun z => c z.1)⟩, fun z => absurd trivial z⟩
  | cons x T ih =>
    intro pre hp
    have hlen : W.length = pre.length + (T.length + 1) := by rw [← List.length_reverse, hp, List.length_append, List.length_cons]
    have hx : am_i σ (m + 14) pre.length = nI x := hP.2.2.2.1.2 pre.length x (by rw [hp]; simp)
    have hxm : x ∈ W := by rw [← List.mem_reverse, hp]; simp
    have hx13 := hW x hxm
    have nx := ih (pre ++ [x]) (by rw [hp]; simp)
    rw [List.length_append, List.length_cons, List.length_nil] at nx
    rw [hlen] at e19
    refine kX10_operator_142 ?_
    simp (disch := omega) only [ax_const, ax_iload, ax_lload, ax_aload, ax_istore, ax_astore, ax_iinc, ax_i2, ax_i2n, ax_l2, ax_lsh, ax_ii, ax_il, ax_li, ax_pop, ax_dup, ax_dup2, ax_if, ax_cmp, ax_acmp, ax_goto, ax_getI, ax_getR, ax_putI, ax_putR, ax_gets, ax_getsT, ax_aldI, ax_aldR, ax_astI, ax_astR, ax_alen, ax_ret, ax_aret, ax_vret, am_st, am_kl, List.getElem?_cons_zero, List.getElem?_cons_succ, List.set_cons_zero, List.set_cons_succ, Value.category, true_and, and_true, if_true, if_false, reduceCtorEq, Bool.false_eq_true, false_implies, forall_const, Option.some.injEq, exists_eq_left', exists_eq_left, Sum.inl.injEq, Sum.inr.injEq, Prod.mk.injEq, nI_toInt, nI_clamp, am_ix_nI, am_ix_0, am_ix_1, am_ix_2, am_ix_3, am_n0, am_n1, am_n2, am_n3, am_n4, am_t0, am_t1, am_t2, am_t3, am_t4, am_tm1, am_nS, am_nP, am_nM, Int.ofNat_lt, Int.ofNat_le, hH.1, hH.r16, hH.s16, e19, yl_lt, hx, yl_13, yl_eq]
    refine ⟨fun _ => ⟨fun q => ⟨by omega, fun c => ?_, fun c => ?_⟩, fun q => ?_⟩, fun z => by omega⟩
    · have : decide (13 ∈ pre ++ [x]) = true := decide_eq_true (by rw [c]; simp)
      rw [this] at nx
      exact nx
    · have q' : decide (13 ∈ pre) = false := yb_ne.mp q
      have : decide (13 ∈ pre ++ [x]) = false := by
        rw [decide_eq_false_iff_not] at q' ⊢
        intro hm
        rcases List.mem_append.mp hm with hm | hm
        · exact q' hm
        · exact c (List.mem_singleton.mp hm).symm
      rw [this] at nx
      exact nx
    · have q' : decide (13 ∈ pre) = true := by
        cases e : decide (13 ∈ pre) with
        | true => rfl
        | false => exact absurd (yb_ne.mpr e) q
      have : decide (13 ∈ pre ++ [x]) = true := decide_eq_true (List.mem_append.mpr (Or.inl (of_decide_eq_true q')))
      rw [this] at nx
      exact nx
theorem c_yoperator {g : am_G} {l : Launch} {σ : am_S} {m : Nat} {ts : List (Nat × Int32)} {S : yp_S} {H : List Nat} {ou : Int32} {Q : Option Value → am_S → Prop} (hEN : xp_EN ts) (h : yZS σ m ts S H ou) (hI : yp_I ts S H.length) (hb : S.2.1 = false) (hw : S.2.2.2.2.2 = false)
    (hQ : ∀ σ', yZS σ' m ts (yp_rtor ts S).2 H ou → yb_f m σ σ' → Q (some (.int (yb (yp_rtor ts S).1))) σ') : am_C g l mX10_operator 2 (am_tp σ, am_us σ) [.ref m] σ Q := by
  obtain ⟨a, b, o, W, ns, w⟩ := S
  have hb : b = false := hb
  have hw : w = false := hw
  subst hb
  subst hw
  have h : yZ σ m ts a false o W H ns ou false := h
  obtain ⟨ha, hI2⟩ := hI
  have ha : a < ts.length := ha
  have hI2 : o.length + W.length + H.length + 1 ≤ a + (if false = true then 1 else 0) := hI2
  rw [if_neg (by decide)] at hI2
  obtain ⟨hH, hT, hP, hW, hHH⟩ := id h
  have hl := hT.1
  have o1 : ¬ (1 : Int32) = 0 := by decide
  have h40 : ∀ x, x = yp_wh (xp_hd ts a) → am_W g l mX10_operator 2 (am_tp σ, am_us σ) Q 40 [some (.ref m), none, none, none] [.int (nI x)] σ := by
    intro x hx
    have hx5 : x = 0 ∨ (3 ≤ x ∧ x ≤ 5) := by
      rw [hx]
      unfold yp_wh
      split
      · omega
      · split
        · omega
        · split <;> omega
    unfold yp_rtor at hQ
    dsimp only at hQ
    rw [← hx] at hQ
    refine kX10_operator_40 ?_
    simp (disch := omega) only [ax_const, ax_iload, ax_lload, ax_aload, ax_istore, ax_astore, ax_iinc, ax_i2, ax_i2n, ax_l2, ax_lsh, ax_ii, ax_il, ax_li, ax_pop, ax_dup, ax_dup2, ax_if, ax_cmp, ax_acmp, ax_goto, ax_getI, ax_getR, ax_putI, ax_putR, ax_gets, ax_getsT, ax_aldI, ax_aldR, ax_astI, ax_astR, ax_alen, ax_ret, ax_aret, ax_vret, am_st, am_kl, List.getElem?_cons_zero, List.getElem?_cons_succ, List.set_cons_zero, List.set_cons_succ, Value.category, true_and, and_true, if_true, if_false, reduceCtorEq, Bool.false_eq_true, false_implies, forall_const, Option.some.injEq, exists_eq_left', exists_eq_left, Sum.inl.injEq, Sum.inr.injEq, Prod.mk.injEq, yl_t0]
    refine ⟨fun c => ?_, fun c => ?_⟩
    · rw [if_pos (by omega)] at hQ
      exact yopr_45 (by decide) (by omega) W σ o h (by omega) (by omega) rfl rfl (fun σ' k f => hQ σ' k f)
    · rw [if_neg (by omega)] at hQ
      refine yopr_142 hEN (by decide) h ha (by omega) (by omega) (fun q => ?_) (fun q σ' k f => ?_) W.reverse [] rfl
      · rw [if_neg q] at hQ
        exact hQ σ h .rf
      · rw [if_pos q] at hQ
        exact hQ σ' k f
  refine am_C.go [some (.ref m), none, none, none] (by decide +kernel) (Nat.le_of_ble_eq_true rfl) rfl (kX10_operator_0 ?_)
  simp (disch := omega) only [ax_const, ax_iload, ax_lload, ax_aload, ax_istore, ax_astore, ax_iinc, ax_i2, ax_i2n, ax_l2, ax_lsh, ax_ii, ax_il, ax_li, ax_pop, ax_dup, ax_dup2, ax_if, ax_cmp, ax_acmp, ax_goto, ax_getI, ax_getR, ax_putI, ax_putR, ax_gets, ax_getsT, ax_aldI, ax_aldR, ax_astI, ax_astR, ax_alen, ax_ret, ax_aret, ax_vret, am_st, am_kl, List.getElem?_cons_zero, List.getElem?_cons_succ, List.set_cons_zero, List.set_cons_succ, Value.category, true_and, and_true, if_true, if_false, reduceCtorEq, Bool.false_eq_true, false_implies, forall_const, Option.some.injEq, exists_eq_left', exists_eq_left, Sum.inl.injEq, Sum.inr.injEq, Prod.mk.injEq]
  refine am_callK [.ref m, .int (nI (yw_s 27))] [] (d' := 0) (lim' := (am_tp σ, am_us σ)) rfl (by decide) (Nat.le_refl _) (Nat.le_refl _) rfl (Nat.le_of_ble_eq_true rfl) (am_recv hH.1) ?_
  refine c_ysign h ha (by decide) (by decide) (fun _ _ => ?_)
  by_cases c27 : xp_hd ts a = 27
  · rw [if_pos c27]
    simp (disch := omega) only [ax_const, ax_iload, ax_lload, ax_aload, ax_istore, ax_astore, ax_iinc, ax_i2, ax_i2n, ax_l2, ax_lsh, ax_ii, ax_il, ax_li, ax_pop, ax_dup, ax_dup2, ax_if, ax_cmp, ax_acmp, ax_goto, ax_getI, ax_getR, ax_putI, ax_putR, ax_gets, ax_getsT, ax_aldI, ax_aldR, ax_astI, ax_astR, ax_alen, ax_ret, ax_aret, ax_vret, am_st, am_kl, List.getElem?_cons_zero, List.getElem?_cons_succ, List.set_cons_zero, List.set_cons_succ, Value.category, true_and, and_true, if_true, if_false, reduceCtorEq, Bool.false_eq_true, false_implies, forall_const, Option.some.injEq, exists_eq_left', exists_eq_left, Sum.inl.injEq, Sum.inr.injEq, Prod.mk.injEq, Option.toList_some, Option.toList_none, List.cons_append, List.nil_append, List.append_nil, o1]
    exact fun _ => h40 3 (by rw [c27]; rfl)
  · rw [if_neg c27]
    simp (disch := omega) only [ax_const, ax_iload, ax_lload, ax_aload, ax_istore, ax_astore, ax_iinc, ax_i2, ax_i2n, ax_l2, ax_lsh, ax_ii, ax_il, ax_li, ax_pop, ax_dup, ax_dup2, ax_if, ax_cmp, ax_acmp, ax_goto, ax_getI, ax_getR, ax_putI, ax_putR, ax_gets, ax_getsT, ax_aldI, ax_aldR, ax_astI, ax_astR, ax_alen, ax_ret, ax_aret, ax_vret, am_st, am_kl, List.getElem?_cons_zero, List.getElem?_cons_succ, List.set_cons_zero, List.set_cons_succ, Value.category, true_and, and_true, if_true, if_false, reduceCtorEq, Bool.false_eq_true, false_implies, forall_const, Option.some.injEq, exists_eq_left', exists_eq_left, Sum.inl.injEq, Sum.inr.injEq, Prod.mk.injEq, Option.toList_some, Option.toList_none, List.cons_append, List.nil_append, List.append_nil]
    refine ⟨?_, fun z => absurd trivial z⟩
    refine am_callK [.ref m, .int (nI (yw_s 28))] [] (d' := 0) (lim' := (am_tp σ, am_us σ)) rfl (by decide) (Nat.le_refl _) (Nat.le_refl _) rfl (Nat.le_of_ble_eq_true rfl) (am_recv hH.1) ?_
    refine c_ysign h ha (by decide) (by decide) (fun _ _ => ?_)
    by_cases c28 : xp_hd ts a = 28
    · rw [if_pos c28]
      simp (disch := omega) only [ax_const, ax_iload, ax_lload, ax_aload, ax_istore, ax_astore, ax_iinc, ax_i2, ax_i2n, ax_l2, ax_lsh, ax_ii, ax_il, ax_li, ax_pop, ax_dup, ax_dup2, ax_if, ax_cmp, ax_acmp, ax_goto, ax_getI, ax_getR, ax_putI, ax_putR, ax_gets, ax_getsT, ax_aldI, ax_aldR, ax_astI, ax_astR, ax_alen, ax_ret, ax_aret, ax_vret, am_st, am_kl, List.getElem?_cons_zero, List.getElem?_cons_succ, List.set_cons_zero, List.set_cons_succ, Value.category, true_and, and_true, if_true, if_false, reduceCtorEq, Bool.false_eq_true, false_implies, forall_const, Option.some.injEq, exists_eq_left', exists_eq_left, Sum.inl.injEq, Sum.inr.injEq, Prod.mk.injEq, Option.toList_some, Option.toList_none, List.cons_append, List.nil_append, List.append_nil, o1]
      exact fun _ => h40 4 (by rw [c28]; rfl)
    · rw [if_neg c28]
      simp (disch := omega) only [ax_const, ax_iload, ax_lload, ax_aload, ax_istore, ax_astore, ax_iinc, ax_i2, ax_i2n, ax_l2, ax_lsh, ax_ii, ax_il, ax_li, ax_pop, ax_dup, ax_dup2, ax_if, ax_cmp, ax_acmp, ax_goto, ax_getI, ax_getR, ax_putI, ax_putR, ax_gets, ax_getsT, ax_aldI, ax_aldR, ax_astI, ax_astR, ax_alen, ax_ret, ax_aret, ax_vret, am_st, am_kl, List.getElem?_cons_zero, List.getElem?_cons_succ, List.set_cons_zero, List.set_cons_succ, Value.category, true_and, and_true, if_true, if_false, reduceCtorEq, Bool.false_eq_true, false_implies, forall_const, Option.some.injEq, exists_eq_left', exists_eq_left, Sum.inl.injEq, Sum.inr.injEq, Prod.mk.injEq, Option.toList_some, Option.toList_none, List.cons_append, List.nil_append, List.append_nil]
      refine ⟨?_, fun z => absurd trivial z⟩
      refine am_callK [.ref m, .int (nI (yw_s 29))] [] (d' := 0) (lim' := (am_tp σ, am_us σ)) rfl (by decide) (Nat.le_refl _) (Nat.le_refl _) rfl (Nat.le_of_ble_eq_true rfl) (am_recv hH.1) ?_
      refine c_ysign h ha (by decide) (by decide) (fun _ _ => ?_)
      by_cases c29 : xp_hd ts a = 29
      · rw [if_pos c29]
        simp (disch := omega) only [ax_const, ax_iload, ax_lload, ax_aload, ax_istore, ax_astore, ax_iinc, ax_i2, ax_i2n, ax_l2, ax_lsh, ax_ii, ax_il, ax_li, ax_pop, ax_dup, ax_dup2, ax_if, ax_cmp, ax_acmp, ax_goto, ax_getI, ax_getR, ax_putI, ax_putR, ax_gets, ax_getsT, ax_aldI, ax_aldR, ax_astI, ax_astR, ax_alen, ax_ret, ax_aret, ax_vret, am_st, am_kl, List.getElem?_cons_zero, List.getElem?_cons_succ, List.set_cons_zero, List.set_cons_succ, Value.category, true_and, and_true, if_true, if_false, reduceCtorEq, Bool.false_eq_true, false_implies, forall_const, Option.some.injEq, exists_eq_left', exists_eq_left, Sum.inl.injEq, Sum.inr.injEq, Prod.mk.injEq, Option.toList_some, Option.toList_none, List.cons_append, List.nil_append, List.append_nil, o1]
        exact fun _ => h40 5 (by rw [c29]; rfl)
      · rw [if_neg c29]
        simp (disch := omega) only [ax_const, ax_iload, ax_lload, ax_aload, ax_istore, ax_astore, ax_iinc, ax_i2, ax_i2n, ax_l2, ax_lsh, ax_ii, ax_il, ax_li, ax_pop, ax_dup, ax_dup2, ax_if, ax_cmp, ax_acmp, ax_goto, ax_getI, ax_getR, ax_putI, ax_putR, ax_gets, ax_getsT, ax_aldI, ax_aldR, ax_astI, ax_astR, ax_alen, ax_ret, ax_aret, ax_vret, am_st, am_kl, List.getElem?_cons_zero, List.getElem?_cons_succ, List.set_cons_zero, List.set_cons_succ, Value.category, true_and, and_true, if_true, if_false, reduceCtorEq, Bool.false_eq_true, false_implies, forall_const, Option.some.injEq, exists_eq_left', exists_eq_left, Sum.inl.injEq, Sum.inr.injEq, Prod.mk.injEq, Option.toList_some, Option.toList_none, List.cons_append, List.nil_append, List.append_nil]
        exact ⟨h40 0 (by unfold yp_wh; rw [if_neg c27, if_neg c28, if_neg c29]), fun z => absurd trivial z⟩
theorem yexp_50 {g : am_G} {l : Launch} {m a d tp us : Nat} {ts : List (Nat × Int32)} {H : List Nat} {ns ou : Int32} {w : Bool} {z : Option Value} {Q : Option Value → am_S → Prop} (hd : 1 ≤ d) : ∀ (W : List Nat) (σ : am_S) (b : Bool) (o : yp_O), yZ σ m ts a b o W H ns ou w → o.length + W.length ≤ 99 → W.length ≤ 82 → am_tp σ = tp → am_us σ = us →
    (∀ σ', yZ σ' m ts a (b || decide (13 ∈ W)) (o ++ W.map (fun w => (w, (0 : Int32)))) [] H ns ou w → yb_f m σ σ' → Q none σ') → am_W g l mX10_expression d (tp, us) Q 50 [some (.ref m), z] [] σ := by
  intro W
  induction W with
  | nil =>
    intro σ b o h hl hl2 h1 h2 hQ
    obtain ⟨hH, hT, hP, hW, hHH⟩ := id h
    have e19 : am_i σ m 19 = 0 := hP.2.2.2.1.1
    refine kX10_expression_50 ?_
    simp (disch := omega) only [ax_const, ax_iload, ax_lload, ax_aload, ax_istore, ax_astore, ax_iinc, ax_i2, ax_i2n, ax_l2, ax_lsh, ax_ii, ax_il, ax_li, ax_pop, ax_dup, ax_dup2, ax_if, ax_cmp, ax_acmp, ax_goto, ax_getI, ax_getR, ax_putI, ax_putR, ax_gets, ax_getsT, ax_aldI, ax_aldR, ax_astI, ax_astR, ax_alen, ax_ret, ax_aret, ax_vret, am_st, am_kl, List.getElem?_cons_zero, List.getElem?_cons_succ, List.set_cons_zero, List.set_cons_succ, Value.category, true_and, and_true, if_true, if_false, reduceCtorEq, Bool.false_eq_true, false_implies, forall_const, Option.some.injEq, exists_eq_left', exists_eq_left, Sum.inl.injEq, Sum.inr.injEq, Prod.mk.injEq, hH.1, e19]
    refine ⟨fun z => absurd z (by decide), fun _ => ⟨h1, h2, hQ σ ?_ .rf⟩⟩
    simpa using h
  | cons y W ih =>
    intro σ b o h hl hl2 h1 h2 hQ
    obtain ⟨hH, hT, hP, hW, hHH⟩ := id h
    have hy := hW y List.mem_cons_self
    rw [List.length_cons] at hl hl2
    have e19 : am_i σ m 19 = nI (W.length + 1) := hP.2.2.2.1.1
    obtain ⟨p1, p2⟩ := hP.pop
    have hf : yb_f m σ (am_wi σ m 19 (nI W.length)) := yb_f.rf.wf (by decide) (by decide)
    have h' : yZ (am_wi σ m 19 (nI W.length)) m ts a b o W H ns ou w := h.up hf p1 (fun q hq => hW q (List.mem_cons_of_mem _ hq)) hHH
    have p2' : am_i (am_wi σ m 19 (nI W.length)) (m + 14) W.length = nI y := by rw [ym_io (by omega)]; exact p2
    have h1' := hf.tp.trans h1
    have h2' := hf.us.trans h2
    refine kX10_expression_50 ?_
    simp (disch := omega) only [ax_const, ax_iload, ax_lload, ax_aload, ax_istore, ax_astore, ax_iinc, ax_i2, ax_i2n, ax_l2, ax_lsh, ax_ii, ax_il, ax_li, ax_pop, ax_dup, ax_dup2, ax_if, ax_cmp, ax_acmp, ax_goto, ax_getI, ax_getR, ax_putI, ax_putR, ax_gets, ax_getsT, ax_aldI, ax_aldR, ax_astI, ax_astR, ax_alen, ax_ret, ax_aret, ax_vret, am_st, am_kl, List.getElem?_cons_zero, List.getElem?_cons_succ, List.set_cons_zero, List.set_cons_succ, Value.category, true_and, and_true, if_true, if_false, reduceCtorEq, Bool.false_eq_true, false_implies, forall_const, Option.some.injEq, exists_eq_left', exists_eq_left, Sum.inl.injEq, Sum.inr.injEq, Prod.mk.injEq, nI_toInt, nI_clamp, am_ix_nI, am_ix_0, am_ix_1, am_ix_2, am_ix_3, am_n0, am_n1, am_n2, am_n3, am_n4, am_t0, am_t1, am_t2, am_t3, am_t4, am_tm1, am_nS, am_nP, am_nM, Int.ofNat_lt, Int.ofNat_le, hH.1, am_sh_wi, e19, yl_t0, yl_m1, Nat.add_sub_cancel]
    refine ⟨fun _ => ?_, fun z => by omega⟩
    generalize am_wi σ m 19 (nI W.length) = σ1 at *
    obtain ⟨hH1, hT1, hP1, hW1, hHH1⟩ := id h'
    have e19' : am_i σ1 m 19 = nI W.length := hP1.2.2.2.1.1
    have l94 : ∀ b', b' = (b || decide (y = 13)) → am_W g l mX10_expression d (tp, us) Q 94 [some (.ref m), z] [.int (yb b'), .ref m] σ1 := by
      intro b' hb'
      have hb01 : yb b' = 0 ∨ yb b' = 1 := by cases b' <;> decide
      have hf2 : yb_f m σ1 (am_wi σ1 m 13 (yb b')) := yb_f.rf.wf (by decide) (by decide)
      have h'' : yZ (am_wi σ1 m 13 (yb b')) m ts a b' o W H ns ou w := h'.up hf2 (hP1.bd b') hW1 hHH1
      have p2'' : am_i (am_wi σ1 m 13 (yb b')) (m + 14) W.length = nI y := by rw [ym_io (by omega)]; exact p2'
      have e19'' : am_i (am_wi σ1 m 13 (yb b')) m 19 = nI W.length := h''.2.2.1.2.2.2.1.1
      refine kX10_expression_94 ?_
      simp (disch := omega) only [ax_const, ax_iload, ax_lload, ax_aload, ax_istore, ax_astore, ax_iinc, ax_i2, ax_i2n, ax_l2, ax_lsh, ax_ii, ax_il, ax_li, ax_pop, ax_dup, ax_dup2, ax_if, ax_cmp, ax_acmp, ax_goto, ax_getI, ax_getR, ax_putI, ax_putR, ax_gets, ax_getsT, ax_aldI, ax_aldR, ax_astI, ax_astR, ax_alen, ax_ret, ax_aret, ax_vret, am_st, am_kl, List.getElem?_cons_zero, List.getElem?_cons_succ, List.set_cons_zero, List.set_cons_succ, Value.category, true_and, and_true, if_true, if_false, reduceCtorEq, Bool.false_eq_true, false_implies, forall_const, Option.some.injEq, exists_eq_left', exists_eq_left, Sum.inl.injEq, Sum.inr.injEq, Prod.mk.injEq, nI_toInt, nI_clamp, am_ix_nI, am_ix_0, am_ix_1, am_ix_2, am_ix_3, am_n0, am_n1, am_n2, am_n3, am_n4, am_t0, am_t1, am_t2, am_t3, am_t4, am_tm1, am_nS, am_nP, am_nM, Int.ofNat_lt, Int.ofNat_le, am_sh_wi, am_r_wi, hH1.1, hH1.r16, hH1.s16, e19'', p2'']
      refine ⟨hb01, by omega, ?_⟩
      have h1'' := hf2.tp.trans h1'
      have h2'' := hf2.us.trans h2'
      generalize am_wi σ1 m 13 (yb b') = σ2 at *
      refine am_callK [.ref m, .int (nI y), .int (yκ (y, 0))] [] (d' := 0) (lim' := (am_tp σ2, am_us σ2)) (by rw [yκ_op (show y ≠ 2 by omega)]; rfl) (by omega) (by rw [h1'']; exact Nat.le_refl _) (by rw [h2'']; exact Nat.le_refl _) rfl (by decide) (am_recv h''.1.1) ?_
      refine c_yemit (q := (y, 0)) h'' (by omega) (show y < 100 by omega) (fun σ3 k3 f3 t3 u3 => ?_)
      simp (disch := omega) only [ax_const, ax_iload, ax_lload, ax_aload, ax_istore, ax_astore, ax_iinc, ax_i2, ax_i2n, ax_l2, ax_lsh, ax_ii, ax_il, ax_li, ax_pop, ax_dup, ax_dup2, ax_if, ax_cmp, ax_acmp, ax_goto, ax_getI, ax_getR, ax_putI, ax_putR, ax_gets, ax_getsT, ax_aldI, ax_aldR, ax_astI, ax_astR, ax_alen, ax_ret, ax_aret, ax_vret, am_st, am_kl, List.getElem?_cons_zero, List.getElem?_cons_succ, List.set_cons_zero, List.set_cons_succ, Value.category, true_and, and_true, if_true, if_false, reduceCtorEq, Bool.false_eq_true, false_implies, forall_const, Option.some.injEq, exists_eq_left', exists_eq_left, Sum.inl.injEq, Sum.inr.injEq, Prod.mk.injEq, Option.toList_some, Option.toList_none, List.cons_append, List.nil_append, List.append_nil]
      refine ih σ3 b' (o ++ [(y, 0)]) k3 (by rw [List.length_append]; simp; omega) (by omega) (t3.trans h1'') (u3.trans h2'') (fun σ4 k4 f4 => hQ σ4 ?_ (((hf.tr hf2).tr f3).tr f4))
      have eb : (b || decide (13 ∈ y :: W)) = (b' || decide (13 ∈ W)) := by
        rw [hb']
        by_cases c : y = 13
        · subst c
          simp
        · have : ¬ (13 = y) := fun e => c e.symm
          simp [c, this]
      rw [eb, List.map_cons]
      simpa using k4
    cases b with
    | true =>
      have e13 : am_i σ1 m 13 = 1 := hP1.2.1
      have o1 : ¬ (1 : Int32) = 0 := by decide
      simp (disch := omega) only [ax_const, ax_iload, ax_lload, ax_aload, ax_istore, ax_astore, ax_iinc, ax_i2, ax_i2n, ax_l2, ax_lsh, ax_ii, ax_il, ax_li, ax_pop, ax_dup, ax_dup2, ax_if, ax_cmp, ax_acmp, ax_goto, ax_getI, ax_getR, ax_putI, ax_putR, ax_gets, ax_getsT, ax_aldI, ax_aldR, ax_astI, ax_astR, ax_alen, ax_ret, ax_aret, ax_vret, am_st, am_kl, List.getElem?_cons_zero, List.getElem?_cons_succ, List.set_cons_zero, List.set_cons_succ, Value.category, true_and, and_true, if_true, if_false, reduceCtorEq, Bool.false_eq_true, false_implies, forall_const, Option.some.injEq, exists_eq_left', exists_eq_left, Sum.inl.injEq, Sum.inr.injEq, Prod.mk.injEq, hH1.1, e13, o1]
      exact fun _ => l94 true (by rw [Bool.true_or])
    | false =>
      have e13 : am_i σ1 m 13 = 0 := hP1.2.1
      simp (disch := omega) only [ax_const, ax_iload, ax_lload, ax_aload, ax_istore, ax_astore, ax_iinc, ax_i2, ax_i2n, ax_l2, ax_lsh, ax_ii, ax_il, ax_li, ax_pop, ax_dup, ax_dup2, ax_if, ax_cmp, ax_acmp, ax_goto, ax_getI, ax_getR, ax_putI, ax_putR, ax_gets, ax_getsT, ax_aldI, ax_aldR, ax_astI, ax_astR, ax_alen, ax_ret, ax_aret, ax_vret, am_st, am_kl, List.getElem?_cons_zero, List.getElem?_cons_succ, List.set_cons_zero, List.set_cons_succ, Value.category, true_and, and_true, if_true, if_false, reduceCtorEq, Bool.false_eq_true, false_implies, forall_const, Option.some.injEq, exists_eq_left', exists_eq_left, Sum.inl.injEq, Sum.inr.injEq, Prod.mk.injEq, nI_toInt, nI_clamp, am_ix_nI, am_ix_0, am_ix_1, am_ix_2, am_ix_3, am_n0, am_n1, am_n2, am_n3, am_n4, am_t0, am_t1, am_t2, am_t3, am_t4, am_tm1, am_nS, am_nP, am_nM, Int.ofNat_lt, Int.ofNat_le, hH1.1, hH1.r16, hH1.s16, hH.1, hH.r16, hH.s16, e13, e19', p2', yl_13, yl_eq]
      refine ⟨⟨by omega, fun c => l94 true (by rw [decide_eq_true c]; rfl), fun c => l94 false (by rw [decide_eq_false c]; rfl)⟩, fun z => absurd trivial z⟩
theorem yexp_17 {g : am_G} {l : Launch} {m d tp us : Nat} {ts : List (Nat × Int32)} {H : List Nat} {ou : Int32} {Q : Option Value → am_S → Prop} (hEN : xp_EN ts) (hd : 4 ≤ d) : ∀ (n : Nat) (S : yp_S) (σ : am_S), yp_mu ts S < n → yZS σ m ts S H ou → yp_I ts S H.length → am_tp σ = tp → am_us σ = us →
    (∀ σ', yZ σ' m ts (yp_fin (yp_R ts ou S)).1 (yp_fin (yp_R ts ou S)).2.1 (yp_fin (yp_R ts ou S)).2.2 [] H (yp_R ts ou S).2.2.2.2.1 ou (yp_R ts ou S).2.2.2.2.2 → yb_f m σ σ' → Q none σ') → am_W g l mX10_expression d (tp, us) Q 17 [some (.ref m), some (.int 1)] [] σ := by
  intro n
  induction n with
  | zero => intro S σ h; exact absurd h (Nat.not_lt_zero _)
  | succ n ih =>
    intro S σ hn h hI h1 h2 hQ
    obtain ⟨hH, hT, hP, hW, hHH⟩ := id h
    have hl := hT.1
    have o1 : ¬ (1 : Int32) = 0 := by decide
    obtain ⟨hI1, hI2⟩ := id hI
    have hif : (if S.2.1 = true then 1 else 0) ≤ 1 := by split <;> omega
    refine kX10_expression_17 ?_
    cases hb : S.2.1 with
    | true =>
      rw [yp_R_bad hb] at hQ
      have e13 : am_i σ m 13 = 1 := by rw [hP.2.1, hb]; rfl
      simp (disch := omega) only [ax_const, ax_iload, ax_lload, ax_aload, ax_istore, ax_astore, ax_iinc, ax_i2, ax_i2n, ax_l2, ax_lsh, ax_ii, ax_il, ax_li, ax_pop, ax_dup, ax_dup2, ax_if, ax_cmp, ax_acmp, ax_goto, ax_getI, ax_getR, ax_putI, ax_putR, ax_gets, ax_getsT, ax_aldI, ax_aldR, ax_astI, ax_astR, ax_alen, ax_ret, ax_aret, ax_vret, am_st, am_kl, List.getElem?_cons_zero, List.getElem?_cons_succ, List.set_cons_zero, List.set_cons_succ, Value.category, true_and, and_true, if_true, if_false, reduceCtorEq, Bool.false_eq_true, false_implies, forall_const, Option.some.injEq, exists_eq_left', exists_eq_left, Sum.inl.injEq, Sum.inr.injEq, Prod.mk.injEq, o1, hH.1, e13]
      exact fun _ _ => yexp_50 (by omega) S.2.2.2.1 σ S.2.1 S.2.2.1 h (by omega) (by omega) h1 h2 hQ
    | false =>
      have e13 : am_i σ m 13 = 0 := by rw [hP.2.1, hb]; rfl
      cases hw : S.2.2.2.2.2 with
      | true =>
        have e23 : am_i σ m 23 = 1 := by rw [hP.2.2.2.2.2.2.2, hw]; rfl
        have hmu := yp_mu_rand (ts := ts) (ou := ou) hw
        rw [yp_R_rand hb hw] at hQ
        simp (disch := omega) only [ax_const, ax_iload, ax_lload, ax_aload, ax_istore, ax_astore, ax_iinc, ax_i2, ax_i2n, ax_l2, ax_lsh, ax_ii, ax_il, ax_li, ax_pop, ax_dup, ax_dup2, ax_if, ax_cmp, ax_acmp, ax_goto, ax_getI, ax_getR, ax_putI, ax_putR, ax_gets, ax_getsT, ax_aldI, ax_aldR, ax_astI, ax_astR, ax_alen, ax_ret, ax_aret, ax_vret, am_st, am_kl, List.getElem?_cons_zero, List.getElem?_cons_succ, List.set_cons_zero, List.set_cons_succ, Value.category, true_and, and_true, if_true, if_false, reduceCtorEq, Bool.false_eq_true, false_implies, forall_const, Option.some.injEq, exists_eq_left', exists_eq_left, Sum.inl.injEq, Sum.inr.injEq, Prod.mk.injEq, o1, hH.1, e13, e23]
        refine fun _ => ⟨fun _ => ?_, fun z => absurd trivial z⟩
        refine am_callK [.ref m] [] (d' := 3) (lim' := (am_tp σ, am_us σ)) rfl (by omega) (by rw [h1]; exact Nat.le_refl _) (by rw [h2]; exact Nat.le_refl _) rfl (by decide) (am_recv hH.1) ?_
        refine c_yoperand hEN h hI hb hw (fun σ2 k2 f2 t2 u2 => ?_)
        simp (disch := omega) only [ax_const, ax_iload, ax_lload, ax_aload, ax_istore, ax_astore, ax_iinc, ax_i2, ax_i2n, ax_l2, ax_lsh, ax_ii, ax_il, ax_li, ax_pop, ax_dup, ax_dup2, ax_if, ax_cmp, ax_acmp, ax_goto, ax_getI, ax_getR, ax_putI, ax_putR, ax_gets, ax_getsT, ax_aldI, ax_aldR, ax_astI, ax_astR, ax_alen, ax_ret, ax_aret, ax_vret, am_st, am_kl, List.getElem?_cons_zero, List.getElem?_cons_succ, List.set_cons_zero, List.set_cons_succ, Value.category, true_and, and_true, if_true, if_false, reduceCtorEq, Bool.false_eq_true, false_implies, forall_const, Option.some.injEq, exists_eq_left', exists_eq_left, Sum.inl.injEq, Sum.inr.injEq, Prod.mk.injEq, Option.toList_some, Option.toList_none, List.cons_append, List.nil_append, List.append_nil]
        exact ih _ σ2 (by omega) k2 (yp_rand_I hEN hI hb) (t2.trans h1) (u2.trans h2) (fun σ3 k3 f3 => hQ σ3 k3 (f2.tr f3))
      | false =>
        have e23 : am_i σ m 23 = 0 := by rw [hP.2.2.2.2.2.2.2, hw]; rfl
        simp (disch := omega) only [ax_const, ax_iload, ax_lload, ax_aload, ax_istore, ax_astore, ax_iinc, ax_i2, ax_i2n, ax_l2, ax_lsh, ax_ii, ax_il, ax_li, ax_pop, ax_dup, ax_dup2, ax_if, ax_cmp, ax_acmp, ax_goto, ax_getI, ax_getR, ax_putI, ax_putR, ax_gets, ax_getsT, ax_aldI, ax_aldR, ax_astI, ax_astR, ax_alen, ax_ret, ax_aret, ax_vret, am_st, am_kl, List.getElem?_cons_zero, List.getElem?_cons_succ, List.set_cons_zero, List.set_cons_succ, Value.category, true_and, and_true, if_true, if_false, reduceCtorEq, Bool.false_eq_true, false_implies, forall_const, Option.some.injEq, exists_eq_left', exists_eq_left, Sum.inl.injEq, Sum.inr.injEq, Prod.mk.injEq, o1, hH.1, e13, e23]
        refine fun _ => ⟨⟨?_, fun z => absurd trivial z⟩, fun z => absurd trivial z⟩
        refine am_callK [.ref m] [] (d' := 2) (lim' := (am_tp σ, am_us σ)) rfl (by omega) (by rw [h1]; exact Nat.le_refl _) (by rw [h2]; exact Nat.le_refl _) rfl (by decide) (am_recv hH.1) ?_
        refine c_yoperator hEN h hI hb hw (fun σ2 k2 f2 t2 u2 => ?_)
        simp (disch := omega) only [ax_const, ax_iload, ax_lload, ax_aload, ax_istore, ax_astore, ax_iinc, ax_i2, ax_i2n, ax_l2, ax_lsh, ax_ii, ax_il, ax_li, ax_pop, ax_dup, ax_dup2, ax_if, ax_cmp, ax_acmp, ax_goto, ax_getI, ax_getR, ax_putI, ax_putR, ax_gets, ax_getsT, ax_aldI, ax_aldR, ax_astI, ax_astR, ax_alen, ax_ret, ax_aret, ax_vret, am_st, am_kl, List.getElem?_cons_zero, List.getElem?_cons_succ, List.set_cons_zero, List.set_cons_succ, Value.category, true_and, and_true, if_true, if_false, reduceCtorEq, Bool.false_eq_true, false_implies, forall_const, Option.some.injEq, exists_eq_left', exists_eq_left, Sum.inl.injEq, Sum.inr.injEq, Prod.mk.injEq, Option.toList_some, Option.toList_none, List.cons_append, List.nil_append, List.append_nil]
        cases hm : (yp_rtor ts S).1 with
        | true =>
          have hmu := yp_mu_rtor hm
          rw [yp_R_rtor hb hw hm] at hQ
          exact ih _ σ2 (by omega) k2 (yp_rtor_I hEN hI) (t2.trans h1) (u2.trans h2) (fun σ3 k3 f3 => hQ σ3 k3 (f2.tr f3))
        | false =>
          have hS : (yp_rtor ts S).2 = S := by
            unfold yp_rtor at hm ⊢
            by_cases c1 : yp_wh (xp_hd ts S.1) ≠ 0
            · rw [if_pos c1] at hm; cases hm
            · rw [if_neg c1] at hm ⊢
              by_cases c2 : 13 ∈ S.2.2.2.1 ∧ xp_hd ts S.1 = 24
              · rw [if_pos c2] at hm; cases hm
              · rw [if_neg c2]
          rw [hS] at k2
          rw [yp_R_stop hw hm] at hQ
          refine kX10_expression_17 ?_
          have e0 : yb false = 0 := rfl
          simp (disch := omega) only [ax_const, ax_iload, ax_lload, ax_aload, ax_istore, ax_astore, ax_iinc, ax_i2, ax_i2n, ax_l2, ax_lsh, ax_ii, ax_il, ax_li, ax_pop, ax_dup, ax_dup2, ax_if, ax_cmp, ax_acmp, ax_goto, ax_getI, ax_getR, ax_putI, ax_putR, ax_gets, ax_getsT, ax_aldI, ax_aldR, ax_astI, ax_astR, ax_alen, ax_ret, ax_aret, ax_vret, am_st, am_kl, List.getElem?_cons_zero, List.getElem?_cons_succ, List.set_cons_zero, List.set_cons_succ, Value.category, true_and, and_true, if_true, if_false, reduceCtorEq, Bool.false_eq_true, false_implies, forall_const, Option.some.injEq, exists_eq_left', exists_eq_left, Sum.inl.injEq, Sum.inr.injEq, Prod.mk.injEq, e0]
          exact ⟨yexp_50 (by omega) S.2.2.2.1 σ2 S.2.1 S.2.2.1 k2 (by omega) (by omega) (t2.trans h1) (u2.trans h2) (fun σ3 k3 f3 => hQ σ3 k3 (f2.tr f3)), fun z => absurd trivial z⟩
/-- expression -/
theorem c_yexpr {g : am_G} {l : Launch} {σ : am_S} {m a : Nat} {ts : List (Nat × Int32)} {o : yp_O} {W H : List Nat} {ns ou : Int32} {w : Bool} {Q : Option Value → am_S → Prop} (hEN : xp_EN ts) (h : yZ σ m ts a false o W H ns ou w) (ha : a < ts.length) (hI : o.length + H.length + 1 ≤ a)
    (hQ : ∀ σ' ns' w', yZ σ' m ts (yp_ex ts ou a o).1 (yp_ex ts ou a o).2.1 (yp_ex ts ou a o).2.2 [] H ns' ou w' → yb_f m σ σ' → Q none σ') : am_C g l mX10_expression 4 (am_tp σ, am_us σ) [.ref m] σ Q := by
  obtain ⟨hH, hT, hP, hW, hHH⟩ := id h
  have y1 : (1 : Int32) = yb true := rfl
  have y0 : (0 : Int32) = nI ([] : List Nat).length := rfl
  have hf : yb_f m σ (am_wi (am_wi (am_wi σ m 19 (nI ([] : List Nat).length)) m 21 0) m 23 (yb true)) := ((yb_f.rf.wf (by decide) (by decide)).wf (by decide) (by decide)).wf (by decide) (by decide)
  have hP0 : yb_P (am_wi σ m 19 (nI ([] : List Nat).length)) m a false o [] H ns ou w := by
    obtain ⟨p1, p2, p3, p4, p5, p6, p7, p8⟩ := hP
    exact ⟨by rw [ym_ij (by decide)]; exact p1, by rw [ym_ij (by decide)]; exact p2, p3.w (by omega) (by omega) (by omega), ⟨ym_is, fun j y hj => by simp at hj⟩, p5.w (by omega) (by omega), by rw [ym_ij (by decide)]; exact p6, by rw [ym_ij (by decide)]; exact p7, by rw [ym_ij (by decide)]; exact p8⟩
  have h' : yZ (am_wi (am_wi (am_wi σ m 19 (nI ([] : List Nat).length)) m 21 0) m 23 (yb true)) m ts a false o [] H 0 ou true := h.up hf ((hP0.nsw 0).wt true) (fun x hx => by cases hx) hHH
  refine am_C.go [some (.ref m), none] (by decide +kernel) (Nat.le_of_ble_eq_true rfl) rfl (kX10_expression_0 ?_)
  simp (disch := omega) only [ax_const, ax_iload, ax_lload, ax_aload, ax_istore, ax_astore, ax_iinc, ax_i2, ax_i2n, ax_l2, ax_lsh, ax_ii, ax_il, ax_li, ax_pop, ax_dup, ax_dup2, ax_if, ax_cmp, ax_acmp, ax_goto, ax_getI, ax_getR, ax_putI, ax_putR, ax_gets, ax_getsT, ax_aldI, ax_aldR, ax_astI, ax_astR, ax_alen, ax_ret, ax_aret, ax_vret, am_st, am_kl, List.getElem?_cons_zero, List.getElem?_cons_succ, List.set_cons_zero, List.set_cons_succ, Value.category, true_and, and_true, if_true, if_false, reduceCtorEq, Bool.false_eq_true, false_implies, forall_const, Option.some.injEq, exists_eq_left', exists_eq_left, Sum.inl.injEq, Sum.inr.injEq, Prod.mk.injEq, am_sh_wi, am_r_wi, am_tp_wi, am_us_wi, ym_is, ym_io, ym_ij, hH.1]
  refine ⟨Or.inr trivial, ?_⟩
  exact yexp_17 hEN (Nat.le_refl _) (yp_mu ts (a, false, o, [], 0, true) + 1) (a, false, o, [], 0, true) _ (Nat.lt_succ_self _) h' ⟨ha, by show o.length + 0 + H.length + 1 ≤ a + 0; omega⟩ hf.tp hf.us (fun σ' k f => hQ σ' _ _ k (hf.tr f))
