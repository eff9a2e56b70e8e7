/-! the reference's parser: connect, condition -/
theorem yco_89 {g : am_G} {l : Launch} {σ : am_S} {m a d : Nat} {ts : List (Nat × Int32)} {b n : Bool} {o : yp_O} {W H : List Nat} {ns ou : Int32} {w : Bool} {z1 z2 : Option Value} {Q : Option Value → am_S → Prop} (hd : 1 ≤ d) (h : yZ σ m ts a b o W H ns ou w) (hl2 : H.length < 82)
    (hQ : ∀ σ', yZ σ' m ts a b o W ((if n = true then 11 else 12) :: H) ns ou w → yb_f m σ σ' → Q (some (.int 2)) σ') :
    am_W g l mX10_connect d (am_tp σ, am_us σ) Q 89 [some (.ref m), some (.int (yb n)), z1, z2] [] σ := by
  have hH := h.1
  have l101 : ∀ x, x = (if n = true then 11 else 12) → am_W g l mX10_connect d (am_tp σ, am_us σ) Q 101 [some (.ref m), some (.int (yb n)), z1, z2] [.int (nI x), .ref m] σ := by
    intro x hx
    have hx13 : 3 ≤ x ∧ x ≤ 13 := by rw [hx]; split <;> omega
    rw [← hx] at hQ
    refine kX10_connect_101 ?_
    refine am_callK [.ref m, .int (nI x)] [] (d' := 0) (lim' := (am_tp σ, am_us σ)) rfl (by omega) (Nat.le_refl _) (Nat.le_refl _) rfl (Nat.le_of_ble_eq_true rfl) (am_recv hH.1) ?_
    refine c_ykeep h hl2 hx13 (fun σ2 k2 f2 t2 u2 => ?_)
    simp (disch := omega) only [ax_const, ax_iload, ax_lload, ax_aload, ax_istore, ax_astore, ax_iinc, ax_i2, ax_i2n, ax_l2, ax_lsh, ax_ii, ax_il, ax_li, ax_pop, ax_dup, ax_dup2, ax_if, ax_cmp, ax_acmp, ax_goto, ax_getI, ax_getR, ax_putI, ax_putR, ax_gets, ax_getsT, ax_aldI, ax_aldR, ax_astI, ax_astR, ax_alen, ax_ret, ax_aret, ax_vret, am_st, am_kl, List.getElem?_cons_zero, List.getElem?_cons_succ, List.set_cons_zero, List.set_cons_succ, Value.category, true_and, and_true, if_true, if_false, reduceCtorEq, Bool.false_eq_true, false_implies, forall_const, Option.some.injEq, exists_eq_left', exists_eq_left, Sum.inl.injEq, Sum.inr.injEq, Prod.mk.injEq, Option.toList_some, Option.toList_none, List.cons_append, List.nil_append, List.append_nil]
    exact ⟨t2, u2, hQ σ2 k2 f2⟩
  refine kX10_connect_89 ?_
  cases n with
  | true =>
    have e1 : yb true = 1 := rfl
    have o1 : ¬ (1 : Int32) = 0 := by decide
    rw [e1] at l101 ⊢
    simp (disch := omega) only [ax_const, ax_iload, ax_lload, ax_aload, ax_istore, ax_astore, ax_iinc, ax_i2, ax_i2n, ax_l2, ax_lsh, ax_ii, ax_il, ax_li, ax_pop, ax_dup, ax_dup2, ax_if, ax_cmp, ax_acmp, ax_goto, ax_getI, ax_getR, ax_putI, ax_putR, ax_gets, ax_getsT, ax_aldI, ax_aldR, ax_astI, ax_astR, ax_alen, ax_ret, ax_aret, ax_vret, am_st, am_kl, List.getElem?_cons_zero, List.getElem?_cons_succ, List.set_cons_zero, List.set_cons_succ, Value.category, true_and, and_true, if_true, if_false, reduceCtorEq, Bool.false_eq_true, false_implies, forall_const, Option.some.injEq, exists_eq_left', exists_eq_left, Sum.inl.injEq, Sum.inr.injEq, Prod.mk.injEq, o1]
    exact fun _ => l101 11 rfl
  | false =>
    have e1 : yb false = 0 := rfl
    rw [e1] at l101 ⊢
    simp (disch := omega) only [ax_const, ax_iload, ax_lload, ax_aload, ax_istore, ax_astore, ax_iinc, ax_i2, ax_i2n, ax_l2, ax_lsh, ax_ii, ax_il, ax_li, ax_pop, ax_dup, ax_dup2, ax_if, ax_cmp, ax_acmp, ax_goto, ax_getI, ax_getR, ax_putI, ax_putR, ax_gets, ax_getsT, ax_aldI, ax_aldR, ax_astI, ax_astR, ax_alen, ax_ret, ax_aret, ax_vret, am_st, am_kl, List.getElem?_cons_zero, List.getElem?_cons_succ, List.set_cons_zero, List.set_cons_succ, Value.category, true_and, and_true, if_true, if_false, reduceCtorEq, Bool.false_eq_true, false_implies, forall_const, Option.some.injEq, exists_eq_left', exists_eq_left, Sum.inl.injEq, Sum.inr.injEq, Prod.mk.injEq]
    exact ⟨l101 12 rfl, fun z => absurd trivial z⟩
theorem yco_39 {g : am_G} {l : Launch} {m a d tp us : Nat} {ts : List (Nat × Int32)} {b n : Bool} {W : List Nat} {ns ou : Int32} {w : Bool} {z1 z2 : Option Value} {Q : Option Value → am_S → Prop} (hd : 2 ≤ d) : ∀ (H : List Nat) (σ : am_S) (o : yp_O), yZ σ m ts a b o W H ns ou w → o.length + H.length ≤ 99 → H.length < 82 → am_tp σ = tp → am_us σ = us →
    (∀ σ', yZ σ' m ts a b (yc_cp n H o).1 W ((if n = true then 11 else 12) :: (yc_cp n H o).2) ns ou w → yb_f m σ σ' → Q (some (.int 2)) σ') → am_W g l mX10_connect d (tp, us) Q 39 [some (.ref m), some (.int (yb n)), z1, z2] [] σ := by
  intro H
  induction H with
  | nil =>
    intro σ o h hl hl2 h1 h2 hQ
    have hH := h.1
    have e20 : am_i σ m 20 = 0 := h.2.2.1.2.2.2.2.1.1
    have fin : am_W g l mX10_connect d (tp, us) Q 89 [some (.ref m), some (.int (yb n)), z1, z2] [] σ := by
      rw [← h1, ← h2]
      exact yco_89 (by omega) h hl2 hQ
    refine kX10_connect_39 ?_
    simp (disch := omega) only [ax_const, ax_iload, ax_lload, ax_aload, ax_istore, ax_astore, ax_iinc, ax_i2, ax_i2n, ax_l2, ax_lsh, ax_ii, ax_il, ax_li, ax_pop, ax_dup, ax_dup2, ax_if, ax_cmp, ax_acmp, ax_goto, ax_getI, ax_getR, ax_putI, ax_putR, ax_gets, ax_getsT, ax_aldI, ax_aldR, ax_astI, ax_astR, ax_alen, ax_ret, ax_aret, ax_vret, am_st, am_kl, List.getElem?_cons_zero, List.getElem?_cons_succ, List.set_cons_zero, List.set_cons_succ, Value.category, true_and, and_true, if_true, if_false, reduceCtorEq, Bool.false_eq_true, false_implies, forall_const, Option.some.injEq, exists_eq_left', exists_eq_left, Sum.inl.injEq, Sum.inr.injEq, Prod.mk.injEq, hH.1, e20]
    exact ⟨fun z => absurd z (by decide), fun _ => fin⟩
  | cons x H ih =>
    intro σ o h hl hl2 h1 h2 hQ
    obtain ⟨hH, hT, hP, hW, hHH⟩ := id h
    have hx := hHH x List.mem_cons_self
    have hl2' := hl2
    rw [List.length_cons] at hl hl2
    have e20 : am_i σ m 20 = nI (H.length + 1) := hP.2.2.2.2.1.1
    have ev : am_i σ (m + 15) H.length = nI x := hP.hpop.2
    rw [yc_cp] at hQ
    have go : (x = 11 ∨ (n = false ∧ x = 12)) → am_W g l mX10_connect d (tp, us) Q 82 [some (.ref m), some (.int (yb n)), z1, z2] [] σ := by
      intro c
      rw [if_pos c] at hQ
      refine kX10_connect_82 ?_
      simp (disch := omega) only [ax_const, ax_iload, ax_lload, ax_aload, ax_istore, ax_astore, ax_iinc, ax_i2, ax_i2n, ax_l2, ax_lsh, ax_ii, ax_il, ax_li, ax_pop, ax_dup, ax_dup2, ax_if, ax_cmp, ax_acmp, ax_goto, ax_getI, ax_getR, ax_putI, ax_putR, ax_gets, ax_getsT, ax_aldI, ax_aldR, ax_astI, ax_astR, ax_alen, ax_ret, ax_aret, ax_vret, am_st, am_kl, List.getElem?_cons_zero, List.getElem?_cons_succ, List.set_cons_zero, List.set_cons_succ, Value.category, true_and, and_true, if_true, if_false, reduceCtorEq, Bool.false_eq_true, false_implies, forall_const, Option.some.injEq, exists_eq_left', exists_eq_left, Sum.inl.injEq, Sum.inr.injEq, Prod.mk.injEq]
      refine am_callK [.ref m] [] (d' := 1) (lim' := (am_tp σ, am_us σ)) rfl (by omega) (by rw [h1]; exact Nat.le_refl _) (by rw [h2]; exact Nat.le_refl _) rfl (by decide) (am_recv hH.1) ?_
      refine c_yunhold h (by omega) (by omega) (fun σ1 k1 f1 t1 u1 => ?_)
      simp (disch := omega) only [ax_const, ax_iload, ax_lload, ax_aload, ax_istore, ax_astore, ax_iinc, ax_i2, ax_i2n, ax_l2, ax_lsh, ax_ii, ax_il, ax_li, ax_pop, ax_dup, ax_dup2, ax_if, ax_cmp, ax_acmp, ax_goto, ax_getI, ax_getR, ax_putI, ax_putR, ax_gets, ax_getsT, ax_aldI, ax_aldR, ax_astI, ax_astR, ax_alen, ax_ret, ax_aret, ax_vret, am_st, am_kl, List.getElem?_cons_zero, List.getElem?_cons_succ, List.set_cons_zero, List.set_cons_succ, Value.category, true_and, and_true, if_true, if_false, reduceCtorEq, Bool.false_eq_true, false_implies, forall_const, Option.some.injEq, exists_eq_left', exists_eq_left, Sum.inl.injEq, Sum.inr.injEq, Prod.mk.injEq, Option.toList_some, Option.toList_none, List.cons_append, List.nil_append, List.append_nil]
      exact ih σ1 (o ++ [(x, 0)]) k1 (by rw [List.length_append]; simp; omega) (by omega) (t1.trans h1) (u1.trans h2) (fun σ3 k3 f3 => hQ σ3 k3 (f1.tr f3))
    have fin : ¬ (x = 11 ∨ (n = false ∧ x = 12)) → am_W g l mX10_connect d (tp, us) Q 89 [some (.ref m), some (.int (yb n)), z1, z2] [] σ := by
      intro c
      rw [if_neg c] at hQ
      rw [← h1, ← h2]
      exact yco_89 (by omega) h hl2' hQ
    refine kX10_connect_39 ?_
    cases n with
    | true =>
      have e1 : yb true = 1 := rfl
      have o1 : ¬ (1 : Int32) = 0 := by decide
      rw [e1] at go fin ⊢
      simp (disch := omega) only [ax_const, ax_iload, ax_lload, ax_aload, ax_istore, ax_astore, ax_iinc, ax_i2, ax_i2n, ax_l2, ax_lsh, ax_ii, ax_il, ax_li, ax_pop, ax_dup, ax_dup2, ax_if, ax_cmp, ax_acmp, ax_goto, ax_getI, ax_getR, ax_putI, ax_putR, ax_gets, ax_getsT, ax_aldI, ax_aldR, ax_astI, ax_astR, ax_alen, ax_ret, ax_aret, ax_vret, am_st, am_kl, List.getElem?_cons_zero, List.getElem?_cons_succ, List.set_cons_zero, List.set_cons_succ, Value.category, true_and, and_true, if_true, if_false, reduceCtorEq, Bool.false_eq_true, false_implies, forall_const, Option.some.injEq, exists_eq_left', exists_eq_left, Sum.inl.injEq, Sum.inr.injEq, Prod.mk.injEq, nI_toInt, nI_clamp, am_ix_nI, am_ix_0, am_ix_1, am_ix_2, am_ix_3, am_n0, am_n1, am_n2, am_n3, am_n4, am_t0, am_t1, am_t2, am_t3, am_t4, am_tm1, am_nS, am_nP, am_nM, Int.ofNat_lt, Int.ofNat_le, hH.1, hH.r17, hH.s17, e20, yl_t0, yl_m1, Nat.add_sub_cancel, ev, yl_11, yl_eq, o1]
      exact ⟨fun _ => ⟨by omega, fun c => go (Or.inl c), fun c _ => fin (fun z => z.elim c (fun q => absurd q.1 (by decide)))⟩, fun z => by omega⟩
    | false =>
      have e1 : yb false = 0 := rfl
      rw [e1] at go fin ⊢
      simp (disch := omega) only [ax_const, ax_iload, ax_lload, ax_aload, ax_istore, ax_astore, ax_iinc, ax_i2, ax_i2n, ax_l2, ax_lsh, ax_ii, ax_il, ax_li, ax_pop, ax_dup, ax_dup2, ax_if, ax_cmp, ax_acmp, ax_goto, ax_getI, ax_getR, ax_putI, ax_putR, ax_gets, ax_getsT, ax_aldI, ax_aldR, ax_astI, ax_astR, ax_alen, ax_ret, ax_aret, ax_vret, am_st, am_kl, List.getElem?_cons_zero, List.getElem?_cons_succ, List.set_cons_zero, List.set_cons_succ, Value.category, true_and, and_true, if_true, if_false, reduceCtorEq, Bool.false_eq_true, false_implies, forall_const, Option.some.injEq, exists_eq_left', exists_eq_left, Sum.inl.injEq, Sum.inr.injEq, Prod.mk.injEq, nI_toInt, nI_clamp, am_ix_nI, am_ix_0, am_ix_1, am_ix_2, am_ix_3, am_n0, am_n1, am_n2, am_n3, am_n4, am_t0, am_t1, am_t2, am_t3, am_t4, am_tm1, am_nS, am_nP, am_nM, Int.ofNat_lt, Int.ofNat_le, hH.1, hH.r17, hH.s17, e20, yl_t0, yl_m1, Nat.add_sub_cancel, ev, yl_11, yl_12, yl_eq]
      refine ⟨fun _ => ⟨by omega, fun c => go (Or.inl c), fun c => ⟨⟨by omega, fun c2 => go (Or.inr ⟨rfl, c2⟩), fun c2 => fin (fun z => z.elim c (fun q => c2 q.2))⟩, fun z => absurd trivial z⟩⟩, fun z => by omega⟩
theorem yco_160 {g : am_G} {l : Launch} {m a d tp us : Nat} {ts : List (Nat × Int32)} {b : Bool} {W : List Nat} {ns ou v1 v2 v3 : Int32} {w : Bool} {Q : Option Value → am_S → Prop} (hd : 3 ≤ d) : ∀ (H : List Nat) (σ : am_S) (o : yp_O), 13 ∈ H → yZ σ m ts a b o W H ns ou w → o.length + H.length ≤ 99 → H.length ≤ 82 → am_tp σ = tp → am_us σ = us →
    (∀ σ', yZC σ' m ts (yc_nts (a, b, (yp_po H o).1, ou - 1, (yp_po H o).2, 1)) W ns w → yb_f m σ σ' → Q (some (.int 1)) σ') → am_W g l mX10_connect d (tp, us) Q 160 [some (.ref m), some (.int v1), some (.int v2), some (.int v3)] [] σ := by
  intro H
  induction H with
  | nil => intro σ o h; cases h
  | cons y H ih =>
    intro σ o h13 h hl hl2 h1 h2 hQ
    obtain ⟨hH, hT, hP, hW, hHH⟩ := id h
    have hy := hHH y List.mem_cons_self
    rw [yp_po] at hQ
    rw [List.length_cons] at hl hl2
    have e20 : am_i σ m 20 = nI (H.length + 1) := hP.2.2.2.2.1.1
    have e22 : am_i σ m 22 = ou := hP.2.2.2.2.2.2.1
    obtain ⟨p1, p2⟩ := hP.hpop
    refine kX10_connect_160 ?_
    simp (disch := omega) only [ax_const, ax_iload, ax_lload, ax_aload, ax_istore, ax_astore, ax_iinc, ax_i2, ax_i2n, ax_l2, ax_lsh, ax_ii, ax_il, ax_li, ax_pop, ax_dup, ax_dup2, ax_if, ax_cmp, ax_acmp, ax_goto, ax_getI, ax_getR, ax_putI, ax_putR, ax_gets, ax_getsT, ax_aldI, ax_aldR, ax_astI, ax_astR, ax_alen, ax_ret, ax_aret, ax_vret, am_st, am_kl, List.getElem?_cons_zero, List.getElem?_cons_succ, List.set_cons_zero, List.set_cons_succ, Value.category, true_and, and_true, if_true, if_false, reduceCtorEq, Bool.false_eq_true, false_implies, forall_const, Option.some.injEq, exists_eq_left', exists_eq_left, Sum.inl.injEq, Sum.inr.injEq, Prod.mk.injEq, nI_toInt, nI_clamp, am_ix_nI, am_ix_0, am_ix_1, am_ix_2, am_ix_3, am_n0, am_n1, am_n2, am_n3, am_n4, am_t0, am_t1, am_t2, am_t3, am_t4, am_tm1, am_nS, am_nP, am_nM, Int.ofNat_lt, Int.ofNat_le, am_sh_wi, am_r_wi, am_tp_wi, am_us_wi, ym_is, ym_io, ym_ij, hH.1, hH.r17, hH.s17, e20, e22, yl_m1, Nat.add_sub_cancel, p2, yl_13, yl_eq]
    refine ⟨by omega, fun c => ?_, fun c => ?_⟩
    · rw [if_pos c] at hQ
      have hf : yb_f m σ (am_wi (am_wi σ m 20 (nI H.length)) m 22 (ou - 1)) := (yb_f.rf.wf (by decide) (by decide)).wf (by decide) (by decide)
      have h' : yZ (am_wi (am_wi σ m 20 (nI H.length)) m 22 (ou - 1)) m ts a b o W H ns (ou - 1) w := h.up hf (p1.ouw _) hW (fun q hq => hHH q (List.mem_cons_of_mem _ hq))
      have h1' := hf.tp.trans h1
      have h2' := hf.us.trans h2
      generalize am_wi (am_wi σ m 20 (nI H.length)) m 22 (ou - 1) = σ1 at *
      refine am_callK [.ref m] [] (d' := 2) (lim' := (am_tp σ1, am_us σ1)) rfl (by omega) (by rw [h1']; exact Nat.le_refl _) (by rw [h2']; exact Nat.le_refl _) rfl (by decide) (am_recv h'.1.1) ?_
      refine c_ynots h' (by omega) (by omega) (fun σ2 k2 f2 t2 u2 => ?_)
      simp (disch := omega) only [ax_const, ax_iload, ax_lload, ax_aload, ax_istore, ax_astore, ax_iinc, ax_i2, ax_i2n, ax_l2, ax_lsh, ax_ii, ax_il, ax_li, ax_pop, ax_dup, ax_dup2, ax_if, ax_cmp, ax_acmp, ax_goto, ax_getI, ax_getR, ax_putI, ax_putR, ax_gets, ax_getsT, ax_aldI, ax_aldR, ax_astI, ax_astR, ax_alen, ax_ret, ax_aret, ax_vret, am_st, am_kl, List.getElem?_cons_zero, List.getElem?_cons_succ, List.set_cons_zero, List.set_cons_succ, Value.category, true_and, and_true, if_true, if_false, reduceCtorEq, Bool.false_eq_true, false_implies, forall_const, Option.some.injEq, exists_eq_left', exists_eq_left, Sum.inl.injEq, Sum.inr.injEq, Prod.mk.injEq, Option.toList_some, Option.toList_none, List.cons_append, List.nil_append, List.append_nil]
      exact ⟨t2.trans h1', u2.trans h2', hQ σ2 k2 (hf.tr f2)⟩
    · rw [if_neg c] at hQ
      refine am_callK [.ref m] [] (d' := 1) (lim' := (am_tp σ, am_us σ)) rfl (by omega) (by rw [h1]; exact Nat.le_refl _) (by rw [h2]; exact Nat.le_refl _) rfl (by decide) (am_recv hH.1) ?_
      refine c_yunhold h (by omega) (by omega) (fun σ2 k2 f2 t2 u2 => ?_)
      simp (disch := omega) only [ax_const, ax_iload, ax_lload, ax_aload, ax_istore, ax_astore, ax_iinc, ax_i2, ax_i2n, ax_l2, ax_lsh, ax_ii, ax_il, ax_li, ax_pop, ax_dup, ax_dup2, ax_if, ax_cmp, ax_acmp, ax_goto, ax_getI, ax_getR, ax_putI, ax_putR, ax_gets, ax_getsT, ax_aldI, ax_aldR, ax_astI, ax_astR, ax_alen, ax_ret, ax_aret, ax_vret, am_st, am_kl, List.getElem?_cons_zero, List.getElem?_cons_succ, List.set_cons_zero, List.set_cons_succ, Value.category, true_and, and_true, if_true, if_false, reduceCtorEq, Bool.false_eq_true, false_implies, forall_const, Option.some.injEq, exists_eq_left', exists_eq_left, Sum.inl.injEq, Sum.inr.injEq, Prod.mk.injEq, Option.toList_some, Option.toList_none, List.cons_append, List.nil_append, List.append_nil]
      exact ih σ2 (o ++ [(y, 0)]) ((List.mem_cons.mp h13).elim (fun e => absurd e.symm c) id) k2 (by rw [List.length_append]; simp; omega) (by omega) (t2.trans h1) (u2.trans h2) (fun σ3 k3 f3 => hQ σ3 k3 (f2.tr f3))
theorem yco_110 {g : am_G} {l : Launch} {σ : am_S} {m a d : Nat} {ts : List (Nat × Int32)} {b : Bool} {o : yp_O} {W H : List Nat} {ns ou v : Int32} {w : Bool} {Q : Option Value → am_S → Prop} (hd : 3 ≤ d) (h : yZ σ m ts a b o W H ns ou w) (ha : a < ts.length) (hl : o.length + H.length ≤ 99) (hl2 : H.length ≤ 82)
    (hQ0 : ¬ (13 ∈ H ∧ xp_hd ts a = 26) → ∀ σ', yZ σ' m ts a b o W H ns ou w → yb_f m σ σ' → Q (some (.int 0)) σ') (hQ1 : 13 ∈ H ∧ xp_hd ts a = 26 → ∀ σ', yZC σ' m ts (yc_nts (a + 1, b, (yp_po H o).1, ou - 1, (yp_po H o).2, 1)) W ns w → yb_f m σ σ' → Q (some (.int 1)) σ') :
    ∀ (T pre : List Nat), H.reverse = pre ++ T → am_W g l mX10_connect d (am_tp σ, am_us σ) Q 110 [some (.ref m), some (.int v), some (.int (yb (decide (13 ∈ pre)))), some (.int (nI pre.length))] [] σ := by
  obtain ⟨hH, hT, hP, hW, hHH⟩ := id h
  have e20 : am_i σ m 20 = nI H.length := hP.2.2.2.2.1.1
  intro T
  induction T with
  | nil =>
    intro pre hp
    rw [List.append_nil] at hp
    have hlen : H.length = pre.length := by rw [← hp, List.length_reverse]
    have hmem : 13 ∈ pre ↔ 13 ∈ H := by rw [← hp, List.mem_reverse]
    rw [hlen] at e20
    refine kX10_connect_110 ?_
    simp (disch := omega) only [ax_const, ax_iload, ax_lload, ax_aload, ax_istore, ax_astore, ax_iinc, ax_i2, ax_i2n, ax_l2, ax_lsh, ax_ii, ax_il, ax_li, ax_pop, ax_dup, ax_dup2, ax_if, ax_cmp, ax_acmp, ax_goto, ax_getI, ax_getR, ax_putI, ax_putR, ax_gets, ax_getsT, ax_aldI, ax_aldR, ax_astI, ax_astR, ax_alen, ax_ret, ax_aret, ax_vret, am_st, am_kl, List.getElem?_cons_zero, List.getElem?_cons_succ, List.set_cons_zero, List.set_cons_succ, Value.category, true_and, and_true, if_true, if_false, reduceCtorEq, Bool.false_eq_true, false_implies, forall_const, Option.some.injEq, exists_eq_left', exists_eq_left, Sum.inl.injEq, Sum.inr.injEq, Prod.mk.injEq, hH.1, e20, yl_lt]
    refine ⟨fun z => by omega, fun _ => ?_⟩
    by_cases c : 13 ∈ H
    · have e1 : yb (decide (13 ∈ pre)) = 1 := by rw [decide_eq_true (hmem.mpr c)]; rfl
      have o1 : ¬ (1 : Int32) = 0 := by decide
      rw [e1]
      simp (disch := omega) only [ax_const, ax_iload, ax_lload, ax_aload, ax_istore, ax_astore, ax_iinc, ax_i2, ax_i2n, ax_l2, ax_lsh, ax_ii, ax_il, ax_li, ax_pop, ax_dup, ax_dup2, ax_if, ax_cmp, ax_acmp, ax_goto, ax_getI, ax_getR, ax_putI, ax_putR, ax_gets, ax_getsT, ax_aldI, ax_aldR, ax_astI, ax_astR, ax_alen, ax_ret, ax_aret, ax_vret, am_st, am_kl, List.getElem?_cons_zero, List.getElem?_cons_succ, List.set_cons_zero, List.set_cons_succ, Value.category, true_and, and_true, if_true, if_false, reduceCtorEq, Bool.false_eq_true, false_implies, forall_const, Option.some.injEq, exists_eq_left', exists_eq_left, Sum.inl.injEq, Sum.inr.injEq, Prod.mk.injEq, o1]
      intro _
      refine am_callK [.ref m, .int (nI (yw_s 26))] [] (d' := 1) (lim' := (am_tp σ, am_us σ)) rfl (by omega) (Nat.le_refl _) (Nat.le_refl _) rfl (Nat.le_of_ble_eq_true rfl) (am_recv hH.1) ?_
      refine c_ytsign h ha (by decide) (by decide) (fun c26 σ1 k1 f1 t1 u1 => ?_) (fun c26 σ1 k1 f1 t1 u1 => ?_)
      · simp (disch := omega) only [ax_const, ax_iload, ax_lload, ax_aload, ax_istore, ax_astore, ax_iinc, ax_i2, ax_i2n, ax_l2, ax_lsh, ax_ii, ax_il, ax_li, ax_pop, ax_dup, ax_dup2, ax_if, ax_cmp, ax_acmp, ax_goto, ax_getI, ax_getR, ax_putI, ax_putR, ax_gets, ax_getsT, ax_aldI, ax_aldR, ax_astI, ax_astR, ax_alen, ax_ret, ax_aret, ax_vret, am_st, am_kl, List.getElem?_cons_zero, List.getElem?_cons_succ, List.set_cons_zero, List.set_cons_succ, Value.category, true_and, and_true, if_true, if_false, reduceCtorEq, Bool.false_eq_true, false_implies, forall_const, Option.some.injEq, exists_eq_left', exists_eq_left, Sum.inl.injEq, Sum.inr.injEq, Prod.mk.injEq, Option.toList_some, Option.toList_none, List.cons_append, List.nil_append, List.append_nil, o1]
        exact fun _ => yco_160 hd H σ1 o c k1 hl hl2 t1 u1 (fun σ' k f => hQ1 ⟨c, c26⟩ σ' k (f1.tr f))
      · simp (disch := omega) only [ax_const, ax_iload, ax_lload, ax_aload, ax_istore, ax_astore, ax_iinc, ax_i2, ax_i2n, ax_l2, ax_lsh, ax_ii, ax_il, ax_li, ax_pop, ax_dup, ax_dup2, ax_if, ax_cmp, ax_acmp, ax_goto, ax_getI, ax_getR, ax_putI, ax_putR, ax_gets, ax_getsT, ax_aldI, ax_aldR, ax_astI, ax_astR, ax_alen, ax_ret, ax_aret, ax_vret, am_st, am_kl, List.getElem?_cons_zero, List.getElem?_cons_succ, List.set_cons_zero, List.set_cons_succ, Value.category, true_and, and_true, if_true, if_false, reduceCtorEq, Bool.false_eq_true, false_implies, forall_const, Option.some.injEq, exists_eq_left', exists_eq_left, Sum.inl.injEq, Sum.inr.injEq, Prod.mk.injEq, Option.toList_some, Option.toList_none, List.cons_append, List.nil_append, List.append_nil]
        exact ⟨⟨t1, u1, hQ0 (fun z => c26 z.2) σ1 k1 f1⟩, fun z => absurd trivial z⟩
    · have e1 : yb (decide (13 ∈ pre)) = 0 := by rw [decide_eq_false (fun z => c (hmem.mp z))]; rfl
      rw [e1]
      simp (disch := omega) only [ax_const, ax_iload, ax_lload, ax_aload, ax_istore, ax_astore, ax_iinc, ax_i2, ax_i2n, ax_l2, ax_lsh, ax_ii, ax_il, ax_li, ax_pop, ax_dup, ax_dup2, ax_if, ax_cmp, ax_acmp, ax_goto, ax_getI, ax_getR, ax_putI, ax_putR, ax_gets, ax_getsT, ax_aldI, ax_aldR, ax_astI, ax_astR, ax_alen, ax_ret, ax_aret, ax_vret, am_st, am_kl, List.getElem?_cons_zero, List.getElem?_cons_succ, List.set_cons_zero, List.set_cons_succ, Value.category, true_and, and_true, if_true, if_false, reduceCtorEq, Bool.false_eq_true, false_implies, forall_const, Option.some.injEq, exists_eq_left', exists_eq_left, Sum.inl.injEq, Sum.inr.injEq, Prod.mk.injEq]
      exact ⟨hQ0 (fun z => c z.1) σ h .rf, fun z => absurd trivial z⟩
  | cons x T ih =>
    intro pre hp
    have hlen : H.length = pre.length + (T.length + 1) := by rw [← List.length_reverse, hp, List.length_append, List.length_cons]
    have hx : am_i σ (m + 15) pre.length = nI x := hP.2.2.2.2.1.2 pre.length x (by rw [hp]; simp)
    have hxm : x ∈ H := by rw [← List.mem_reverse, hp]; simp
    have hx13 := hHH x hxm
    have nx := ih (pre ++ [x]) (by rw [hp]; simp)
    rw [List.length_append, List.length_cons, List.length_nil] at nx
    rw [hlen] at e20
    refine kX10_connect_110 ?_
    simp (disch := omega) only [ax_const, ax_iload, ax_lload, ax_aload, ax_istore, ax_astore, ax_iinc, ax_i2, ax_i2n, ax_l2, ax_lsh, ax_ii, ax_il, ax_li, ax_pop, ax_dup, ax_dup2, ax_if, ax_cmp, ax_acmp, ax_goto, ax_getI, ax_getR, ax_putI, ax_putR, ax_gets, ax_getsT, ax_aldI, ax_aldR, ax_astI, ax_astR, ax_alen, ax_ret, ax_aret, ax_vret, am_st, am_kl, List.getElem?_cons_zero, List.getElem?_cons_succ, List.set_cons_zero, List.set_cons_succ, Value.category, true_and, and_true, if_true, if_false, reduceCtorEq, Bool.false_eq_true, false_implies, forall_const, Option.some.injEq, exists_eq_left', exists_eq_left, Sum.inl.injEq, Sum.inr.injEq, Prod.mk.injEq, nI_toInt, nI_clamp, am_ix_nI, am_ix_0, am_ix_1, am_ix_2, am_ix_3, am_n0, am_n1, am_n2, am_n3, am_n4, am_t0, am_t1, am_t2, am_t3, am_t4, am_tm1, am_nS, am_nP, am_nM, Int.ofNat_lt, Int.ofNat_le, hH.1, hH.r17, hH.s17, e20, yl_lt, hx, yl_13, yl_eq]
    refine ⟨fun _ => ⟨fun q => ⟨by omega, fun c => ?_, fun c => ?_⟩, fun q => ?_⟩, fun z => by omega⟩
    · have : decide (13 ∈ pre ++ [x]) = true := decide_eq_true (by rw [c]; simp)
      rw [this] at nx
      exact nx
    · have q' : decide (13 ∈ pre) = false := yb_ne.mp q
      have : decide (13 ∈ pre ++ [x]) = false := by
        rw [decide_eq_false_iff_not] at q' ⊢
        intro hm
        rcases List.mem_append.mp hm with hm | hm
        · exact q' hm
        · exact c (List.mem_singleton.mp hm).symm
      rw [this] at nx
      exact nx
    · have q' : decide (13 ∈ pre) = true := by
        cases e : decide (13 ∈ pre) with
        | true => rfl
        | false => exact absurd (yb_ne.mpr e) q
      have : decide (13 ∈ pre ++ [x]) = true := decide_eq_true (List.mem_append.mpr (Or.inl (of_decide_eq_true q')))
      rw [this] at nx
      exact nx
theorem c_yconnect {g : am_G} {l : Launch} {σ : am_S} {m : Nat} {ts : List (Nat × Int32)} {S : yc_S} {W : List Nat} {ns : Int32} {w : Bool} {Q : Option Value → am_S → Prop} (hEN : xp_EN ts) (h : yZC σ m ts S W ns w) (hI : yc_I ts S) (hb : S.2.1 = false)
    (hQ : ∀ σ', yZC σ' m ts (yc_conn ts S) W ns w → yb_f m σ σ' → Q (some (.int (nI (yc_conn ts S).2.2.2.2.2))) σ') : am_C g l mX10_connect 3 (am_tp σ, am_us σ) [.ref m] σ Q := by
  obtain ⟨a, b, o, ou, H, st⟩ := S
  have hb : b = false := hb
  subst hb
  have h : yZ σ m ts a false o W H ns ou w := h
  obtain ⟨hI1, hI2, hI3⟩ := hI
  have ha : a < ts.length := hI1 rfl
  have hI3 : o.length + H.length + 1 ≤ a + (if false = true then 1 else 0) := hI3
  rw [if_neg (by decide)] at hI3
  obtain ⟨hH, hT, hP, hW, hHH⟩ := id h
  have hts := hT.1
  have o1 : ¬ (1 : Int32) = 0 := by decide
  unfold yc_conn at hQ
  dsimp only at hQ
  have ew : yw_f 97 110 100 0 0 0 = yw_c (xt_w 12) := by decide +kernel
  have ew2 : yw_f 111 114 0 0 0 0 = yw_c (xt_w 13) := by decide +kernel
  refine am_C.go [some (.ref m), none, none, none] (by decide +kernel) (Nat.le_of_ble_eq_true rfl) rfl (kX10_connect_0 ?_)
  simp (disch := omega) only [ax_const, ax_iload, ax_lload, ax_aload, ax_istore, ax_astore, ax_iinc, ax_i2, ax_i2n, ax_l2, ax_lsh, ax_ii, ax_il, ax_li, ax_pop, ax_dup, ax_dup2, ax_if, ax_cmp, ax_acmp, ax_goto, ax_getI, ax_getR, ax_putI, ax_putR, ax_gets, ax_getsT, ax_aldI, ax_aldR, ax_astI, ax_astR, ax_alen, ax_ret, ax_aret, ax_vret, am_st, am_kl, List.getElem?_cons_zero, List.getElem?_cons_succ, List.set_cons_zero, List.set_cons_succ, Value.category, true_and, and_true, if_true, if_false, reduceCtorEq, Bool.false_eq_true, false_implies, forall_const, Option.some.injEq, exists_eq_left', exists_eq_left, Sum.inl.injEq, Sum.inr.injEq, Prod.mk.injEq]
  refine am_callK [.int 97, .int 110, .int 100, .int 0, .int 0, .int 0] [.ref m] (d' := 0) (lim' := (am_tp σ, am_us σ)) rfl (by decide) (Nat.le_refl _) (Nat.le_refl _) rfl (Nat.le_of_ble_eq_true rfl) am_stat ?_
  refine c_yword (fun _ _ => ?_)
  rw [ew]
  simp (disch := omega) only [Option.toList_some, Option.toList_none, List.cons_append, List.nil_append, List.append_nil]
  refine am_callK [.ref m, .int (yw_c (xt_w 12))] [] (d' := 0) (lim' := (am_tp σ, am_us σ)) rfl (by decide) (Nat.le_refl _) (Nat.le_refl _) rfl (Nat.le_of_ble_eq_true rfl) (am_recv hH.1) ?_
  refine c_ytword h ha (by decide) (fun c σ1 k1 f1 t1 u1 => ?_) (fun c σ1 k1 f1 t1 u1 => ?_)
  · rw [if_pos (Or.inl c), if_pos c, decide_eq_true c] at hQ
    simp (disch := omega) only [ax_const, ax_iload, ax_lload, ax_aload, ax_istore, ax_astore, ax_iinc, ax_i2, ax_i2n, ax_l2, ax_lsh, ax_ii, ax_il, ax_li, ax_pop, ax_dup, ax_dup2, ax_if, ax_cmp, ax_acmp, ax_goto, ax_getI, ax_getR, ax_putI, ax_putR, ax_gets, ax_getsT, ax_aldI, ax_aldR, ax_astI, ax_astR, ax_alen, ax_ret, ax_aret, ax_vret, am_st, am_kl, List.getElem?_cons_zero, List.getElem?_cons_succ, List.set_cons_zero, List.set_cons_succ, Value.category, true_and, and_true, if_true, if_false, reduceCtorEq, Bool.false_eq_true, false_implies, forall_const, Option.some.injEq, exists_eq_left', exists_eq_left, Sum.inl.injEq, Sum.inr.injEq, Prod.mk.injEq, Option.toList_some, Option.toList_none, List.cons_append, List.nil_append, List.append_nil, o1]
    intro _
    exact yco_39 (n := true) (by decide) H σ1 o k1 (by omega) (by omega) t1 u1 (fun σ' k f => hQ σ' k (f1.tr f))
  · simp (disch := omega) only [ax_const, ax_iload, ax_lload, ax_aload, ax_istore, ax_astore, ax_iinc, ax_i2, ax_i2n, ax_l2, ax_lsh, ax_ii, ax_il, ax_li, ax_pop, ax_dup, ax_dup2, ax_if, ax_cmp, ax_acmp, ax_goto, ax_getI, ax_getR, ax_putI, ax_putR, ax_gets, ax_getsT, ax_aldI, ax_aldR, ax_astI, ax_astR, ax_alen, ax_ret, ax_aret, ax_vret, am_st, am_kl, List.getElem?_cons_zero, List.getElem?_cons_succ, List.set_cons_zero, List.set_cons_succ, Value.category, true_and, and_true, if_true, if_false, reduceCtorEq, Bool.false_eq_true, false_implies, forall_const, Option.some.injEq, exists_eq_left', exists_eq_left, Sum.inl.injEq, Sum.inr.injEq, Prod.mk.injEq, Option.toList_some, Option.toList_none, List.cons_append, List.nil_append, List.append_nil]
    refine ⟨?_, fun z => absurd trivial z⟩
    refine am_callK [.int 111, .int 114, .int 0, .int 0, .int 0, .int 0] [.ref m] (d' := 0) (lim' := (am_tp σ1, am_us σ1)) rfl (by decide) (by rw [t1]; exact Nat.le_refl _) (by rw [u1]; exact Nat.le_refl _) rfl (Nat.le_of_ble_eq_true rfl) am_stat ?_
    refine c_yword (fun _ _ => ?_)
    rw [ew2]
    simp (disch := omega) only [Option.toList_some, Option.toList_none, List.cons_append, List.nil_append, List.append_nil]
    refine am_callK [.ref m, .int (yw_c (xt_w 13))] [] (d' := 0) (lim' := (am_tp σ1, am_us σ1)) rfl (by decide) (by rw [t1]; exact Nat.le_refl _) (by rw [u1]; exact Nat.le_refl _) rfl (by decide) (am_recv k1.1.1) ?_
    refine c_ytword k1 ha (by decide) (fun c2 σ2 k2 f2 t2 u2 => ?_) (fun c2 σ2 k2 f2 t2 u2 => ?_)
    · rw [if_pos (Or.inr c2), if_neg c, decide_eq_false c] at hQ
      simp (disch := omega) only [ax_const, ax_iload, ax_lload, ax_aload, ax_istore, ax_astore, ax_iinc, ax_i2, ax_i2n, ax_l2, ax_lsh, ax_ii, ax_il, ax_li, ax_pop, ax_dup, ax_dup2, ax_if, ax_cmp, ax_acmp, ax_goto, ax_getI, ax_getR, ax_putI, ax_putR, ax_gets, ax_getsT, ax_aldI, ax_aldR, ax_astI, ax_astR, ax_alen, ax_ret, ax_aret, ax_vret, am_st, am_kl, List.getElem?_cons_zero, List.getElem?_cons_succ, List.set_cons_zero, List.set_cons_succ, Value.category, true_and, and_true, if_true, if_false, reduceCtorEq, Bool.false_eq_true, false_implies, forall_const, Option.some.injEq, exists_eq_left', exists_eq_left, Sum.inl.injEq, Sum.inr.injEq, Prod.mk.injEq, Option.toList_some, Option.toList_none, List.cons_append, List.nil_append, List.append_nil, o1]
      intro _
      exact yco_39 (n := false) (by decide) H σ2 o k2 (by omega) (by omega) (t2.trans t1) (u2.trans u1) (fun σ' k f => hQ σ' k ((f1.tr f2).tr f))
    · rw [if_neg (fun e => e.elim c c2)] at hQ
      simp (disch := omega) only [ax_const, ax_iload, ax_lload, ax_aload, ax_istore, ax_astore, ax_iinc, ax_i2, ax_i2n, ax_l2, ax_lsh, ax_ii, ax_il, ax_li, ax_pop, ax_dup, ax_dup2, ax_if, ax_cmp, ax_acmp, ax_goto, ax_getI, ax_getR, ax_putI, ax_putR, ax_gets, ax_getsT, ax_aldI, ax_aldR, ax_astI, ax_astR, ax_alen, ax_ret, ax_aret, ax_vret, am_st, am_kl, List.getElem?_cons_zero, List.getElem?_cons_succ, List.set_cons_zero, List.set_cons_succ, Value.category, true_and, and_true, if_true, if_false, reduceCtorEq, Bool.false_eq_true, false_implies, forall_const, Option.some.injEq, exists_eq_left', exists_eq_left, Sum.inl.injEq, Sum.inr.injEq, Prod.mk.injEq, Option.toList_some, Option.toList_none, List.cons_append, List.nil_append, List.append_nil]
      refine ⟨?_, fun z => absurd trivial z⟩
      have := yco_110 (g := g) (l := l) (d := 3) (v := 0) (Q := Q) (Nat.le_refl _) k2 ha (by omega) (by omega) (fun q σ' k f => by
        rw [if_neg q] at hQ
        exact hQ σ' k ((f1.tr f2).tr f)) (fun q σ' k f => by
        rw [if_pos q] at hQ
        exact hQ σ' k ((f1.tr f2).tr f)) H.reverse [] rfl
      rw [t2, u2, t1, u1] at this
      exact this
/-! the registers of a statement -/
def yR (σ : am_S) (m : Nat) (T : Nat → Nat) : Prop :=
  am_i σ m 25 = nI (T 0) ∧ (∀ i, i < 2 → am_i σ (m + 16) i = nI (T (1 + i))) ∧ am_i σ m 26 = nI (T 3) ∧ am_i σ m 27 = nI (T 4) ∧ (∀ i, i < 4 → am_i σ (m + 17) i = nI (T (5 + i)) ∧ am_i σ (m + 18) i = nI (T (9 + i)) ∧ am_i σ (m + 19) i = nI (T (13 + i))) ∧
  am_i σ m 32 = nI (T 17) ∧ am_i σ m 37 = nI (T 18) ∧ am_i σ m 38 = nI (T 19) ∧ am_i σ m 33 = nI (T 20) ∧ am_i σ m 34 = nI (T 21) ∧ am_i σ m 35 = nI (T 22) ∧ am_i σ m 36 = nI (T 23) ∧ am_i σ m 39 = nI (T 24)
theorem yR.f {σ σ' : am_S} {m : Nat} {T : Nat → Nat} (h : yR σ m T) (hf : yb_f m σ σ') : yR σ' m T := by
  unfold yR
  rw [hf.2 25 (by decide), hf.2 26 (by decide), hf.2 27 (by decide), hf.2 32 (by decide), hf.2 37 (by decide), hf.2 38 (by decide), hf.2 33 (by decide), hf.2 34 (by decide), hf.2 35 (by decide), hf.2 36 (by decide), hf.2 39 (by decide), hf.1.i (a := m + 16) (by omega), hf.1.i (a := m + 17) (by omega), hf.1.i (a := m + 18) (by omega), hf.1.i (a := m + 19) (by omega)]
  exact h
/-- a statement's reading changes no more than this -/
def ye_f (m : Nat) (σ σ' : am_S) : Prop := ym_f (fun b => b = m ∨ (m + 12 ≤ b ∧ b ≤ m + 19)) σ σ' ∧ am_i σ' m 11 = am_i σ m 11 ∧ am_i σ' m 24 = am_i σ m 24
theorem ye_f.of {m : Nat} {σ σ' : am_S} (h : yb_f m σ σ') : ye_f m σ σ' := ⟨h.1.mono (fun b x => by omega), h.2 11 (by decide), h.2 24 (by decide)⟩
theorem ye_f.rf {m : Nat} {σ : am_S} : ye_f m σ σ := ⟨.rf, rfl, rfl⟩
theorem ye_f.tr {m : Nat} {σ σ' σ'' : am_S} (h : ye_f m σ σ') (h' : ye_f m σ' σ'') : ye_f m σ σ'' := ⟨h.1.tr h'.1, h'.2.1.trans h.2.1, h'.2.2.trans h.2.2⟩
theorem ye_f.tp {m : Nat} {σ σ' : am_S} (h : ye_f m σ σ') : am_tp σ' = am_tp σ := h.1.tp
theorem ye_f.us {m : Nat} {σ σ' : am_S} (h : ye_f m σ σ') : am_us σ' = am_us σ := h.1.us
theorem ye_f.wf {m k : Nat} {σ σ' : am_S} {v : Int32} (h : ye_f m σ σ') (h1 : k ≠ 11) (h2 : k ≠ 24) : ye_f m σ (am_wi σ' m k v) := h.tr ⟨ym_f.rf.wi (a := m) (Or.inl rfl), by rw [ym_ij (Ne.symm h1)], by rw [ym_ij (Ne.symm h2)]⟩
theorem ye_f.wa {m a k : Nat} {σ σ' : am_S} {v : Int32} (h : ye_f m σ σ') (h1 : m + 12 ≤ a) (h2 : a ≤ m + 19) : ye_f m σ (am_wi σ' a k v) := h.tr ⟨ym_f.rf.wi (a := a) (Or.inr ⟨h1, h2⟩), by rw [ym_io (by omega)], by rw [ym_io (by omega)]⟩
/-- a register outside the reading's own cells is set -/
theorem yZ.reg {σ : am_S} {m a k : Nat} {v : Int32} {ts : List (Nat × Int32)} {b : Bool} {o : yp_O} {W H : List Nat} {ns ou : Int32} {w : Bool} (h : yZ σ m ts a b o W H ns ou w) (hk : 24 ≤ k) : yZ (am_wi σ m k v) m ts a b o W H ns ou w := by
  obtain ⟨hH, hT, ⟨h1, h2, h3, h4, h5, h6, h7, h8⟩, hW, hHH⟩ := h
  refine ⟨hH.w, ?_, ⟨by rw [ym_ij (by omega)]; exact h1, by rw [ym_ij (by omega)]; exact h2, h3.w (by omega) (by omega) (by omega), h4.w (by omega) (by omega), h5.w (by omega) (by omega), by rw [ym_ij (by omega)]; exact h6, by rw [ym_ij (by omega)]; exact h7, by rw [ym_ij (by omega)]; exact h8⟩, hW, hHH⟩
  unfold yb_T
  rw [ym_iF (by omega), ym_iF (by omega)]
  exact hT
theorem yZ.rega {σ : am_S} {m a c k : Nat} {v : Int32} {ts : List (Nat × Int32)} {b : Bool} {o : yp_O} {W H : List Nat} {ns ou : Int32} {w : Bool} (h : yZ σ m ts a b o W H ns ou w) (h1 : m + 16 ≤ c) : yZ (am_wi σ c k v) m ts a b o W H ns ou w := by
  obtain ⟨hH, hT, ⟨g1, g2, g3, g4, g5, g6, g7, g8⟩, hW, hHH⟩ := h
  refine ⟨hH.w, ?_, ⟨by rw [ym_io (by omega)]; exact g1, by rw [ym_io (by omega)]; exact g2, g3.w (by omega) (by omega) (by omega), g4.w (by omega) (by omega), g5.w (by omega) (by omega), by rw [ym_io (by omega)]; exact g6, by rw [ym_io (by omega)]; exact g7, by rw [ym_io (by omega)]; exact g8⟩, hW, hHH⟩
  unfold yb_T
  rw [ym_iF (by omega), ym_iF (by omega)]
  exact hT
