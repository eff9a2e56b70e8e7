/-! ===== Parser: the loops ===== -/
theorem xp_Ploop {g : am_G} {l : Launch} {pa j n df d tp us : Nat} {ts : List (Nat × Int32)} {f : xp_M → xp_M} {Q : Option Value → am_S → Prop} (hj : j < 6) (hd : df < d) (hf : xp_Con g l mX1_readF df ts pa j n f) (gf : xp_Gr ts.length 1 f) :
    ∀ (i : Nat) (σ : am_S) (k : Nat → Nat) (ss : Nat → List (Nat × Int32)) (m : xp_M), i ≤ 80 → xp_J g σ pa ts k ss j m → m.2.2.1.length + 1 ≤ 2 * m.1 → am_tp σ = tp → am_us σ = us → (∀ σ', xp_J g σ' pa ts k ss j (xp_loop ts (fun h => h == 29) f i m) → am_fm (xp_Q pa j) σ σ' → Q none σ') →
      am_W g l mX1_readP d (tp, us) Q 8 [some (.ref pa), some (.ref (xs_ca (pa + 1) j)), some (.int (nI (6 - n))), some (.int (nI (80 - i)))] [] σ := by
  have t80 : Int32.toInt 80 = 80 := rfl
  intro i
  induction i with
  | zero =>
    intro σ k ss m hi h hl h1 h2 hQ
    refine kX1_readP_8 ?_
    simp (disch := omega) only [ax_const, ax_iload, ax_lload, ax_aload, ax_istore, ax_astore, ax_iinc, ax_i2, ax_i2n, ax_l2, ax_lsh, ax_ii, ax_il, ax_li, ax_pop, ax_dup, ax_dup2, ax_if, ax_cmp, ax_acmp, ax_goto, ax_getI, ax_getR, ax_putI, ax_putR, ax_gets, ax_getsT, ax_aldI, ax_aldR, ax_astI, ax_astR, ax_alen, ax_ret, ax_aret, ax_vret, am_st, am_kl, List.getElem?_cons_zero, List.getElem?_cons_succ, List.set_cons_zero, List.set_cons_succ, Value.category, true_and, and_true, if_true, if_false, reduceCtorEq, Bool.false_eq_true, false_implies, forall_const, Option.some.injEq, exists_eq_left', exists_eq_left, Sum.inl.injEq, Sum.inr.injEq, Prod.mk.injEq, nI_toInt, nI_clamp, am_ix_nI, am_ix_0, am_ix_1, am_ix_2, am_ix_3, am_n0, am_n1, am_n2, am_n3, am_n4, am_t0, am_t1, am_t2, am_t3, am_t4, am_tm1, am_nS, am_nP, am_nM, Int.ofNat_lt, Int.ofNat_le, t80]
    exact ⟨fun z => by omega, fun _ => ⟨h1, h2, hQ σ h .rf⟩⟩
  | succ i ih =>
    intro σ k ss m hi h hl h1 h2 hQ
    rw [xp_loop] at hQ
    refine kX1_readP_8 ?_
    simp (disch := omega) only [ax_const, ax_iload, ax_lload, ax_aload, ax_istore, ax_astore, ax_iinc, ax_i2, ax_i2n, ax_l2, ax_lsh, ax_ii, ax_il, ax_li, ax_pop, ax_dup, ax_dup2, ax_if, ax_cmp, ax_acmp, ax_goto, ax_getI, ax_getR, ax_putI, ax_putR, ax_gets, ax_getsT, ax_aldI, ax_aldR, ax_astI, ax_astR, ax_alen, ax_ret, ax_aret, ax_vret, am_st, am_kl, List.getElem?_cons_zero, List.getElem?_cons_succ, List.set_cons_zero, List.set_cons_succ, Value.category, true_and, and_true, if_true, if_false, reduceCtorEq, Bool.false_eq_true, false_implies, forall_const, Option.some.injEq, exists_eq_left', exists_eq_left, Sum.inl.injEq, Sum.inr.injEq, Prod.mk.injEq, nI_toInt, nI_clamp, am_ix_nI, am_ix_0, am_ix_1, am_ix_2, am_ix_3, am_n0, am_n1, am_n2, am_n3, am_n4, am_t0, am_t1, am_t2, am_t3, am_t4, am_tm1, am_nS, am_nP, am_nM, Int.ofNat_lt, Int.ofNat_le, t80]
    refine ⟨fun _ => ?_, fun z => by omega⟩
    refine am_callK [.ref pa, .ref (am_tk g 29)] [] (d' := 0) (lim' := (am_tp σ, am_us σ)) rfl (by omega) (by rw [h1]; exact Nat.le_refl _) (by rw [h2]; exact Nat.le_refl _) rfl (by decide) (am_recv h.2.1) ?_
    refine c_ptake h (by decide) (fun q σ1 hJ1 hf1 t1 u1 => ?_) (fun q _ _ => ?_)
    · rw [if_pos (beq_iff_eq.mpr q), q] at hQ
      have o1 : ¬ (1 : Int32) = 0 := by decide
      have hlt := xp_hd_lt q (by decide)
      have t1' := t1.trans h1
      have u1' := u1.trans h2
      have hl1 : (xp_adv m).2.2.1.length + 2 ≤ 2 * (xp_adv m).1 := by show m.2.2.1.length + 2 ≤ 2 * (m.1 + 1); omega
      obtain ⟨y1, y2, y3⟩ := gf (xp_adv m) hlt
      have y3 : (f (xp_adv m)).2.2.1.length + 2 * (m.1 + 1) ≤ m.2.2.1.length + 2 * (f (xp_adv m)).1 + 1 := y3
      simp (disch := omega) only [ax_const, ax_iload, ax_lload, ax_aload, ax_istore, ax_astore, ax_iinc, ax_i2, ax_i2n, ax_l2, ax_lsh, ax_ii, ax_il, ax_li, ax_pop, ax_dup, ax_dup2, ax_if, ax_cmp, ax_acmp, ax_goto, ax_getI, ax_getR, ax_putI, ax_putR, ax_gets, ax_getsT, ax_aldI, ax_aldR, ax_astI, ax_astR, ax_alen, ax_ret, ax_aret, ax_vret, am_st, am_kl, List.getElem?_cons_zero, List.getElem?_cons_succ, List.set_cons_zero, List.set_cons_succ, Value.category, true_and, and_true, if_true, if_false, reduceCtorEq, Bool.false_eq_true, false_implies, forall_const, Option.some.injEq, exists_eq_left', exists_eq_left, Sum.inl.injEq, Sum.inr.injEq, Prod.mk.injEq, nI_toInt, nI_clamp, am_ix_nI, am_ix_0, am_ix_1, am_ix_2, am_ix_3, am_n0, am_n1, am_n2, am_n3, am_n4, am_t0, am_t1, am_t2, am_t3, am_t4, am_tm1, am_nS, am_nP, am_nM, Int.ofNat_lt, Int.ofNat_le, Option.toList_some, Option.toList_none, List.cons_append, List.nil_append, List.append_nil, o1]
      intro _
      refine am_callK [.ref pa, .ref (xs_ca (pa + 1) j), .int (nI (6 - n))] [] (d' := df) (lim' := (am_tp σ1, am_us σ1)) rfl (by omega) (by rw [t1']; exact Nat.le_refl _) (by rw [u1']; exact Nat.le_refl _) rfl (by decide) (am_recv hJ1.2.1) ?_
      refine hf σ1 k ss (xp_adv m) _ hJ1 hl1 (fun σ2 hJ2 hf2 t2 u2 => ?_)
      have t2' := t2.trans t1'
      have u2' := u2.trans u1'
      have hb2 := hJ2.hd
      simp (disch := omega) only [ax_const, ax_iload, ax_lload, ax_aload, ax_istore, ax_astore, ax_iinc, ax_i2, ax_i2n, ax_l2, ax_lsh, ax_ii, ax_il, ax_li, ax_pop, ax_dup, ax_dup2, ax_if, ax_cmp, ax_acmp, ax_goto, ax_getI, ax_getR, ax_putI, ax_putR, ax_gets, ax_getsT, ax_aldI, ax_aldR, ax_astI, ax_astR, ax_alen, ax_ret, ax_aret, ax_vret, am_st, am_kl, List.getElem?_cons_zero, List.getElem?_cons_succ, List.set_cons_zero, List.set_cons_succ, Value.category, true_and, and_true, if_true, if_false, reduceCtorEq, Bool.false_eq_true, false_implies, forall_const, Option.some.injEq, exists_eq_left', exists_eq_left, Sum.inl.injEq, Sum.inr.injEq, Prod.mk.injEq, nI_toInt, nI_clamp, am_ix_nI, am_ix_0, am_ix_1, am_ix_2, am_ix_3, am_n0, am_n1, am_n2, am_n3, am_n4, am_t0, am_t1, am_t2, am_t3, am_t4, am_tm1, am_nS, am_nP, am_nM, Int.ofNat_lt, Int.ofNat_le, Option.toList_some, Option.toList_none, List.cons_append, List.nil_append, List.append_nil]
      refine am_callK [.ref (xs_ca (pa + 1) j), .ref (am_tk g 29)] [] (d' := 0) (lim' := (am_tp σ2, am_us σ2)) rfl (by omega) (by rw [t2']; exact Nat.le_refl _) (by rw [u2']; exact Nat.le_refl _) rfl (by decide) (am_recv (hJ2.code hj).1) ?_
      refine c_kjoin (o := 0) hJ2.1.1 (hJ2.code hj) (by decide) (by omega) (fun z => by omega) (fun σ3 hc3 hf3 t3 u3 => ?_)
      have hf3 : am_fm (fun b => xs_ca (pa + 1) j ≤ b ∧ b < xs_ca (pa + 1) j + 3) σ2 σ3 := hf3.mono (fun b q => ⟨q.1, by omega⟩)
      simp (disch := omega) only [ax_const, ax_iload, ax_lload, ax_aload, ax_istore, ax_astore, ax_iinc, ax_i2, ax_i2n, ax_l2, ax_lsh, ax_ii, ax_il, ax_li, ax_pop, ax_dup, ax_dup2, ax_if, ax_cmp, ax_acmp, ax_goto, ax_getI, ax_getR, ax_putI, ax_putR, ax_gets, ax_getsT, ax_aldI, ax_aldR, ax_astI, ax_astR, ax_alen, ax_ret, ax_aret, ax_vret, am_st, am_kl, List.getElem?_cons_zero, List.getElem?_cons_succ, List.set_cons_zero, List.set_cons_succ, Value.category, true_and, and_true, if_true, if_false, reduceCtorEq, Bool.false_eq_true, false_implies, forall_const, Option.some.injEq, exists_eq_left', exists_eq_left, Sum.inl.injEq, Sum.inr.injEq, Prod.mk.injEq, nI_toInt, nI_clamp, am_ix_nI, am_ix_0, am_ix_1, am_ix_2, am_ix_3, am_n0, am_n1, am_n2, am_n3, am_n4, am_t0, am_t1, am_t2, am_t3, am_t4, am_tm1, am_nS, am_nP, am_nM, Int.ofNat_lt, Int.ofNat_le, Option.toList_some, Option.toList_none, List.cons_append, List.nil_append, List.append_nil]
      rw [show 80 - (i + 1) + 1 = 80 - i by omega]
      refine ih σ3 k ss _ (by omega) (hJ2.app hj hc3 hf3) ?_ (t3.trans t2') (u3.trans u2') (fun σ4 hJ4 hf4 => hQ σ4 hJ4 ((((xp_Qpa hf1).tr hf2).tr (xp_Qca hf3)).tr hf4))
      show ((f (xp_adv m)).2.2.1 ++ [(29, 0)]).length + 1 ≤ 2 * (f (xp_adv m)).1
      rw [List.length_append]
      show (f (xp_adv m)).2.2.1.length + 1 + 1 ≤ 2 * (f (xp_adv m)).1
      omega
    · rw [if_neg (fun z => q (beq_iff_eq.mp z))] at hQ
      simp (disch := omega) only [ax_const, ax_iload, ax_lload, ax_aload, ax_istore, ax_astore, ax_iinc, ax_i2, ax_i2n, ax_l2, ax_lsh, ax_ii, ax_il, ax_li, ax_pop, ax_dup, ax_dup2, ax_if, ax_cmp, ax_acmp, ax_goto, ax_getI, ax_getR, ax_putI, ax_putR, ax_gets, ax_getsT, ax_aldI, ax_aldR, ax_astI, ax_astR, ax_alen, ax_ret, ax_aret, ax_vret, am_st, am_kl, List.getElem?_cons_zero, List.getElem?_cons_succ, List.set_cons_zero, List.set_cons_succ, Value.category, true_and, and_true, if_true, if_false, reduceCtorEq, Bool.false_eq_true, false_implies, forall_const, Option.some.injEq, exists_eq_left', exists_eq_left, Sum.inl.injEq, Sum.inr.injEq, Prod.mk.injEq, nI_toInt, nI_clamp, am_ix_nI, am_ix_0, am_ix_1, am_ix_2, am_ix_3, am_n0, am_n1, am_n2, am_n3, am_n4, am_t0, am_t1, am_t2, am_t3, am_t4, am_tm1, am_nS, am_nP, am_nM, Int.ofNat_lt, Int.ofNat_le, Option.toList_some, Option.toList_none, List.cons_append, List.nil_append, List.append_nil]
      exact ⟨⟨h1, h2, hQ σ h .rf⟩, fun z => absurd trivial z⟩
theorem xp_Pc {g : am_G} {l : Launch} {pa j n df dd : Nat} {ts : List (Nat × Int32)} {f : xp_M → xp_M} (hj : j < 6) (hd : df < dd) (hf : xp_Con g l mX1_readF df ts pa j n f) (gf : xp_Gr ts.length 0 f) : xp_Con g l mX1_readP dd ts pa j n (xp_Pf ts f) := by
  intro σ k ss m Q h hl hQ
  have hm := h.2.2.2.2.2.2.2.2.2.2.2.2
  obtain ⟨y1, y2, y3⟩ := gf m hm
  refine am_C.go [some (.ref pa), some (.ref (xs_ca (pa + 1) j)), some (.int (nI (6 - n))), none] (by decide +kernel) (Nat.le_of_ble_eq_true rfl) rfl (kX1_readP_0 ?_)
  simp (disch := omega) only [ax_const, ax_iload, ax_lload, ax_aload, ax_istore, ax_astore, ax_iinc, ax_i2, ax_i2n, ax_l2, ax_lsh, ax_ii, ax_il, ax_li, ax_pop, ax_dup, ax_dup2, ax_if, ax_cmp, ax_acmp, ax_goto, ax_getI, ax_getR, ax_putI, ax_putR, ax_gets, ax_getsT, ax_aldI, ax_aldR, ax_astI, ax_astR, ax_alen, ax_ret, ax_aret, ax_vret, am_st, am_kl, List.getElem?_cons_zero, List.getElem?_cons_succ, List.set_cons_zero, List.set_cons_succ, Value.category, true_and, and_true, if_true, if_false, reduceCtorEq, Bool.false_eq_true, false_implies, forall_const, Option.some.injEq, exists_eq_left', exists_eq_left, Sum.inl.injEq, Sum.inr.injEq, Prod.mk.injEq, nI_toInt, nI_clamp, am_ix_nI, am_ix_0, am_ix_1, am_ix_2, am_ix_3, am_n0, am_n1, am_n2, am_n3, am_n4, am_t0, am_t1, am_t2, am_t3, am_t4, am_tm1, am_nS, am_nP, am_nM, Int.ofNat_lt, Int.ofNat_le]
  refine am_callK [.ref pa, .ref (xs_ca (pa + 1) j), .int (nI (6 - n))] [] (d' := df) (lim' := (am_tp σ, am_us σ)) rfl (by omega) (Nat.le_refl _) (Nat.le_refl _) rfl (Nat.le_of_ble_eq_true rfl) (am_recv h.2.1) ?_
  refine hf σ k ss m _ h hl (fun σ1 hJ1 hf1 t1 u1 => ?_)
  simp (disch := omega) only [ax_const, ax_iload, ax_lload, ax_aload, ax_istore, ax_astore, ax_iinc, ax_i2, ax_i2n, ax_l2, ax_lsh, ax_ii, ax_il, ax_li, ax_pop, ax_dup, ax_dup2, ax_if, ax_cmp, ax_acmp, ax_goto, ax_getI, ax_getR, ax_putI, ax_putR, ax_gets, ax_getsT, ax_aldI, ax_aldR, ax_astI, ax_astR, ax_alen, ax_ret, ax_aret, ax_vret, am_st, am_kl, List.getElem?_cons_zero, List.getElem?_cons_succ, List.set_cons_zero, List.set_cons_succ, Value.category, true_and, and_true, if_true, if_false, reduceCtorEq, Bool.false_eq_true, false_implies, forall_const, Option.some.injEq, exists_eq_left', exists_eq_left, Sum.inl.injEq, Sum.inr.injEq, Prod.mk.injEq, nI_toInt, nI_clamp, am_ix_nI, am_ix_0, am_ix_1, am_ix_2, am_ix_3, am_n0, am_n1, am_n2, am_n3, am_n4, am_t0, am_t1, am_t2, am_t3, am_t4, am_tm1, am_nS, am_nP, am_nM, Int.ofNat_lt, Int.ofNat_le, Option.toList_some, Option.toList_none, List.cons_append, List.nil_append, List.append_nil]
  exact xp_Ploop hj hd hf (gf.mono (by decide)) 80 σ1 k ss (f m) (Nat.le_refl _) hJ1 (by omega) t1 u1 (fun σ2 hJ2 hf2 => hQ σ2 hJ2 (hf1.tr hf2))
theorem xp_Kloop {g : am_G} {l : Launch} {pa j n df d tp us : Nat} {ts : List (Nat × Int32)} {f : xp_M → xp_M} {Q : Option Value → am_S → Prop} (hj : j < 6) (hd : df < d) (hf : xp_Con g l mX1_readN df ts pa j n f) (gf : xp_Gr ts.length 1 f) :
    ∀ (i : Nat) (σ : am_S) (k : Nat → Nat) (ss : Nat → List (Nat × Int32)) (m : xp_M), i ≤ 80 → xp_J g σ pa ts k ss j m → m.2.2.1.length + 1 ≤ 2 * m.1 → am_tp σ = tp → am_us σ = us → (∀ σ', xp_J g σ' pa ts k ss j (xp_loop ts (fun h => h == 12) f i m) → am_fm (xp_Q pa j) σ σ' → Q none σ') →
      am_W g l mX1_readK d (tp, us) Q 8 [some (.ref pa), some (.ref (xs_ca (pa + 1) j)), some (.int (nI (6 - n))), some (.int (nI (80 - i)))] [] σ := by
  have t80 : Int32.toInt 80 = 80 := rfl
  intro i
  induction i with
  | zero =>
    intro σ k ss m hi h hl h1 h2 hQ
    refine kX1_readK_8 ?_
    simp (disch := omega) only [ax_const, ax_iload, ax_lload, ax_aload, ax_istore, ax_astore, ax_iinc, ax_i2, ax_i2n, ax_l2, ax_lsh, ax_ii, ax_il, ax_li, ax_pop, ax_dup, ax_dup2, ax_if, ax_cmp, ax_acmp, ax_goto, ax_getI, ax_getR, ax_putI, ax_putR, ax_gets, ax_getsT, ax_aldI, ax_aldR, ax_astI, ax_astR, ax_alen, ax_ret, ax_aret, ax_vret, am_st, am_kl, List.getElem?_cons_zero, List.getElem?_cons_succ, List.set_cons_zero, List.set_cons_succ, Value.category, true_and, and_true, if_true, if_false, reduceCtorEq, Bool.false_eq_true, false_implies, forall_const, Option.some.injEq, exists_eq_left', exists_eq_left, Sum.inl.injEq, Sum.inr.injEq, Prod.mk.injEq, nI_toInt, nI_clamp, am_ix_nI, am_ix_0, am_ix_1, am_ix_2, am_ix_3, am_n0, am_n1, am_n2, am_n3, am_n4, am_t0, am_t1, am_t2, am_t3, am_t4, am_tm1, am_nS, am_nP, am_nM, Int.ofNat_lt, Int.ofNat_le, t80]
    exact ⟨fun z => by omega, fun _ => ⟨h1, h2, hQ σ h .rf⟩⟩
  | succ i ih =>
    intro σ k ss m hi h hl h1 h2 hQ
    rw [xp_loop] at hQ
    refine kX1_readK_8 ?_
    simp (disch := omega) only [ax_const, ax_iload, ax_lload, ax_aload, ax_istore, ax_astore, ax_iinc, ax_i2, ax_i2n, ax_l2, ax_lsh, ax_ii, ax_il, ax_li, ax_pop, ax_dup, ax_dup2, ax_if, ax_cmp, ax_acmp, ax_goto, ax_getI, ax_getR, ax_putI, ax_putR, ax_gets, ax_getsT, ax_aldI, ax_aldR, ax_astI, ax_astR, ax_alen, ax_ret, ax_aret, ax_vret, am_st, am_kl, List.getElem?_cons_zero, List.getElem?_cons_succ, List.set_cons_zero, List.set_cons_succ, Value.category, true_and, and_true, if_true, if_false, reduceCtorEq, Bool.false_eq_true, false_implies, forall_const, Option.some.injEq, exists_eq_left', exists_eq_left, Sum.inl.injEq, Sum.inr.injEq, Prod.mk.injEq, nI_toInt, nI_clamp, am_ix_nI, am_ix_0, am_ix_1, am_ix_2, am_ix_3, am_n0, am_n1, am_n2, am_n3, am_n4, am_t0, am_t1, am_t2, am_t3, am_t4, am_tm1, am_nS, am_nP, am_nM, Int.ofNat_lt, Int.ofNat_le, t80]
    refine ⟨fun _ => ?_, fun z => by omega⟩
    refine am_callK [.ref pa, .ref (am_tk g 12)] [] (d' := 0) (lim' := (am_tp σ, am_us σ)) rfl (by omega) (by rw [h1]; exact Nat.le_refl _) (by rw [h2]; exact Nat.le_refl _) rfl (by decide) (am_recv h.2.1) ?_
    refine c_ptake h (by decide) (fun q σ1 hJ1 hf1 t1 u1 => ?_) (fun q _ _ => ?_)
    · rw [if_pos (beq_iff_eq.mpr q), q] at hQ
      have o1 : ¬ (1 : Int32) = 0 := by decide
      have hlt := xp_hd_lt q (by decide)
      have t1' := t1.trans h1
      have u1' := u1.trans h2
      have hl1 : (xp_adv m).2.2.1.length + 2 ≤ 2 * (xp_adv m).1 := by show m.2.2.1.length + 2 ≤ 2 * (m.1 + 1); omega
      obtain ⟨y1, y2, y3⟩ := gf (xp_adv m) hlt
      have y3 : (f (xp_adv m)).2.2.1.length + 2 * (m.1 + 1) ≤ m.2.2.1.length + 2 * (f (xp_adv m)).1 + 1 := y3
      simp (disch := omega) only [ax_const, ax_iload, ax_lload, ax_aload, ax_istore, ax_astore, ax_iinc, ax_i2, ax_i2n, ax_l2, ax_lsh, ax_ii, ax_il, ax_li, ax_pop, ax_dup, ax_dup2, ax_if, ax_cmp, ax_acmp, ax_goto, ax_getI, ax_getR, ax_putI, ax_putR, ax_gets, ax_getsT, ax_aldI, ax_aldR, ax_astI, ax_astR, ax_alen, ax_ret, ax_aret, ax_vret, am_st, am_kl, List.getElem?_cons_zero, List.getElem?_cons_succ, List.set_cons_zero, List.set_cons_succ, Value.category, true_and, and_true, if_true, if_false, reduceCtorEq, Bool.false_eq_true, false_implies, forall_const, Option.some.injEq, exists_eq_left', exists_eq_left, Sum.inl.injEq, Sum.inr.injEq, Prod.mk.injEq, nI_toInt, nI_clamp, am_ix_nI, am_ix_0, am_ix_1, am_ix_2, am_ix_3, am_n0, am_n1, am_n2, am_n3, am_n4, am_t0, am_t1, am_t2, am_t3, am_t4, am_tm1, am_nS, am_nP, am_nM, Int.ofNat_lt, Int.ofNat_le, Option.toList_some, Option.toList_none, List.cons_append, List.nil_append, List.append_nil, o1]
      intro _
      refine am_callK [.ref pa, .ref (xs_ca (pa + 1) j), .int (nI (6 - n))] [] (d' := df) (lim' := (am_tp σ1, am_us σ1)) rfl (by omega) (by rw [t1']; exact Nat.le_refl _) (by rw [u1']; exact Nat.le_refl _) rfl (by decide) (am_recv hJ1.2.1) ?_
      refine hf σ1 k ss (xp_adv m) _ hJ1 hl1 (fun σ2 hJ2 hf2 t2 u2 => ?_)
      have t2' := t2.trans t1'
      have u2' := u2.trans u1'
      have hb2 := hJ2.hd
      simp (disch := omega) only [ax_const, ax_iload, ax_lload, ax_aload, ax_istore, ax_astore, ax_iinc, ax_i2, ax_i2n, ax_l2, ax_lsh, ax_ii, ax_il, ax_li, ax_pop, ax_dup, ax_dup2, ax_if, ax_cmp, ax_acmp, ax_goto, ax_getI, ax_getR, ax_putI, ax_putR, ax_gets, ax_getsT, ax_aldI, ax_aldR, ax_astI, ax_astR, ax_alen, ax_ret, ax_aret, ax_vret, am_st, am_kl, List.getElem?_cons_zero, List.getElem?_cons_succ, List.set_cons_zero, List.set_cons_succ, Value.category, true_and, and_true, if_true, if_false, reduceCtorEq, Bool.false_eq_true, false_implies, forall_const, Option.some.injEq, exists_eq_left', exists_eq_left, Sum.inl.injEq, Sum.inr.injEq, Prod.mk.injEq, nI_toInt, nI_clamp, am_ix_nI, am_ix_0, am_ix_1, am_ix_2, am_ix_3, am_n0, am_n1, am_n2, am_n3, am_n4, am_t0, am_t1, am_t2, am_t3, am_t4, am_tm1, am_nS, am_nP, am_nM, Int.ofNat_lt, Int.ofNat_le, Option.toList_some, Option.toList_none, List.cons_append, List.nil_append, List.append_nil]
      refine am_callK [.ref (xs_ca (pa + 1) j), .ref (am_tk g 12)] [] (d' := 0) (lim' := (am_tp σ2, am_us σ2)) rfl (by omega) (by rw [t2']; exact Nat.le_refl _) (by rw [u2']; exact Nat.le_refl _) rfl (by decide) (am_recv (hJ2.code hj).1) ?_
      refine c_kjoin (o := 0) hJ2.1.1 (hJ2.code hj) (by decide) (by omega) (fun z => by omega) (fun σ3 hc3 hf3 t3 u3 => ?_)
      have hf3 : am_fm (fun b => xs_ca (pa + 1) j ≤ b ∧ b < xs_ca (pa + 1) j + 3) σ2 σ3 := hf3.mono (fun b q => ⟨q.1, by omega⟩)
      simp (disch := omega) only [ax_const, ax_iload, ax_lload, ax_aload, ax_istore, ax_astore, ax_iinc, ax_i2, ax_i2n, ax_l2, ax_lsh, ax_ii, ax_il, ax_li, ax_pop, ax_dup, ax_dup2, ax_if, ax_cmp, ax_acmp, ax_goto, ax_getI, ax_getR, ax_putI, ax_putR, ax_gets, ax_getsT, ax_aldI, ax_aldR, ax_astI, ax_astR, ax_alen, ax_ret, ax_aret, ax_vret, am_st, am_kl, List.getElem?_cons_zero, List.getElem?_cons_succ, List.set_cons_zero, List.set_cons_succ, Value.category, true_and, and_true, if_true, if_false, reduceCtorEq, Bool.false_eq_true, false_implies, forall_const, Option.some.injEq, exists_eq_left', exists_eq_left, Sum.inl.injEq, Sum.inr.injEq, Prod.mk.injEq, nI_toInt, nI_clamp, am_ix_nI, am_ix_0, am_ix_1, am_ix_2, am_ix_3, am_n0, am_n1, am_n2, am_n3, am_n4, am_t0, am_t1, am_t2, am_t3, am_t4, am_tm1, am_nS, am_nP, am_nM, Int.ofNat_lt, Int.ofNat_le, Option.toList_some, Option.toList_none, List.cons_append, List.nil_append, List.append_nil]
      rw [show 80 - (i + 1) + 1 = 80 - i by omega]
      refine ih σ3 k ss _ (by omega) (hJ2.app hj hc3 hf3) ?_ (t3.trans t2') (u3.trans u2') (fun σ4 hJ4 hf4 => hQ σ4 hJ4 ((((xp_Qpa hf1).tr hf2).tr (xp_Qca hf3)).tr hf4))
      show ((f (xp_adv m)).2.2.1 ++ [(12, 0)]).length + 1 ≤ 2 * (f (xp_adv m)).1
      rw [List.length_append]
      show (f (xp_adv m)).2.2.1.length + 1 + 1 ≤ 2 * (f (xp_adv m)).1
      omega
    · rw [if_neg (fun z => q (beq_iff_eq.mp z))] at hQ
      simp (disch := omega) only [ax_const, ax_iload, ax_lload, ax_aload, ax_istore, ax_astore, ax_iinc, ax_i2, ax_i2n, ax_l2, ax_lsh, ax_ii, ax_il, ax_li, ax_pop, ax_dup, ax_dup2, ax_if, ax_cmp, ax_acmp, ax_goto, ax_getI, ax_getR, ax_putI, ax_putR, ax_gets, ax_getsT, ax_aldI, ax_aldR, ax_astI, ax_astR, ax_alen, ax_ret, ax_aret, ax_vret, am_st, am_kl, List.getElem?_cons_zero, List.getElem?_cons_succ, List.set_cons_zero, List.set_cons_succ, Value.category, true_and, and_true, if_true, if_false, reduceCtorEq, Bool.false_eq_true, false_implies, forall_const, Option.some.injEq, exists_eq_left', exists_eq_left, Sum.inl.injEq, Sum.inr.injEq, Prod.mk.injEq, nI_toInt, nI_clamp, am_ix_nI, am_ix_0, am_ix_1, am_ix_2, am_ix_3, am_n0, am_n1, am_n2, am_n3, am_n4, am_t0, am_t1, am_t2, am_t3, am_t4, am_tm1, am_nS, am_nP, am_nM, Int.ofNat_lt, Int.ofNat_le, Option.toList_some, Option.toList_none, List.cons_append, List.nil_append, List.append_nil]
      exact ⟨⟨h1, h2, hQ σ h .rf⟩, fun z => absurd trivial z⟩
theorem xp_Kc {g : am_G} {l : Launch} {pa j n df dd : Nat} {ts : List (Nat × Int32)} {f : xp_M → xp_M} (hj : j < 6) (hd : df < dd) (hf : xp_Con g l mX1_readN df ts pa j n f) (gf : xp_Gr ts.length 1 f) : xp_Con g l mX1_readK dd ts pa j n (xp_Kf ts f) := by
  intro σ k ss m Q h hl hQ
  have hm := h.2.2.2.2.2.2.2.2.2.2.2.2
  obtain ⟨y1, y2, y3⟩ := gf m hm
  refine am_C.go [some (.ref pa), some (.ref (xs_ca (pa + 1) j)), some (.int (nI (6 - n))), none] (by decide +kernel) (Nat.le_of_ble_eq_true rfl) rfl (kX1_readK_0 ?_)
  simp (disch := omega) only [ax_const, ax_iload, ax_lload, ax_aload, ax_istore, ax_astore, ax_iinc, ax_i2, ax_i2n, ax_l2, ax_lsh, ax_ii, ax_il, ax_li, ax_pop, ax_dup, ax_dup2, ax_if, ax_cmp, ax_acmp, ax_goto, ax_getI, ax_getR, ax_putI, ax_putR, ax_gets, ax_getsT, ax_aldI, ax_aldR, ax_astI, ax_astR, ax_alen, ax_ret, ax_aret, ax_vret, am_st, am_kl, List.getElem?_cons_zero, List.getElem?_cons_succ, List.set_cons_zero, List.set_cons_succ, Value.category, true_and, and_true, if_true, if_false, reduceCtorEq, Bool.false_eq_true, false_implies, forall_const, Option.some.injEq, exists_eq_left', exists_eq_left, Sum.inl.injEq, Sum.inr.injEq, Prod.mk.injEq, nI_toInt, nI_clamp, am_ix_nI, am_ix_0, am_ix_1, am_ix_2, am_ix_3, am_n0, am_n1, am_n2, am_n3, am_n4, am_t0, am_t1, am_t2, am_t3, am_t4, am_tm1, am_nS, am_nP, am_nM, Int.ofNat_lt, Int.ofNat_le]
  refine am_callK [.ref pa, .ref (xs_ca (pa + 1) j), .int (nI (6 - n))] [] (d' := df) (lim' := (am_tp σ, am_us σ)) rfl (by omega) (Nat.le_refl _) (Nat.le_refl _) rfl (Nat.le_of_ble_eq_true rfl) (am_recv h.2.1) ?_
  refine hf σ k ss m _ h hl (fun σ1 hJ1 hf1 t1 u1 => ?_)
  simp (disch := omega) only [ax_const, ax_iload, ax_lload, ax_aload, ax_istore, ax_astore, ax_iinc, ax_i2, ax_i2n, ax_l2, ax_lsh, ax_ii, ax_il, ax_li, ax_pop, ax_dup, ax_dup2, ax_if, ax_cmp, ax_acmp, ax_goto, ax_getI, ax_getR, ax_putI, ax_putR, ax_gets, ax_getsT, ax_aldI, ax_aldR, ax_astI, ax_astR, ax_alen, ax_ret, ax_aret, ax_vret, am_st, am_kl, List.getElem?_cons_zero, List.getElem?_cons_succ, List.set_cons_zero, List.set_cons_succ, Value.category, true_and, and_true, if_true, if_false, reduceCtorEq, Bool.false_eq_true, false_implies, forall_const, Option.some.injEq, exists_eq_left', exists_eq_left, Sum.inl.injEq, Sum.inr.injEq, Prod.mk.injEq, nI_toInt, nI_clamp, am_ix_nI, am_ix_0, am_ix_1, am_ix_2, am_ix_3, am_n0, am_n1, am_n2, am_n3, am_n4, am_t0, am_t1, am_t2, am_t3, am_t4, am_tm1, am_nS, am_nP, am_nM, Int.ofNat_lt, Int.ofNat_le, Option.toList_some, Option.toList_none, List.cons_append, List.nil_append, List.append_nil]
  exact xp_Kloop hj hd hf (gf.mono (by decide)) 80 σ1 k ss (f m) (Nat.le_refl _) hJ1 (by omega) t1 u1 (fun σ2 hJ2 hf2 => hQ σ2 hJ2 (hf1.tr hf2))
theorem xp_Cloop {g : am_G} {l : Launch} {pa j n df d tp us : Nat} {ts : List (Nat × Int32)} {f : xp_M → xp_M} {Q : Option Value → am_S → Prop} (hj : j < 6) (hd : df < d) (hf : xp_Con g l mX1_readK df ts pa j n f) (gf : xp_Gr ts.length 1 f) :
    ∀ (i : Nat) (σ : am_S) (k : Nat → Nat) (ss : Nat → List (Nat × Int32)) (m : xp_M), i ≤ 80 → xp_J g σ pa ts k ss j m → m.2.2.1.length + 1 ≤ 2 * m.1 → am_tp σ = tp → am_us σ = us → (∀ σ', xp_J g σ' pa ts k ss j (xp_loop ts (fun h => h == 13) f i m) → am_fm (xp_Q pa j) σ σ' → Q none σ') →
      am_W g l mX1_readC d (tp, us) Q 8 [some (.ref pa), some (.ref (xs_ca (pa + 1) j)), some (.int (nI (6 - n))), some (.int (nI (80 - i)))] [] σ := by
  have t80 : Int32.toInt 80 = 80 := rfl
  intro i
  induction i with
  | zero =>
    intro σ k ss m hi h hl h1 h2 hQ
    refine kX1_readC_8 ?_
    simp (disch := omega) only [ax_const, ax_iload, ax_lload, ax_aload, ax_istore, ax_astore, ax_iinc, ax_i2, ax_i2n, ax_l2, ax_lsh, ax_ii, ax_il, ax_li, ax_pop, ax_dup, ax_dup2, ax_if, ax_cmp, ax_acmp, ax_goto, ax_getI, ax_getR, ax_putI, ax_putR, ax_gets, ax_getsT, ax_aldI, ax_aldR, ax_astI, ax_astR, ax_alen, ax_ret, ax_aret, ax_vret, am_st, am_kl, List.getElem?_cons_zero, List.getElem?_cons_succ, List.set_cons_zero, List.set_cons_succ, Value.category, true_and, and_true, if_true, if_false, reduceCtorEq, Bool.false_eq_true, false_implies, forall_const, Option.some.injEq, exists_eq_left', exists_eq_left, Sum.inl.injEq, Sum.inr.injEq, Prod.mk.injEq, nI_toInt, nI_clamp, am_ix_nI, am_ix_0, am_ix_1, am_ix_2, am_ix_3, am_n0, am_n1, am_n2, am_n3, am_n4, am_t0, am_t1, am_t2, am_t3, am_t4, am_tm1, am_nS, am_nP, am_nM, Int.ofNat_lt, Int.ofNat_le, t80]
    exact ⟨fun z => by omega, fun _ => ⟨h1, h2, hQ σ h .rf⟩⟩
  | succ i ih =>
    intro σ k ss m hi h hl h1 h2 hQ
    rw [xp_loop] at hQ
    refine kX1_readC_8 ?_
    simp (disch := omega) only [ax_const, ax_iload, ax_lload, ax_aload, ax_istore, ax_astore, ax_iinc, ax_i2, ax_i2n, ax_l2, ax_lsh, ax_ii, ax_il, ax_li, ax_pop, ax_dup, ax_dup2, ax_if, ax_cmp, ax_acmp, ax_goto, ax_getI, ax_getR, ax_putI, ax_putR, ax_gets, ax_getsT, ax_aldI, ax_aldR, ax_astI, ax_astR, ax_alen, ax_ret, ax_aret, ax_vret, am_st, am_kl, List.getElem?_cons_zero, List.getElem?_cons_succ, List.set_cons_zero, List.set_cons_succ, Value.category, true_and, and_true, if_true, if_false, reduceCtorEq, Bool.false_eq_true, false_implies, forall_const, Option.some.injEq, exists_eq_left', exists_eq_left, Sum.inl.injEq, Sum.inr.injEq, Prod.mk.injEq, nI_toInt, nI_clamp, am_ix_nI, am_ix_0, am_ix_1, am_ix_2, am_ix_3, am_n0, am_n1, am_n2, am_n3, am_n4, am_t0, am_t1, am_t2, am_t3, am_t4, am_tm1, am_nS, am_nP, am_nM, Int.ofNat_lt, Int.ofNat_le, t80]
    refine ⟨fun _ => ?_, fun z => by omega⟩
    refine am_callK [.ref pa, .ref (am_tk g 13)] [] (d' := 0) (lim' := (am_tp σ, am_us σ)) rfl (by omega) (by rw [h1]; exact Nat.le_refl _) (by rw [h2]; exact Nat.le_refl _) rfl (by decide) (am_recv h.2.1) ?_
    refine c_ptake h (by decide) (fun q σ1 hJ1 hf1 t1 u1 => ?_) (fun q _ _ => ?_)
    · rw [if_pos (beq_iff_eq.mpr q), q] at hQ
      have o1 : ¬ (1 : Int32) = 0 := by decide
      have hlt := xp_hd_lt q (by decide)
      have t1' := t1.trans h1
      have u1' := u1.trans h2
      have hl1 : (xp_adv m).2.2.1.length + 2 ≤ 2 * (xp_adv m).1 := by show m.2.2.1.length + 2 ≤ 2 * (m.1 + 1); omega
      obtain ⟨y1, y2, y3⟩ := gf (xp_adv m) hlt
      have y3 : (f (xp_adv m)).2.2.1.length + 2 * (m.1 + 1) ≤ m.2.2.1.length + 2 * (f (xp_adv m)).1 + 1 := y3
      simp (disch := omega) only [ax_const, ax_iload, ax_lload, ax_aload, ax_istore, ax_astore, ax_iinc, ax_i2, ax_i2n, ax_l2, ax_lsh, ax_ii, ax_il, ax_li, ax_pop, ax_dup, ax_dup2, ax_if, ax_cmp, ax_acmp, ax_goto, ax_getI, ax_getR, ax_putI, ax_putR, ax_gets, ax_getsT, ax_aldI, ax_aldR, ax_astI, ax_astR, ax_alen, ax_ret, ax_aret, ax_vret, am_st, am_kl, List.getElem?_cons_zero, List.getElem?_cons_succ, List.set_cons_zero, List.set_cons_succ, Value.category, true_and, and_true, if_true, if_false, reduceCtorEq, Bool.false_eq_true, false_implies, forall_const, Option.some.injEq, exists_eq_left', exists_eq_left, Sum.inl.injEq, Sum.inr.injEq, Prod.mk.injEq, nI_toInt, nI_clamp, am_ix_nI, am_ix_0, am_ix_1, am_ix_2, am_ix_3, am_n0, am_n1, am_n2, am_n3, am_n4, am_t0, am_t1, am_t2, am_t3, am_t4, am_tm1, am_nS, am_nP, am_nM, Int.ofNat_lt, Int.ofNat_le, Option.toList_some, Option.toList_none, List.cons_append, List.nil_append, List.append_nil, o1]
      intro _
      refine am_callK [.ref pa, .ref (xs_ca (pa + 1) j), .int (nI (6 - n))] [] (d' := df) (lim' := (am_tp σ1, am_us σ1)) rfl (by omega) (by rw [t1']; exact Nat.le_refl _) (by rw [u1']; exact Nat.le_refl _) rfl (by decide) (am_recv hJ1.2.1) ?_
      refine hf σ1 k ss (xp_adv m) _ hJ1 hl1 (fun σ2 hJ2 hf2 t2 u2 => ?_)
      have t2' := t2.trans t1'
      have u2' := u2.trans u1'
      have hb2 := hJ2.hd
      simp (disch := omega) only [ax_const, ax_iload, ax_lload, ax_aload, ax_istore, ax_astore, ax_iinc, ax_i2, ax_i2n, ax_l2, ax_lsh, ax_ii, ax_il, ax_li, ax_pop, ax_dup, ax_dup2, ax_if, ax_cmp, ax_acmp, ax_goto, ax_getI, ax_getR, ax_putI, ax_putR, ax_gets, ax_getsT, ax_aldI, ax_aldR, ax_astI, ax_astR, ax_alen, ax_ret, ax_aret, ax_vret, am_st, am_kl, List.getElem?_cons_zero, List.getElem?_cons_succ, List.set_cons_zero, List.set_cons_succ, Value.category, true_and, and_true, if_true, if_false, reduceCtorEq, Bool.false_eq_true, false_implies, forall_const, Option.some.injEq, exists_eq_left', exists_eq_left, Sum.inl.injEq, Sum.inr.injEq, Prod.mk.injEq, nI_toInt, nI_clamp, am_ix_nI, am_ix_0, am_ix_1, am_ix_2, am_ix_3, am_n0, am_n1, am_n2, am_n3, am_n4, am_t0, am_t1, am_t2, am_t3, am_t4, am_tm1, am_nS, am_nP, am_nM, Int.ofNat_lt, Int.ofNat_le, Option.toList_some, Option.toList_none, List.cons_append, List.nil_append, List.append_nil]
      refine am_callK [.ref (xs_ca (pa + 1) j), .ref (am_tk g 13)] [] (d' := 0) (lim' := (am_tp σ2, am_us σ2)) rfl (by omega) (by rw [t2']; exact Nat.le_refl _) (by rw [u2']; exact Nat.le_refl _) rfl (by decide) (am_recv (hJ2.code hj).1) ?_
      refine c_kjoin (o := 0) hJ2.1.1 (hJ2.code hj) (by decide) (by omega) (fun z => by omega) (fun σ3 hc3 hf3 t3 u3 => ?_)
      have hf3 : am_fm (fun b => xs_ca (pa + 1) j ≤ b ∧ b < xs_ca (pa + 1) j + 3) σ2 σ3 := hf3.mono (fun b q => ⟨q.1, by omega⟩)
      simp (disch := omega) only [ax_const, ax_iload, ax_lload, ax_aload, ax_istore, ax_astore, ax_iinc, ax_i2, ax_i2n, ax_l2, ax_lsh, ax_ii, ax_il, ax_li, ax_pop, ax_dup, ax_dup2, ax_if, ax_cmp, ax_acmp, ax_goto, ax_getI, ax_getR, ax_putI, ax_putR, ax_gets, ax_getsT, ax_aldI, ax_aldR, ax_astI, ax_astR, ax_alen, ax_ret, ax_aret, ax_vret, am_st, am_kl, List.getElem?_cons_zero, List.getElem?_cons_succ, List.set_cons_zero, List.set_cons_succ, Value.category, true_and, and_true, if_true, if_false, reduceCtorEq, Bool.false_eq_true, false_implies, forall_const, Option.some.injEq, exists_eq_left', exists_eq_left, Sum.inl.injEq, Sum.inr.injEq, Prod.mk.injEq, nI_toInt, nI_clamp, am_ix_nI, am_ix_0, am_ix_1, am_ix_2, am_ix_3, am_n0, am_n1, am_n2, am_n3, am_n4, am_t0, am_t1, am_t2, am_t3, am_t4, am_tm1, am_nS, am_nP, am_nM, Int.ofNat_lt, Int.ofNat_le, Option.toList_some, Option.toList_none, List.cons_append, List.nil_append, List.append_nil]
      rw [show 80 - (i + 1) + 1 = 80 - i by omega]
      refine ih σ3 k ss _ (by omega) (hJ2.app hj hc3 hf3) ?_ (t3.trans t2') (u3.trans u2') (fun σ4 hJ4 hf4 => hQ σ4 hJ4 ((((xp_Qpa hf1).tr hf2).tr (xp_Qca hf3)).tr hf4))
      show ((f (xp_adv m)).2.2.1 ++ [(13, 0)]).length + 1 ≤ 2 * (f (xp_adv m)).1
      rw [List.length_append]
      show (f (xp_adv m)).2.2.1.length + 1 + 1 ≤ 2 * (f (xp_adv m)).1
      omega
    · rw [if_neg (fun z => q (beq_iff_eq.mp z))] at hQ
      simp (disch := omega) only [ax_const, ax_iload, ax_lload, ax_aload, ax_istore, ax_astore, ax_iinc, ax_i2, ax_i2n, ax_l2, ax_lsh, ax_ii, ax_il, ax_li, ax_pop, ax_dup, ax_dup2, ax_if, ax_cmp, ax_acmp, ax_goto, ax_getI, ax_getR, ax_putI, ax_putR, ax_gets, ax_getsT, ax_aldI, ax_aldR, ax_astI, ax_astR, ax_alen, ax_ret, ax_aret, ax_vret, am_st, am_kl, List.getElem?_cons_zero, List.getElem?_cons_succ, List.set_cons_zero, List.set_cons_succ, Value.category, true_and, and_true, if_true, if_false, reduceCtorEq, Bool.false_eq_true, false_implies, forall_const, Option.some.injEq, exists_eq_left', exists_eq_left, Sum.inl.injEq, Sum.inr.injEq, Prod.mk.injEq, nI_toInt, nI_clamp, am_ix_nI, am_ix_0, am_ix_1, am_ix_2, am_ix_3, am_n0, am_n1, am_n2, am_n3, am_n4, am_t0, am_t1, am_t2, am_t3, am_t4, am_tm1, am_nS, am_nP, am_nM, Int.ofNat_lt, Int.ofNat_le, Option.toList_some, Option.toList_none, List.cons_append, List.nil_append, List.append_nil]
      exact ⟨⟨h1, h2, hQ σ h .rf⟩, fun z => absurd trivial z⟩
theorem xp_Cc {g : am_G} {l : Launch} {pa j n df dd : Nat} {ts : List (Nat × Int32)} {f : xp_M → xp_M} (hj : j < 6) (hd : df < dd) (hf : xp_Con g l mX1_readK df ts pa j n f) (gf : xp_Gr ts.length 1 f) : xp_Con g l mX1_readC dd ts pa j n (fun m => xp_loop ts (fun h => h == 13) f 80 (f m)) := by
  intro σ k ss m Q h hl hQ
  have hm := h.2.2.2.2.2.2.2.2.2.2.2.2
  obtain ⟨y1, y2, y3⟩ := gf m hm
  refine am_C.go [some (.ref pa), some (.ref (xs_ca (pa + 1) j)), some (.int (nI (6 - n))), none] (by decide +kernel) (Nat.le_of_ble_eq_true rfl) rfl (kX1_readC_0 ?_)
  simp (disch := omega) only [ax_const, ax_iload, ax_lload, ax_aload, ax_istore, ax_astore, ax_iinc, ax_i2, ax_i2n, ax_l2, ax_lsh, ax_ii, ax_il, ax_li, ax_pop, ax_dup, ax_dup2, ax_if, ax_cmp, ax_acmp, ax_goto, ax_getI, ax_getR, ax_putI, ax_putR, ax_gets, ax_getsT, ax_aldI, ax_aldR, ax_astI, ax_astR, ax_alen, ax_ret, ax_aret, ax_vret, am_st, am_kl, List.getElem?_cons_zero, List.getElem?_cons_succ, List.set_cons_zero, List.set_cons_succ, Value.category, true_and, and_true, if_true, if_false, reduceCtorEq, Bool.false_eq_true, false_implies, forall_const, Option.some.injEq, exists_eq_left', exists_eq_left, Sum.inl.injEq, Sum.inr.injEq, Prod.mk.injEq, nI_toInt, nI_clamp, am_ix_nI, am_ix_0, am_ix_1, am_ix_2, am_ix_3, am_n0, am_n1, am_n2, am_n3, am_n4, am_t0, am_t1, am_t2, am_t3, am_t4, am_tm1, am_nS, am_nP, am_nM, Int.ofNat_lt, Int.ofNat_le]
  refine am_callK [.ref pa, .ref (xs_ca (pa + 1) j), .int (nI (6 - n))] [] (d' := df) (lim' := (am_tp σ, am_us σ)) rfl (by omega) (Nat.le_refl _) (Nat.le_refl _) rfl (Nat.le_of_ble_eq_true rfl) (am_recv h.2.1) ?_
  refine hf σ k ss m _ h hl (fun σ1 hJ1 hf1 t1 u1 => ?_)
  simp (disch := omega) only [ax_const, ax_iload, ax_lload, ax_aload, ax_istore, ax_astore, ax_iinc, ax_i2, ax_i2n, ax_l2, ax_lsh, ax_ii, ax_il, ax_li, ax_pop, ax_dup, ax_dup2, ax_if, ax_cmp, ax_acmp, ax_goto, ax_getI, ax_getR, ax_putI, ax_putR, ax_gets, ax_getsT, ax_aldI, ax_aldR, ax_astI, ax_astR, ax_alen, ax_ret, ax_aret, ax_vret, am_st, am_kl, List.getElem?_cons_zero, List.getElem?_cons_succ, List.set_cons_zero, List.set_cons_succ, Value.category, true_and, and_true, if_true, if_false, reduceCtorEq, Bool.false_eq_true, false_implies, forall_const, Option.some.injEq, exists_eq_left', exists_eq_left, Sum.inl.injEq, Sum.inr.injEq, Prod.mk.injEq, nI_toInt, nI_clamp, am_ix_nI, am_ix_0, am_ix_1, am_ix_2, am_ix_3, am_n0, am_n1, am_n2, am_n3, am_n4, am_t0, am_t1, am_t2, am_t3, am_t4, am_tm1, am_nS, am_nP, am_nM, Int.ofNat_lt, Int.ofNat_le, Option.toList_some, Option.toList_none, List.cons_append, List.nil_append, List.append_nil]
  exact xp_Cloop hj hd hf (gf.mono (by decide)) 80 σ1 k ss (f m) (Nat.le_refl _) hJ1 (by omega) t1 u1 (fun σ2 hJ2 hf2 => hQ σ2 hJ2 (hf1.tr hf2))
/-! the signs of E -/
theorem xp_Eloop {g : am_G} {l : Launch} {pa j n df d tp us : Nat} {ts : List (Nat × Int32)} {f : xp_M → xp_M} {Q : Option Value → am_S → Prop} (hj : j < 6) (hd : df < d) (hf : xp_Con g l mX1_readP df ts pa j n f) (gf : xp_Gr ts.length 1 f) :
    ∀ (i : Nat) (σ : am_S) (k : Nat → Nat) (ss : Nat → List (Nat × Int32)) (m : xp_M) (z : Option Value), i ≤ 80 → xp_J g σ pa ts k ss j m → m.2.2.1.length + 1 ≤ 2 * m.1 → am_tp σ = tp → am_us σ = us → (∀ σ', xp_J g σ' pa ts k ss j (xp_loop ts (fun h => h == 27 || h == 28) f i m) → am_fm (xp_Q pa j) σ σ' → Q none σ') →
      am_W g l mX1_readE d (tp, us) Q 8 [some (.ref pa), some (.ref (xs_ca (pa + 1) j)), some (.int (nI (6 - n))), some (.int (nI (80 - i))), z] [] σ := by
  have t80 : Int32.toInt 80 = 80 := rfl
  intro i
  induction i with
  | zero =>
    intro σ k ss m z hi h hl h1 h2 hQ
    refine kX1_readE_8 ?_
    simp (disch := omega) only [ax_const, ax_iload, ax_lload, ax_aload, ax_istore, ax_astore, ax_iinc, ax_i2, ax_i2n, ax_l2, ax_lsh, ax_ii, ax_il, ax_li, ax_pop, ax_dup, ax_dup2, ax_if, ax_cmp, ax_acmp, ax_goto, ax_getI, ax_getR, ax_putI, ax_putR, ax_gets, ax_getsT, ax_aldI, ax_aldR, ax_astI, ax_astR, ax_alen, ax_ret, ax_aret, ax_vret, am_st, am_kl, List.getElem?_cons_zero, List.getElem?_cons_succ, List.set_cons_zero, List.set_cons_succ, Value.category, true_and, and_true, if_true, if_false, reduceCtorEq, Bool.false_eq_true, false_implies, forall_const, Option.some.injEq, exists_eq_left', exists_eq_left, Sum.inl.injEq, Sum.inr.injEq, Prod.mk.injEq, nI_toInt, nI_clamp, am_ix_nI, am_ix_0, am_ix_1, am_ix_2, am_ix_3, am_n0, am_n1, am_n2, am_n3, am_n4, am_t0, am_t1, am_t2, am_t3, am_t4, am_tm1, am_nS, am_nP, am_nM, Int.ofNat_lt, Int.ofNat_le, t80]
    exact ⟨fun z => by omega, fun _ => ⟨h1, h2, hQ σ h .rf⟩⟩
  | succ i ih =>
    intro σ k ss m z hi h hl h1 h2 hQ
    have hb := h.hd
    rw [xp_loop] at hQ
    refine kX1_readE_8 ?_
    simp (disch := omega) only [ax_const, ax_iload, ax_lload, ax_aload, ax_istore, ax_astore, ax_iinc, ax_i2, ax_i2n, ax_l2, ax_lsh, ax_ii, ax_il, ax_li, ax_pop, ax_dup, ax_dup2, ax_if, ax_cmp, ax_acmp, ax_goto, ax_getI, ax_getR, ax_putI, ax_putR, ax_gets, ax_getsT, ax_aldI, ax_aldR, ax_astI, ax_astR, ax_alen, ax_ret, ax_aret, ax_vret, am_st, am_kl, List.getElem?_cons_zero, List.getElem?_cons_succ, List.set_cons_zero, List.set_cons_succ, Value.category, true_and, and_true, if_true, if_false, reduceCtorEq, Bool.false_eq_true, false_implies, forall_const, Option.some.injEq, exists_eq_left', exists_eq_left, Sum.inl.injEq, Sum.inr.injEq, Prod.mk.injEq, nI_toInt, nI_clamp, am_ix_nI, am_ix_0, am_ix_1, am_ix_2, am_ix_3, am_n0, am_n1, am_n2, am_n3, am_n4, am_t0, am_t1, am_t2, am_t3, am_t4, am_tm1, am_nS, am_nP, am_nM, Int.ofNat_lt, Int.ofNat_le, t80]
    refine ⟨fun _ => ?_, fun z => by omega⟩
    refine am_callK [.ref pa] [] (d' := 0) (lim' := (am_tp σ, am_us σ)) rfl (by omega) (by rw [h1]; exact Nat.le_refl _) (by rw [h2]; exact Nat.le_refl _) rfl (by decide) (am_recv h.2.1) ?_
    refine c_pnext h (fun _ _ => ?_)
    simp (disch := omega) only [ax_const, ax_iload, ax_lload, ax_aload, ax_istore, ax_astore, ax_iinc, ax_i2, ax_i2n, ax_l2, ax_lsh, ax_ii, ax_il, ax_li, ax_pop, ax_dup, ax_dup2, ax_if, ax_cmp, ax_acmp, ax_goto, ax_getI, ax_getR, ax_putI, ax_putR, ax_gets, ax_getsT, ax_aldI, ax_aldR, ax_astI, ax_astR, ax_alen, ax_ret, ax_aret, ax_vret, am_st, am_kl, List.getElem?_cons_zero, List.getElem?_cons_succ, List.set_cons_zero, List.set_cons_succ, Value.category, true_and, and_true, if_true, if_false, reduceCtorEq, Bool.false_eq_true, false_implies, forall_const, Option.some.injEq, exists_eq_left', exists_eq_left, Sum.inl.injEq, Sum.inr.injEq, Prod.mk.injEq, nI_toInt, nI_clamp, am_ix_nI, am_ix_0, am_ix_1, am_ix_2, am_ix_3, am_n0, am_n1, am_n2, am_n3, am_n4, am_t0, am_t1, am_t2, am_t3, am_t4, am_tm1, am_nS, am_nP, am_nM, Int.ofNat_lt, Int.ofNat_le, Option.toList_some, Option.toList_none, List.cons_append, List.nil_append, List.append_nil]
    refine am_callK [.ref (am_tk g (xp_hd ts m.1))] [] (d' := 0) (lim' := (am_tp σ, am_us σ)) rfl (by omega) (by rw [h1]; exact Nat.le_refl _) (by rw [h2]; exact Nat.le_refl _) rfl (by decide) am_stat ?_
    refine c_psign h.1.1 hb.1 (fun _ _ => ?_)
    by_cases q : (xp_hd ts m.1 == 27 || xp_hd ts m.1 == 28) = true
    · rw [if_pos q]
      rw [if_pos q] at hQ
      have o1 : ¬ (1 : Int32) = 0 := by decide
      have hlt := xp_hd_lt (ts := ts) (a := m.1) rfl (fun e => by rw [e] at q; exact absurd q (by decide))
      have hne : xp_hd ts m.1 ≠ 33 ∧ xp_hd ts m.1 ≠ 34 := ⟨fun e => by rw [e] at q; exact absurd q (by decide), fun e => by rw [e] at q; exact absurd q (by decide)⟩
      have hl1 : (xp_adv m).2.2.1.length + 2 ≤ 2 * (xp_adv m).1 := by show m.2.2.1.length + 2 ≤ 2 * (m.1 + 1); omega
      obtain ⟨y1, y2, y3⟩ := gf (xp_adv m) hlt
      have y3 : (f (xp_adv m)).2.2.1.length + 2 * (m.1 + 1) ≤ m.2.2.1.length + 2 * (f (xp_adv m)).1 + 1 := y3
      have hat := h.2.2.2.2.2.2.1
      have hJ1 := h.adv hlt
      simp (disch := omega) only [ax_const, ax_iload, ax_lload, ax_aload, ax_istore, ax_astore, ax_iinc, ax_i2, ax_i2n, ax_l2, ax_lsh, ax_ii, ax_il, ax_li, ax_pop, ax_dup, ax_dup2, ax_if, ax_cmp, ax_acmp, ax_goto, ax_getI, ax_getR, ax_putI, ax_putR, ax_gets, ax_getsT, ax_aldI, ax_aldR, ax_astI, ax_astR, ax_alen, ax_ret, ax_aret, ax_vret, am_st, am_kl, List.getElem?_cons_zero, List.getElem?_cons_succ, List.set_cons_zero, List.set_cons_succ, Value.category, true_and, and_true, if_true, if_false, reduceCtorEq, Bool.false_eq_true, false_implies, forall_const, Option.some.injEq, exists_eq_left', exists_eq_left, Sum.inl.injEq, Sum.inr.injEq, Prod.mk.injEq, nI_toInt, nI_clamp, am_ix_nI, am_ix_0, am_ix_1, am_ix_2, am_ix_3, am_n0, am_n1, am_n2, am_n3, am_n4, am_t0, am_t1, am_t2, am_t3, am_t4, am_tm1, am_nS, am_nP, am_nM, Int.ofNat_lt, Int.ofNat_le, Option.toList_some, Option.toList_none, List.cons_append, List.nil_append, List.append_nil, o1]
      intro _
      refine am_callK [.ref pa] [] (d' := 0) (lim' := (am_tp σ, am_us σ)) rfl (by omega) (by rw [h1]; exact Nat.le_refl _) (by rw [h2]; exact Nat.le_refl _) rfl (by decide) (am_recv h.2.1) ?_
      refine c_pnext h (fun _ _ => ?_)
      simp (disch := omega) only [ax_const, ax_iload, ax_lload, ax_aload, ax_istore, ax_astore, ax_iinc, ax_i2, ax_i2n, ax_l2, ax_lsh, ax_ii, ax_il, ax_li, ax_pop, ax_dup, ax_dup2, ax_if, ax_cmp, ax_acmp, ax_goto, ax_getI, ax_getR, ax_putI, ax_putR, ax_gets, ax_getsT, ax_aldI, ax_aldR, ax_astI, ax_astR, ax_alen, ax_ret, ax_aret, ax_vret, am_st, am_kl, List.getElem?_cons_zero, List.getElem?_cons_succ, List.set_cons_zero, List.set_cons_succ, Value.category, true_and, and_true, if_true, if_false, reduceCtorEq, Bool.false_eq_true, false_implies, forall_const, Option.some.injEq, exists_eq_left', exists_eq_left, Sum.inl.injEq, Sum.inr.injEq, Prod.mk.injEq, nI_toInt, nI_clamp, am_ix_nI, am_ix_0, am_ix_1, am_ix_2, am_ix_3, am_n0, am_n1, am_n2, am_n3, am_n4, am_t0, am_t1, am_t2, am_t3, am_t4, am_tm1, am_nS, am_nP, am_nM, Int.ofNat_lt, Int.ofNat_le, Option.toList_some, Option.toList_none, List.cons_append, List.nil_append, List.append_nil, am_sh_wi, am_sh_wr, am_r_wi, am_i_wr, am_tp_wi, am_tp_wr, am_us_wi, am_us_wr, am_i_wi, am_r_wr, h.2.1, hat]
      refine am_callK [.ref pa, .ref (xs_ca (pa + 1) j), .int (nI (6 - n))] [] (d' := df) (lim' := (am_tp σ, am_us σ)) rfl (by omega) (by rw [h1]; exact Nat.le_refl _) (by rw [h2]; exact Nat.le_refl _) rfl (by decide) (am_recv hJ1.2.1) ?_
      refine hf _ k ss (xp_adv m) _ hJ1 hl1 (fun σ2 hJ2 hf2 t2 u2 => ?_)
      have t2' : am_tp σ2 = tp := t2.trans h1
      have u2' : am_us σ2 = us := u2.trans h2
      have hb2 := hJ2.hd
      simp (disch := omega) only [ax_const, ax_iload, ax_lload, ax_aload, ax_istore, ax_astore, ax_iinc, ax_i2, ax_i2n, ax_l2, ax_lsh, ax_ii, ax_il, ax_li, ax_pop, ax_dup, ax_dup2, ax_if, ax_cmp, ax_acmp, ax_goto, ax_getI, ax_getR, ax_putI, ax_putR, ax_gets, ax_getsT, ax_aldI, ax_aldR, ax_astI, ax_astR, ax_alen, ax_ret, ax_aret, ax_vret, am_st, am_kl, List.getElem?_cons_zero, List.getElem?_cons_succ, List.set_cons_zero, List.set_cons_succ, Value.category, true_and, and_true, if_true, if_false, reduceCtorEq, Bool.false_eq_true, false_implies, forall_const, Option.some.injEq, exists_eq_left', exists_eq_left, Sum.inl.injEq, Sum.inr.injEq, Prod.mk.injEq, nI_toInt, nI_clamp, am_ix_nI, am_ix_0, am_ix_1, am_ix_2, am_ix_3, am_n0, am_n1, am_n2, am_n3, am_n4, am_t0, am_t1, am_t2, am_t3, am_t4, am_tm1, am_nS, am_nP, am_nM, Int.ofNat_lt, Int.ofNat_le, Option.toList_some, Option.toList_none, List.cons_append, List.nil_append, List.append_nil]
      refine am_callK [.ref (xs_ca (pa + 1) j), .ref (am_tk g (xp_hd ts m.1))] [] (d' := 0) (lim' := (am_tp σ2, am_us σ2)) rfl (by omega) (by rw [t2']; exact Nat.le_refl _) (by rw [u2']; exact Nat.le_refl _) rfl (by decide) (am_recv (hJ2.code hj).1) ?_
      refine c_kjoin (o := 0) hJ2.1.1 (hJ2.code hj) hb.1 (by omega) (fun z => by omega) (fun σ3 hc3 hf3 t3 u3 => ?_)
      have hf3 : am_fm (fun b => xs_ca (pa + 1) j ≤ b ∧ b < xs_ca (pa + 1) j + 3) σ2 σ3 := hf3.mono (fun b q => ⟨q.1, by omega⟩)
      simp (disch := omega) only [ax_const, ax_iload, ax_lload, ax_aload, ax_istore, ax_astore, ax_iinc, ax_i2, ax_i2n, ax_l2, ax_lsh, ax_ii, ax_il, ax_li, ax_pop, ax_dup, ax_dup2, ax_if, ax_cmp, ax_acmp, ax_goto, ax_getI, ax_getR, ax_putI, ax_putR, ax_gets, ax_getsT, ax_aldI, ax_aldR, ax_astI, ax_astR, ax_alen, ax_ret, ax_aret, ax_vret, am_st, am_kl, List.getElem?_cons_zero, List.getElem?_cons_succ, List.set_cons_zero, List.set_cons_succ, Value.category, true_and, and_true, if_true, if_false, reduceCtorEq, Bool.false_eq_true, false_implies, forall_const, Option.some.injEq, exists_eq_left', exists_eq_left, Sum.inl.injEq, Sum.inr.injEq, Prod.mk.injEq, nI_toInt, nI_clamp, am_ix_nI, am_ix_0, am_ix_1, am_ix_2, am_ix_3, am_n0, am_n1, am_n2, am_n3, am_n4, am_t0, am_t1, am_t2, am_t3, am_t4, am_tm1, am_nS, am_nP, am_nM, Int.ofNat_lt, Int.ofNat_le, Option.toList_some, Option.toList_none, List.cons_append, List.nil_append, List.append_nil]
      rw [show 80 - (i + 1) + 1 = 80 - i by omega]
      have hf1 : am_fm (fun b => b = pa) σ (am_wi σ pa 2 (nI (m.1 + 1))) := am_fm.rf.wi rfl
      refine ih σ3 k ss _ _ (by omega) (hJ2.app hj hc3 hf3) ?_ (t3.trans t2') (u3.trans u2') (fun σ4 hJ4 hf4 => hQ σ4 hJ4 ((((xp_Qpa hf1).tr hf2).tr (xp_Qca hf3)).tr hf4))
      show ((f (xp_adv m)).2.2.1 ++ [(xp_hd ts m.1, 0)]).length + 1 ≤ 2 * (f (xp_adv m)).1
      rw [List.length_append]
      show (f (xp_adv m)).2.2.1.length + 1 + 1 ≤ 2 * (f (xp_adv m)).1
      omega
    · rw [if_neg q]
      rw [if_neg q] at hQ
      simp (disch := omega) only [ax_const, ax_iload, ax_lload, ax_aload, ax_istore, ax_astore, ax_iinc, ax_i2, ax_i2n, ax_l2, ax_lsh, ax_ii, ax_il, ax_li, ax_pop, ax_dup, ax_dup2, ax_if, ax_cmp, ax_acmp, ax_goto, ax_getI, ax_getR, ax_putI, ax_putR, ax_gets, ax_getsT, ax_aldI, ax_aldR, ax_astI, ax_astR, ax_alen, ax_ret, ax_aret, ax_vret, am_st, am_kl, List.getElem?_cons_zero, List.getElem?_cons_succ, List.set_cons_zero, List.set_cons_succ, Value.category, true_and, and_true, if_true, if_false, reduceCtorEq, Bool.false_eq_true, false_implies, forall_const, Option.some.injEq, exists_eq_left', exists_eq_left, Sum.inl.injEq, Sum.inr.injEq, Prod.mk.injEq, nI_toInt, nI_clamp, am_ix_nI, am_ix_0, am_ix_1, am_ix_2, am_ix_3, am_n0, am_n1, am_n2, am_n3, am_n4, am_t0, am_t1, am_t2, am_t3, am_t4, am_tm1, am_nS, am_nP, am_nM, Int.ofNat_lt, Int.ofNat_le, Option.toList_some, Option.toList_none, List.cons_append, List.nil_append, List.append_nil]
      exact ⟨⟨h1, h2, hQ σ h .rf⟩, fun z => absurd trivial z⟩
theorem xp_Ec {g : am_G} {l : Launch} {pa j n df dd : Nat} {ts : List (Nat × Int32)} {f : xp_M → xp_M} (hj : j < 6) (hd : df < dd) (hf : xp_Con g l mX1_readP df ts pa j n f) (gf : xp_Gr ts.length 0 f) : xp_Con g l mX1_readE dd ts pa j n (fun m => xp_loop ts (fun h => h == 27 || h == 28) f 80 (f m)) := by
  intro σ k ss m Q h hl hQ
  have hm := h.2.2.2.2.2.2.2.2.2.2.2.2
  obtain ⟨y1, y2, y3⟩ := gf m hm
  refine am_C.go [some (.ref pa), some (.ref (xs_ca (pa + 1) j)), some (.int (nI (6 - n))), none, none] (by decide +kernel) (Nat.le_of_ble_eq_true rfl) rfl (kX1_readE_0 ?_)
  simp (disch := omega) only [ax_const, ax_iload, ax_lload, ax_aload, ax_istore, ax_astore, ax_iinc, ax_i2, ax_i2n, ax_l2, ax_lsh, ax_ii, ax_il, ax_li, ax_pop, ax_dup, ax_dup2, ax_if, ax_cmp, ax_acmp, ax_goto, ax_getI, ax_getR, ax_putI, ax_putR, ax_gets, ax_getsT, ax_aldI, ax_aldR, ax_astI, ax_astR, ax_alen, ax_ret, ax_aret, ax_vret, am_st, am_kl, List.getElem?_cons_zero, List.getElem?_cons_succ, List.set_cons_zero, List.set_cons_succ, Value.category, true_and, and_true, if_true, if_false, reduceCtorEq, Bool.false_eq_true, false_implies, forall_const, Option.some.injEq, exists_eq_left', exists_eq_left, Sum.inl.injEq, Sum.inr.injEq, Prod.mk.injEq, nI_toInt, nI_clamp, am_ix_nI, am_ix_0, am_ix_1, am_ix_2, am_ix_3, am_n0, am_n1, am_n2, am_n3, am_n4, am_t0, am_t1, am_t2, am_t3, am_t4, am_tm1, am_nS, am_nP, am_nM, Int.ofNat_lt, Int.ofNat_le]
  refine am_callK [.ref pa, .ref (xs_ca (pa + 1) j), .int (nI (6 - n))] [] (d' := df) (lim' := (am_tp σ, am_us σ)) rfl (by omega) (Nat.le_refl _) (Nat.le_refl _) rfl (Nat.le_of_ble_eq_true rfl) (am_recv h.2.1) ?_
  refine hf σ k ss m _ h hl (fun σ1 hJ1 hf1 t1 u1 => ?_)
  simp (disch := omega) only [ax_const, ax_iload, ax_lload, ax_aload, ax_istore, ax_astore, ax_iinc, ax_i2, ax_i2n, ax_l2, ax_lsh, ax_ii, ax_il, ax_li, ax_pop, ax_dup, ax_dup2, ax_if, ax_cmp, ax_acmp, ax_goto, ax_getI, ax_getR, ax_putI, ax_putR, ax_gets, ax_getsT, ax_aldI, ax_aldR, ax_astI, ax_astR, ax_alen, ax_ret, ax_aret, ax_vret, am_st, am_kl, List.getElem?_cons_zero, List.getElem?_cons_succ, List.set_cons_zero, List.set_cons_succ, Value.category, true_and, and_true, if_true, if_false, reduceCtorEq, Bool.false_eq_true, false_implies, forall_const, Option.some.injEq, exists_eq_left', exists_eq_left, Sum.inl.injEq, Sum.inr.injEq, Prod.mk.injEq, nI_toInt, nI_clamp, am_ix_nI, am_ix_0, am_ix_1, am_ix_2, am_ix_3, am_n0, am_n1, am_n2, am_n3, am_n4, am_t0, am_t1, am_t2, am_t3, am_t4, am_tm1, am_nS, am_nP, am_nM, Int.ofNat_lt, Int.ofNat_le, Option.toList_some, Option.toList_none, List.cons_append, List.nil_append, List.append_nil]
  exact xp_Eloop hj hd hf (gf.mono (by decide)) 80 σ1 k ss (f m) none (Nat.le_refl _) hJ1 (by omega) t1 u1 (fun σ2 hJ2 hf2 => hQ σ2 hJ2 (hf1.tr hf2))
/-- readF, readE at every depth -/
theorem xp_Fall {g : am_G} {l : Launch} {pa j : Nat} {ts : List (Nat × Int32)} (hj : j < 6) : ∀ n, n ≤ 6 → xp_Con g l mX1_readF (3 + 3 * n) ts pa j n (xp_F ts n) ∧ xp_Con g l mX1_readE (5 + 3 * n) ts pa j n (xp_E ts n)
  | 0, hn => by
    have hF : xp_Con g l mX1_readF (3 + 3 * 0) ts pa j 0 (xp_F ts 0) := xp_Fc hj hn (fun z => by omega) (fun z => by omega) (fun _ => ⟨rfl, rfl⟩) .bad .bad
    exact ⟨hF, xp_Ec hj (by omega) (xp_Pc (dd := 4) hj (by omega) hF (.F ts 0)) (xp_Gr.F ts 0).Pf⟩
  | n + 1, hn => by
    obtain ⟨a1, a2⟩ := xp_Fall hj n (by omega)
    have hF : xp_Con g l mX1_readF (3 + 3 * (n + 1)) ts pa j (n + 1) (xp_F ts (n + 1)) := xp_Fc hj hn (fun _ => a2) (fun _ => a1) (fun z => by omega) (.E ts n) (.F ts n)
    exact ⟨hF, xp_Ec hj (by omega) (xp_Pc (dd := 4 + 3 * (n + 1)) hj (by omega) hF (.F ts (n + 1))) (xp_Gr.F ts (n + 1)).Pf⟩
