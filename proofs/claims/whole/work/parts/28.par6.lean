/-! ===== Parser: the statement ===== -/
theorem xk_C.kind {g : am_G} {σ : am_S} {c kd kd' : Nat} {ss : List (Nat × Int32)} (h : xk_C g σ c kd ss) (hk : kd' ≤ 3) : xk_C g (am_wi σ c 0 (nI kd')) c kd' ss := by
  obtain ⟨h1, h2, h3, h4, h5, h6, h7, h8, h9, h10, h11, h12⟩ := h
  refine ⟨h1, h2, h3, h4, h5, h6, h7, by rw [am_i_wi, if_pos ⟨rfl, rfl⟩], by rw [am_i_wi, if_neg (by omega)]; exact h9, h10, hk, fun i t o hi => ?_⟩
  rw [am_i_wi, if_neg (by omega)]
  exact h12 i t o hi
/-- code j's kind is set -/
theorem xp_J.kind {g : am_G} {σ : am_S} {pa j i kd : Nat} {ts : List (Nat × Int32)} {k : Nat → Nat} {ss : Nat → List (Nat × Int32)} {m : xp_M} (h : xp_J g σ pa ts k ss i m) (hj : j < 6) (hk : kd ≤ 3) : xp_J g (am_wi σ (xs_ca (pa + 1) j) 0 (nI kd)) pa ts (fun q => if q = j then kd else k q) ss i m := by
  have hca := xs_ca_in (pa + 1) j hj
  have hf : am_fm (fun b => b = xs_ca (pa + 1) j) σ (am_wi σ (xs_ca (pa + 1) j) 0 (nI kd)) := am_fm.rf.wi rfl
  obtain ⟨g1, g2, g3, g4, g5, g6, g7, g8, g9, g10, g11, g12, g13⟩ := h
  unfold xp_J
  rw [hf.1, (hf.2.2.2 pa (by omega)).1, (hf.2.2.2 pa (by omega)).2, (hf.2.2.2 (pa + 1 + 14) (by omega)).1]
  refine ⟨g1.fm hf (fun b x => by omega), g2, g3, g4, g5.fm hf (by omega), g6.fm hf (by omega) (by omega), g7, g8, g9.fm hf (by omega) (by omega) (by omega), ?_, g11, g12, g13⟩
  have := g10.put hj ((g10 j hj).kind hk) (hf.mono (fun b x => by omega))
  intro q hq
  have h1 := this q hq
  dsimp only at h1 ⊢
  by_cases e : q = j
  · subst e
    rw [if_pos rfl] at h1 ⊢
    rw [if_pos rfl] at h1
    exact h1
  · rw [if_neg e] at h1 ⊢
    rw [if_neg e] at h1
    exact h1
theorem xp_J.extk {g : am_G} {σ : am_S} {pa j i : Nat} {ts : List (Nat × Int32)} {k k' : Nat → Nat} {ss ss' : Nat → List (Nat × Int32)} {m m' : xp_M} (h : xp_J g σ pa ts k ss i m) (hk : ∀ q, q < 6 → k q = k' q) (hs : ∀ q, q < 6 → (if q = i then m.2.2.1 else ss q) = if q = j then m'.2.2.1 else ss' q) (h1 : m'.1 = m.1) (h2 : m'.2.1 = m.2.1) (h3 : m'.2.2.2 = m.2.2.2) : xp_J g σ pa ts k' ss' j m' := by
  obtain ⟨g1, g2, g3, g4, g5, g6, g7, g8, g9, g10, g11, g12, g13⟩ := h
  unfold xp_J
  rw [h1, h2, h3]
  refine ⟨g1, g2, g3, g4, g5, g6, g7, g8, g9, fun q hq => ?_, g11, g12, g13⟩
  have := g10 q hq
  dsimp only at this ⊢
  rw [← hs q hq, ← hk q hq]
  exact this
def xp_Xm (ts : List (Nat × Int32)) (m : xp_M) : Nat × xp_M :=
  if xp_hd ts m.1 = 10 then (2, xp_adv m) else if xp_hd ts m.1 = 11 then (3, xp_need ts 24 (xp_E ts 6 (xp_need ts 23 (xp_adv m)))) else (1, xp_E ts 6 m)
theorem c_pX {g : am_G} {l : Launch} {σ : am_S} {pa j : Nat} {ts : List (Nat × Int32)} {k : Nat → Nat} {ss : Nat → List (Nat × Int32)} {m : xp_M} {Q : Option Value → am_S → Prop} (hj : j < 6) (h : xp_J g σ pa ts k ss j m) (hl : m.2.2.1.length + 2 ≤ 2 * m.1)
    (hQ : ∀ σ', xp_J g σ' pa ts (fun q => if q = j then (xp_Xm ts m).1 else k q) ss j (xp_Xm ts m).2 → am_fm (xp_Q pa j) σ σ' → Q none σ') : am_C g l mX1_readX 24 (am_tp σ, am_us σ) [.ref pa, .ref (xs_ca (pa + 1) j)] σ Q := by
  have hm := h.2.2.2.2.2.2.2.2.2.2.2.2
  have o1 : ¬ (1 : Int32) = 0 := by decide
  have hcs := (h.code hj).1
  have hE := (xp_Fall (g := g) (l := l) (pa := pa) (ts := ts) hj 6 (by decide)).2
  have e6 : nI (6 - 6) = 0 := rfl
  have fk : ∀ (σ1 : am_S) v, am_fm (xp_Q pa j) σ1 (am_wi σ1 (xs_ca (pa + 1) j) 0 v) := fun σ1 v => am_fm.rf.wi (Or.inr (Or.inr ⟨by omega, by omega⟩))
  unfold xp_Xm at hQ
  refine am_C.go [some (.ref pa), some (.ref (xs_ca (pa + 1) j))] (by decide +kernel) (Nat.le_of_ble_eq_true rfl) rfl (kX1_readX_0 ?_)
  simp (disch := omega) only [ax_const, ax_iload, ax_lload, ax_aload, ax_istore, ax_astore, ax_iinc, ax_i2, ax_i2n, ax_l2, ax_lsh, ax_ii, ax_il, ax_li, ax_pop, ax_dup, ax_dup2, ax_if, ax_cmp, ax_acmp, ax_goto, ax_getI, ax_getR, ax_putI, ax_putR, ax_gets, ax_getsT, ax_aldI, ax_aldR, ax_astI, ax_astR, ax_alen, ax_ret, ax_aret, ax_vret, am_st, am_kl, List.getElem?_cons_zero, List.getElem?_cons_succ, List.set_cons_zero, List.set_cons_succ, Value.category, true_and, and_true, if_true, if_false, reduceCtorEq, Bool.false_eq_true, false_implies, forall_const, Option.some.injEq, exists_eq_left', exists_eq_left, Sum.inl.injEq, Sum.inr.injEq, Prod.mk.injEq, nI_toInt, nI_clamp, am_ix_nI, am_ix_0, am_ix_1, am_ix_2, am_ix_3, am_n0, am_n1, am_n2, am_n3, am_n4, am_t0, am_t1, am_t2, am_t3, am_t4, am_tm1, am_nS, am_nP, am_nM, Int.ofNat_lt, Int.ofNat_le]
  refine am_callK [.ref pa, .ref (am_tk g 10)] [] (d' := 0) (lim' := (am_tp σ, am_us σ)) rfl (by omega) (Nat.le_refl _) (Nat.le_refl _) rfl (Nat.le_of_ble_eq_true rfl) (am_recv h.2.1) ?_
  refine c_ptake h (by decide) (fun q σ1 h1 hf1 t1 u1 => ?_) (fun q _ _ => ?_)
  · rw [if_pos q] at hQ
    have hcs1 := (h1.code hj).1
    simp (disch := omega) only [ax_const, ax_iload, ax_lload, ax_aload, ax_istore, ax_astore, ax_iinc, ax_i2, ax_i2n, ax_l2, ax_lsh, ax_ii, ax_il, ax_li, ax_pop, ax_dup, ax_dup2, ax_if, ax_cmp, ax_acmp, ax_goto, ax_getI, ax_getR, ax_putI, ax_putR, ax_gets, ax_getsT, ax_aldI, ax_aldR, ax_astI, ax_astR, ax_alen, ax_ret, ax_aret, ax_vret, am_st, am_kl, List.getElem?_cons_zero, List.getElem?_cons_succ, List.set_cons_zero, List.set_cons_succ, Value.category, true_and, and_true, if_true, if_false, reduceCtorEq, Bool.false_eq_true, false_implies, forall_const, Option.some.injEq, exists_eq_left', exists_eq_left, Sum.inl.injEq, Sum.inr.injEq, Prod.mk.injEq, nI_toInt, nI_clamp, am_ix_nI, am_ix_0, am_ix_1, am_ix_2, am_ix_3, am_n0, am_n1, am_n2, am_n3, am_n4, am_t0, am_t1, am_t2, am_t3, am_t4, am_tm1, am_nS, am_nP, am_nM, Int.ofNat_lt, Int.ofNat_le, Option.toList_some, Option.toList_none, List.cons_append, List.nil_append, List.append_nil, am_sh_wi, am_sh_wr, am_r_wi, am_i_wr, am_tp_wi, am_tp_wr, am_us_wi, am_us_wr, am_i_wi, am_r_wr, o1, hcs1]
    exact fun _ => ⟨t1, u1, hQ _ (h1.kind (kd := 2) hj (by decide)) ((xp_Qpa hf1).tr (fk σ1 _))⟩
  · rw [if_neg q] at hQ
    simp (disch := omega) only [ax_const, ax_iload, ax_lload, ax_aload, ax_istore, ax_astore, ax_iinc, ax_i2, ax_i2n, ax_l2, ax_lsh, ax_ii, ax_il, ax_li, ax_pop, ax_dup, ax_dup2, ax_if, ax_cmp, ax_acmp, ax_goto, ax_getI, ax_getR, ax_putI, ax_putR, ax_gets, ax_getsT, ax_aldI, ax_aldR, ax_astI, ax_astR, ax_alen, ax_ret, ax_aret, ax_vret, am_st, am_kl, List.getElem?_cons_zero, List.getElem?_cons_succ, List.set_cons_zero, List.set_cons_succ, Value.category, true_and, and_true, if_true, if_false, reduceCtorEq, Bool.false_eq_true, false_implies, forall_const, Option.some.injEq, exists_eq_left', exists_eq_left, Sum.inl.injEq, Sum.inr.injEq, Prod.mk.injEq, nI_toInt, nI_clamp, am_ix_nI, am_ix_0, am_ix_1, am_ix_2, am_ix_3, am_n0, am_n1, am_n2, am_n3, am_n4, am_t0, am_t1, am_t2, am_t3, am_t4, am_tm1, am_nS, am_nP, am_nM, Int.ofNat_lt, Int.ofNat_le, Option.toList_some, Option.toList_none, List.cons_append, List.nil_append, List.append_nil]
    refine ⟨?_, fun z => absurd trivial z⟩
    refine am_callK [.ref pa, .ref (am_tk g 11)] [] (d' := 0) (lim' := (am_tp σ, am_us σ)) rfl (by omega) (Nat.le_refl _) (Nat.le_refl _) rfl (Nat.le_of_ble_eq_true rfl) (am_recv h.2.1) ?_
    refine c_ptake h (by decide) (fun q2 σ1 h1 hf1 t1 u1 => ?_) (fun q2 _ _ => ?_)
    · rw [if_pos q2] at hQ
      have hlt := xp_hd_lt q2 (by decide)
      have hcs1 := (h1.code hj).1
      have h2 := h1.kind (kd := 3) hj (by decide)
      have hg1 : xp_G ts.length 0 (xp_adv m) (xp_need ts 23 (xp_adv m)) := (xp_G.rf hlt).need (by decide)
      obtain ⟨y1, y2, y3⟩ := hg1
      have y1 : m.1 + 1 ≤ (xp_need ts 23 (xp_adv m)).1 := y1
      have y3 : (xp_need ts 23 (xp_adv m)).2.2.1.length + 2 * (m.1 + 1) ≤ m.2.2.1.length + 2 * (xp_need ts 23 (xp_adv m)).1 + 0 := y3
      simp (disch := omega) only [ax_const, ax_iload, ax_lload, ax_aload, ax_istore, ax_astore, ax_iinc, ax_i2, ax_i2n, ax_l2, ax_lsh, ax_ii, ax_il, ax_li, ax_pop, ax_dup, ax_dup2, ax_if, ax_cmp, ax_acmp, ax_goto, ax_getI, ax_getR, ax_putI, ax_putR, ax_gets, ax_getsT, ax_aldI, ax_aldR, ax_astI, ax_astR, ax_alen, ax_ret, ax_aret, ax_vret, am_st, am_kl, List.getElem?_cons_zero, List.getElem?_cons_succ, List.set_cons_zero, List.set_cons_succ, Value.category, true_and, and_true, if_true, if_false, reduceCtorEq, Bool.false_eq_true, false_implies, forall_const, Option.some.injEq, exists_eq_left', exists_eq_left, Sum.inl.injEq, Sum.inr.injEq, Prod.mk.injEq, nI_toInt, nI_clamp, am_ix_nI, am_ix_0, am_ix_1, am_ix_2, am_ix_3, am_n0, am_n1, am_n2, am_n3, am_n4, am_t0, am_t1, am_t2, am_t3, am_t4, am_tm1, am_nS, am_nP, am_nM, Int.ofNat_lt, Int.ofNat_le, Option.toList_some, Option.toList_none, List.cons_append, List.nil_append, List.append_nil, am_sh_wi, am_sh_wr, am_r_wi, am_i_wr, am_tp_wi, am_tp_wr, am_us_wi, am_us_wr, am_i_wi, am_r_wr, o1, hcs1]
      intro _
      refine am_callK [.ref pa, .ref (am_tk g 23)] [] (d' := 0) (lim' := (am_tp σ1, am_us σ1)) rfl (by omega) (by rw [t1]; exact Nat.le_refl _) (by rw [u1]; exact Nat.le_refl _) rfl (by decide) (am_recv h2.2.1) ?_
      refine c_pneed h2 (by decide) (fun σ3 h3 hf3 t3 u3 => ?_)
      have t3' : am_tp σ3 = am_tp σ := t3.trans t1
      have u3' : am_us σ3 = am_us σ := u3.trans u1
      simp (disch := omega) only [ax_const, ax_iload, ax_lload, ax_aload, ax_istore, ax_astore, ax_iinc, ax_i2, ax_i2n, ax_l2, ax_lsh, ax_ii, ax_il, ax_li, ax_pop, ax_dup, ax_dup2, ax_if, ax_cmp, ax_acmp, ax_goto, ax_getI, ax_getR, ax_putI, ax_putR, ax_gets, ax_getsT, ax_aldI, ax_aldR, ax_astI, ax_astR, ax_alen, ax_ret, ax_aret, ax_vret, am_st, am_kl, List.getElem?_cons_zero, List.getElem?_cons_succ, List.set_cons_zero, List.set_cons_succ, Value.category, true_and, and_true, if_true, if_false, reduceCtorEq, Bool.false_eq_true, false_implies, forall_const, Option.some.injEq, exists_eq_left', exists_eq_left, Sum.inl.injEq, Sum.inr.injEq, Prod.mk.injEq, nI_toInt, nI_clamp, am_ix_nI, am_ix_0, am_ix_1, am_ix_2, am_ix_3, am_n0, am_n1, am_n2, am_n3, am_n4, am_t0, am_t1, am_t2, am_t3, am_t4, am_tm1, am_nS, am_nP, am_nM, Int.ofNat_lt, Int.ofNat_le, Option.toList_some, Option.toList_none, List.cons_append, List.nil_append, List.append_nil]
      refine am_callK [.ref pa, .ref (xs_ca (pa + 1) j), .int 0] [] (d' := 5 + 3 * 6) (lim' := (am_tp σ3, am_us σ3)) rfl (by omega) (by rw [t3']; exact Nat.le_refl _) (by rw [u3']; exact Nat.le_refl _) rfl (by decide) (am_recv h3.2.1) ?_
      rw [← e6]
      refine hE σ3 _ ss _ _ h3 (by omega) (fun σ4 h4 hf4 t4 u4 => ?_)
      have t4' := t4.trans t3'
      have u4' := u4.trans u3'
      simp (disch := omega) only [ax_const, ax_iload, ax_lload, ax_aload, ax_istore, ax_astore, ax_iinc, ax_i2, ax_i2n, ax_l2, ax_lsh, ax_ii, ax_il, ax_li, ax_pop, ax_dup, ax_dup2, ax_if, ax_cmp, ax_acmp, ax_goto, ax_getI, ax_getR, ax_putI, ax_putR, ax_gets, ax_getsT, ax_aldI, ax_aldR, ax_astI, ax_astR, ax_alen, ax_ret, ax_aret, ax_vret, am_st, am_kl, List.getElem?_cons_zero, List.getElem?_cons_succ, List.set_cons_zero, List.set_cons_succ, Value.category, true_and, and_true, if_true, if_false, reduceCtorEq, Bool.false_eq_true, false_implies, forall_const, Option.some.injEq, exists_eq_left', exists_eq_left, Sum.inl.injEq, Sum.inr.injEq, Prod.mk.injEq, nI_toInt, nI_clamp, am_ix_nI, am_ix_0, am_ix_1, am_ix_2, am_ix_3, am_n0, am_n1, am_n2, am_n3, am_n4, am_t0, am_t1, am_t2, am_t3, am_t4, am_tm1, am_nS, am_nP, am_nM, Int.ofNat_lt, Int.ofNat_le, Option.toList_some, Option.toList_none, List.cons_append, List.nil_append, List.append_nil]
      refine am_callK [.ref pa, .ref (am_tk g 24)] [] (d' := 0) (lim' := (am_tp σ4, am_us σ4)) rfl (by omega) (by rw [t4']; exact Nat.le_refl _) (by rw [u4']; exact Nat.le_refl _) rfl (by decide) (am_recv h4.2.1) ?_
      refine c_pneed h4 (by decide) (fun σ5 h5 hf5 t5 u5 => ?_)
      simp (disch := omega) only [ax_const, ax_iload, ax_lload, ax_aload, ax_istore, ax_astore, ax_iinc, ax_i2, ax_i2n, ax_l2, ax_lsh, ax_ii, ax_il, ax_li, ax_pop, ax_dup, ax_dup2, ax_if, ax_cmp, ax_acmp, ax_goto, ax_getI, ax_getR, ax_putI, ax_putR, ax_gets, ax_getsT, ax_aldI, ax_aldR, ax_astI, ax_astR, ax_alen, ax_ret, ax_aret, ax_vret, am_st, am_kl, List.getElem?_cons_zero, List.getElem?_cons_succ, List.set_cons_zero, List.set_cons_succ, Value.category, true_and, and_true, if_true, if_false, reduceCtorEq, Bool.false_eq_true, false_implies, forall_const, Option.some.injEq, exists_eq_left', exists_eq_left, Sum.inl.injEq, Sum.inr.injEq, Prod.mk.injEq, nI_toInt, nI_clamp, am_ix_nI, am_ix_0, am_ix_1, am_ix_2, am_ix_3, am_n0, am_n1, am_n2, am_n3, am_n4, am_t0, am_t1, am_t2, am_t3, am_t4, am_tm1, am_nS, am_nP, am_nM, Int.ofNat_lt, Int.ofNat_le, Option.toList_some, Option.toList_none, List.cons_append, List.nil_append, List.append_nil]
      exact ⟨t5.trans t4', u5.trans u4', hQ σ5 h5 (((((xp_Qpa hf1).tr (fk σ1 _)).tr (xp_Qpa hf3)).tr hf4).tr (xp_Qpa hf5))⟩
    · rw [if_neg q2] at hQ
      simp (disch := omega) only [ax_const, ax_iload, ax_lload, ax_aload, ax_istore, ax_astore, ax_iinc, ax_i2, ax_i2n, ax_l2, ax_lsh, ax_ii, ax_il, ax_li, ax_pop, ax_dup, ax_dup2, ax_if, ax_cmp, ax_acmp, ax_goto, ax_getI, ax_getR, ax_putI, ax_putR, ax_gets, ax_getsT, ax_aldI, ax_aldR, ax_astI, ax_astR, ax_alen, ax_ret, ax_aret, ax_vret, am_st, am_kl, List.getElem?_cons_zero, List.getElem?_cons_succ, List.set_cons_zero, List.set_cons_succ, Value.category, true_and, and_true, if_true, if_false, reduceCtorEq, Bool.false_eq_true, false_implies, forall_const, Option.some.injEq, exists_eq_left', exists_eq_left, Sum.inl.injEq, Sum.inr.injEq, Prod.mk.injEq, nI_toInt, nI_clamp, am_ix_nI, am_ix_0, am_ix_1, am_ix_2, am_ix_3, am_n0, am_n1, am_n2, am_n3, am_n4, am_t0, am_t1, am_t2, am_t3, am_t4, am_tm1, am_nS, am_nP, am_nM, Int.ofNat_lt, Int.ofNat_le, Option.toList_some, Option.toList_none, List.cons_append, List.nil_append, List.append_nil, am_sh_wi, am_sh_wr, am_r_wi, am_i_wr, am_tp_wi, am_tp_wr, am_us_wi, am_us_wr, am_i_wi, am_r_wr, hcs]
      refine ⟨?_, fun z => absurd trivial z⟩
      have h2 := h.kind (kd := 1) hj (by decide)
      refine am_callK [.ref pa, .ref (xs_ca (pa + 1) j), .int 0] [] (d' := 5 + 3 * 6) (lim' := (am_tp σ, am_us σ)) rfl (by omega) (Nat.le_refl _) (Nat.le_refl _) rfl (Nat.le_of_ble_eq_true rfl) (am_recv h2.2.1) ?_
      rw [← e6]
      refine hE _ _ ss _ _ h2 hl (fun σ4 h4 hf4 t4 u4 => ?_)
      simp (disch := omega) only [ax_const, ax_iload, ax_lload, ax_aload, ax_istore, ax_astore, ax_iinc, ax_i2, ax_i2n, ax_l2, ax_lsh, ax_ii, ax_il, ax_li, ax_pop, ax_dup, ax_dup2, ax_if, ax_cmp, ax_acmp, ax_goto, ax_getI, ax_getR, ax_putI, ax_putR, ax_gets, ax_getsT, ax_aldI, ax_aldR, ax_astI, ax_astR, ax_alen, ax_ret, ax_aret, ax_vret, am_st, am_kl, List.getElem?_cons_zero, List.getElem?_cons_succ, List.set_cons_zero, List.set_cons_succ, Value.category, true_and, and_true, if_true, if_false, reduceCtorEq, Bool.false_eq_true, false_implies, forall_const, Option.some.injEq, exists_eq_left', exists_eq_left, Sum.inl.injEq, Sum.inr.injEq, Prod.mk.injEq, nI_toInt, nI_clamp, am_ix_nI, am_ix_0, am_ix_1, am_ix_2, am_ix_3, am_n0, am_n1, am_n2, am_n3, am_n4, am_t0, am_t1, am_t2, am_t3, am_t4, am_tm1, am_nS, am_nP, am_nM, Int.ofNat_lt, Int.ofNat_le, Option.toList_some, Option.toList_none, List.cons_append, List.nil_append, List.append_nil]
      exact ⟨t4, u4, hQ σ4 h4 ((fk σ _).tr hf4)⟩
