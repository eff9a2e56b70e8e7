/-! the reference's parser: tokens, codes -/
def yZ (σ : am_S) (m : Nat) (ts : List (Nat × Int32)) (a : Nat) (b : Bool) (o : yp_O) (W H : List Nat) (ns ou : Int32) (w : Bool) : Prop := ym_H σ m ∧ yb_T σ m ts ∧ yb_P σ m a b o W H ns ou w ∧ (∀ x, x ∈ W → 3 ≤ x ∧ x ≤ 13) ∧ ∀ x, x ∈ H → 3 ≤ x ∧ x ≤ 13
theorem yZ.up {σ σ' : am_S} {m a a' : Nat} {ts : List (Nat × Int32)} {b b' : Bool} {o o' : yp_O} {W W' H H' : List Nat} {ns ns' ou ou' : Int32} {w w' : Bool} (h : yZ σ m ts a b o W H ns ou w) (hf : yb_f m σ σ') (hP : yb_P σ' m a' b' o' W' H' ns' ou' w') (hW : ∀ x, x ∈ W' → 3 ≤ x ∧ x ≤ 13) (hH : ∀ x, x ∈ H' → 3 ≤ x ∧ x ≤ 13) : yZ σ' m ts a' b' o' W' H' ns' ou' w' := ⟨hf.H h.1, h.2.1.f hf, hP, hW, hH⟩
theorem c_ysign {g : am_G} {l : Launch} {σ : am_S} {m a s : Nat} {ts : List (Nat × Int32)} {b : Bool} {o : yp_O} {W H : List Nat} {ns ou : Int32} {w : Bool} {Q : Option Value → am_S → Prop} (h : yZ σ m ts a b o W H ns ou w) (ha : a < ts.length) (h1 : 21 ≤ s) (h2 : s ≤ 32) (hQ : Q (some (.int (if xp_hd ts a = s then 1 else 0))) σ) : am_C g l mX10_isSign 0 (am_tp σ, am_us σ) [.ref m, .int (nI (yw_s s))] σ Q := by
  obtain ⟨hH, hT, hP, -, -⟩ := h
  have hl := hT.1
  have hok := (hT.2 a ha).sign h1 h2
  refine am_C.go [some (.ref m), some (.int (nI (yw_s s)))] (by decide +kernel) (Nat.le_of_ble_eq_true rfl) rfl (kX10_isSign_0 ?_)
  simp (disch := omega) only [ax_const, ax_iload, ax_lload, ax_aload, ax_istore, ax_astore, ax_iinc, ax_i2, ax_i2n, ax_l2, ax_lsh, ax_ii, ax_il, ax_li, ax_pop, ax_dup, ax_dup2, ax_if, ax_cmp, ax_acmp, ax_goto, ax_getI, ax_getR, ax_putI, ax_putR, ax_gets, ax_getsT, ax_aldI, ax_aldR, ax_astI, ax_astR, ax_alen, ax_ret, ax_aret, ax_vret, am_st, am_kl, List.getElem?_cons_zero, List.getElem?_cons_succ, List.set_cons_zero, List.set_cons_succ, Value.category, true_and, and_true, if_true, if_false, reduceCtorEq, Bool.false_eq_true, false_implies, forall_const, Option.some.injEq, exists_eq_left', exists_eq_left, Sum.inl.injEq, Sum.inr.injEq, Prod.mk.injEq, nI_toInt, nI_clamp, am_ix_nI, am_ix_0, am_ix_1, am_ix_2, am_ix_3, am_n0, am_n1, am_n2, am_n3, am_n4, am_t0, am_t1, am_t2, am_t3, am_t4, am_tm1, am_nS, am_nP, am_nM, Int.ofNat_lt, Int.ofNat_le, hH.1, hH.r9, hH.s9, hH.r10, hH.s10, hP.1]
  refine ⟨by omega, fun c => ⟨by omega, fun d => ⟨by simp, ?_⟩, fun d => ⟨by simp, ?_⟩⟩, fun c => ⟨by simp, ?_⟩⟩
  · rwa [if_pos (hok.mp ⟨c, d⟩)] at hQ
  · rwa [if_neg (fun e => d (hok.mpr e).2)] at hQ
  · rwa [if_neg (fun e => c (hok.mpr e).1)] at hQ
theorem c_ytsign {g : am_G} {l : Launch} {σ : am_S} {m a s : Nat} {ts : List (Nat × Int32)} {b : Bool} {o : yp_O} {W H : List Nat} {ns ou : Int32} {w : Bool} {Q : Option Value → am_S → Prop} (h : yZ σ m ts a b o W H ns ou w) (ha : a < ts.length) (h1 : 21 ≤ s) (h2 : s ≤ 32)
    (hQ1 : xp_hd ts a = s → ∀ σ', yZ σ' m ts (a + 1) b o W H ns ou w → yb_f m σ σ' → Q (some (.int 1)) σ') (hQ0 : xp_hd ts a ≠ s → ∀ σ', yZ σ' m ts a b o W H ns ou w → yb_f m σ σ' → Q (some (.int 0)) σ') : am_C g l mX10_takeSign 1 (am_tp σ, am_us σ) [.ref m, .int (nI (yw_s s))] σ Q := by
  have h0 := h
  obtain ⟨hH, hT, hP, hW, hHH⟩ := h
  have o1 : ¬ (1 : Int32) = 0 := by decide
  refine am_C.go [some (.ref m), some (.int (nI (yw_s s))), none] (by decide +kernel) (Nat.le_of_ble_eq_true rfl) rfl (kX10_takeSign_0 ?_)
  simp (disch := omega) only [ax_const, ax_iload, ax_lload, ax_aload, ax_istore, ax_astore, ax_iinc, ax_i2, ax_i2n, ax_l2, ax_lsh, ax_ii, ax_il, ax_li, ax_pop, ax_dup, ax_dup2, ax_if, ax_cmp, ax_acmp, ax_goto, ax_getI, ax_getR, ax_putI, ax_putR, ax_gets, ax_getsT, ax_aldI, ax_aldR, ax_astI, ax_astR, ax_alen, ax_ret, ax_aret, ax_vret, am_st, am_kl, List.getElem?_cons_zero, List.getElem?_cons_succ, List.set_cons_zero, List.set_cons_succ, Value.category, true_and, and_true, if_true, if_false, reduceCtorEq, Bool.false_eq_true, false_implies, forall_const, Option.some.injEq, exists_eq_left', exists_eq_left, Sum.inl.injEq, Sum.inr.injEq, Prod.mk.injEq, nI_toInt, nI_clamp, am_ix_nI, am_ix_0, am_ix_1, am_ix_2, am_ix_3, am_n0, am_n1, am_n2, am_n3, am_n4, am_t0, am_t1, am_t2, am_t3, am_t4, am_tm1, am_nS, am_nP, am_nM, Int.ofNat_lt, Int.ofNat_le]
  refine am_callK [.ref m, .int (nI (yw_s s))] [] (d' := 0) (lim' := (am_tp σ, am_us σ)) rfl (by decide) (Nat.le_refl _) (Nat.le_refl _) rfl (Nat.le_of_ble_eq_true rfl) (am_recv hH.1) ?_
  refine c_ysign h0 ha h1 h2 (fun _ _ => ?_)
  by_cases c : xp_hd ts a = s
  · rw [if_pos c]
    simp (disch := omega) only [ax_const, ax_iload, ax_lload, ax_aload, ax_istore, ax_astore, ax_iinc, ax_i2, ax_i2n, ax_l2, ax_lsh, ax_ii, ax_il, ax_li, ax_pop, ax_dup, ax_dup2, ax_if, ax_cmp, ax_acmp, ax_goto, ax_getI, ax_getR, ax_putI, ax_putR, ax_gets, ax_getsT, ax_aldI, ax_aldR, ax_astI, ax_astR, ax_alen, ax_ret, ax_aret, ax_vret, am_st, am_kl, List.getElem?_cons_zero, List.getElem?_cons_succ, List.set_cons_zero, List.set_cons_succ, Value.category, true_and, and_true, if_true, if_false, reduceCtorEq, Bool.false_eq_true, false_implies, forall_const, Option.some.injEq, exists_eq_left', exists_eq_left, Sum.inl.injEq, Sum.inr.injEq, Prod.mk.injEq, nI_toInt, nI_clamp, am_ix_nI, am_ix_0, am_ix_1, am_ix_2, am_ix_3, am_n0, am_n1, am_n2, am_n3, am_n4, am_t0, am_t1, am_t2, am_t3, am_t4, am_tm1, am_nS, am_nP, am_nM, Int.ofNat_lt, Int.ofNat_le, Option.toList_some, Option.toList_none, List.cons_append, List.nil_append, List.append_nil, am_sh_wi, am_r_wi, am_tp_wi, am_us_wi, ym_is, ym_io, ym_ij, o1, hH.1, hP.1]
    exact fun _ => ⟨Or.inr trivial, hQ1 c _ (h0.up (yb_f.rf.wf (by decide) (by decide)) (hP.at (a + 1)) hW hHH) (yb_f.rf.wf (by decide) (by decide))⟩
  · rw [if_neg c]
    simp (disch := omega) only [ax_const, ax_iload, ax_lload, ax_aload, ax_istore, ax_astore, ax_iinc, ax_i2, ax_i2n, ax_l2, ax_lsh, ax_ii, ax_il, ax_li, ax_pop, ax_dup, ax_dup2, ax_if, ax_cmp, ax_acmp, ax_goto, ax_getI, ax_getR, ax_putI, ax_putR, ax_gets, ax_getsT, ax_aldI, ax_aldR, ax_astI, ax_astR, ax_alen, ax_ret, ax_aret, ax_vret, am_st, am_kl, List.getElem?_cons_zero, List.getElem?_cons_succ, List.set_cons_zero, List.set_cons_succ, Value.category, true_and, and_true, if_true, if_false, reduceCtorEq, Bool.false_eq_true, false_implies, forall_const, Option.some.injEq, exists_eq_left', exists_eq_left, Sum.inl.injEq, Sum.inr.injEq, Prod.mk.injEq, nI_toInt, nI_clamp, am_ix_nI, am_ix_0, am_ix_1, am_ix_2, am_ix_3, am_n0, am_n1, am_n2, am_n3, am_n4, am_t0, am_t1, am_t2, am_t3, am_t4, am_tm1, am_nS, am_nP, am_nM, Int.ofNat_lt, Int.ofNat_le, Option.toList_some, Option.toList_none, List.cons_append, List.nil_append, List.append_nil, am_sh_wi, am_r_wi, am_tp_wi, am_us_wi, ym_is, ym_io, ym_ij, hH.1, hP.1]
    exact ⟨⟨Or.inl trivial, hQ0 c _ (h0.up (yb_f.rf.wf (by decide) (by decide)) (hP.at a) hW hHH) (yb_f.rf.wf (by decide) (by decide))⟩, fun z => absurd trivial z⟩
theorem ytw_31 {g : am_G} {l : Launch} {σ : am_S} {m a d : Nat} {v : Int32} {ts : List (Nat × Int32)} {b y : Bool} {o : yp_O} {W H : List Nat} {ns ou : Int32} {w : Bool} {z : Option Value} {Q : Option Value → am_S → Prop} (h : yZ σ m ts a b o W H ns ou w)
    (hQ : ∀ σ', yZ σ' m ts (if y = true then a + 1 else a) b o W H ns ou w → yb_f m σ σ' → Q (some (.int (yb y))) σ') : am_W g l mX10_takeWord d (am_tp σ, am_us σ) Q 31 [some (.ref m), some (.int v), z] [.int (yb y)] σ := by
  have h0 := h
  obtain ⟨hH, hT, hP, hW, hHH⟩ := h
  refine kX10_takeWord_31 ?_
  cases y with
  | true =>
    rw [if_pos rfl] at hQ
    have o1 : ¬ (1 : Int32) = 0 := by decide
    have e : yb true = 1 := rfl
    rw [e] at hQ ⊢
    simp (disch := omega) only [ax_const, ax_iload, ax_lload, ax_aload, ax_istore, ax_astore, ax_iinc, ax_i2, ax_i2n, ax_l2, ax_lsh, ax_ii, ax_il, ax_li, ax_pop, ax_dup, ax_dup2, ax_if, ax_cmp, ax_acmp, ax_goto, ax_getI, ax_getR, ax_putI, ax_putR, ax_gets, ax_getsT, ax_aldI, ax_aldR, ax_astI, ax_astR, ax_alen, ax_ret, ax_aret, ax_vret, am_st, am_kl, List.getElem?_cons_zero, List.getElem?_cons_succ, List.set_cons_zero, List.set_cons_succ, Value.category, true_and, and_true, if_true, if_false, reduceCtorEq, Bool.false_eq_true, false_implies, forall_const, Option.some.injEq, exists_eq_left', exists_eq_left, Sum.inl.injEq, Sum.inr.injEq, Prod.mk.injEq, nI_toInt, nI_clamp, am_ix_nI, am_ix_0, am_ix_1, am_ix_2, am_ix_3, am_n0, am_n1, am_n2, am_n3, am_n4, am_t0, am_t1, am_t2, am_t3, am_t4, am_tm1, am_nS, am_nP, am_nM, Int.ofNat_lt, Int.ofNat_le, am_sh_wi, am_r_wi, am_tp_wi, am_us_wi, ym_is, ym_io, ym_ij, o1, hH.1, hP.1]
    exact fun _ => ⟨Or.inr trivial, hQ _ (h0.up (yb_f.rf.wf (by decide) (by decide)) (hP.at (a + 1)) hW hHH) (yb_f.rf.wf (by decide) (by decide))⟩
  | false =>
    rw [if_neg (by decide)] at hQ
    have e : yb false = 0 := rfl
    rw [e] at hQ ⊢
    simp (disch := omega) only [ax_const, ax_iload, ax_lload, ax_aload, ax_istore, ax_astore, ax_iinc, ax_i2, ax_i2n, ax_l2, ax_lsh, ax_ii, ax_il, ax_li, ax_pop, ax_dup, ax_dup2, ax_if, ax_cmp, ax_acmp, ax_goto, ax_getI, ax_getR, ax_putI, ax_putR, ax_gets, ax_getsT, ax_aldI, ax_aldR, ax_astI, ax_astR, ax_alen, ax_ret, ax_aret, ax_vret, am_st, am_kl, List.getElem?_cons_zero, List.getElem?_cons_succ, List.set_cons_zero, List.set_cons_succ, Value.category, true_and, and_true, if_true, if_false, reduceCtorEq, Bool.false_eq_true, false_implies, forall_const, Option.some.injEq, exists_eq_left', exists_eq_left, Sum.inl.injEq, Sum.inr.injEq, Prod.mk.injEq, nI_toInt, nI_clamp, am_ix_nI, am_ix_0, am_ix_1, am_ix_2, am_ix_3, am_n0, am_n1, am_n2, am_n3, am_n4, am_t0, am_t1, am_t2, am_t3, am_t4, am_tm1, am_nS, am_nP, am_nM, Int.ofNat_lt, Int.ofNat_le, am_sh_wi, am_r_wi, am_tp_wi, am_us_wi, ym_is, ym_io, ym_ij, hH.1, hP.1]
    exact ⟨⟨Or.inl trivial, hQ _ (h0.up (yb_f.rf.wf (by decide) (by decide)) (hP.at a) hW hHH) (yb_f.rf.wf (by decide) (by decide))⟩, fun z => absurd trivial z⟩
theorem c_ytword {g : am_G} {l : Launch} {σ : am_S} {m a s : Nat} {ts : List (Nat × Int32)} {b : Bool} {o : yp_O} {W H : List Nat} {ns ou : Int32} {w : Bool} {Q : Option Value → am_S → Prop} (h : yZ σ m ts a b o W H ns ou w) (ha : a < ts.length) (h1 : s < 19)
    (hQ1 : xp_hd ts a = s → ∀ σ', yZ σ' m ts (a + 1) b o W H ns ou w → yb_f m σ σ' → Q (some (.int 1)) σ') (hQ0 : xp_hd ts a ≠ s → ∀ σ', yZ σ' m ts a b o W H ns ou w → yb_f m σ σ' → Q (some (.int 0)) σ') : am_C g l mX10_takeWord 0 (am_tp σ, am_us σ) [.ref m, .int (yw_c (xt_w s))] σ Q := by
  have h0 := h
  obtain ⟨hH, hT, hP, hW, hHH⟩ := h
  have hl := hT.1
  have hok := (hT.2 a ha).word h1
  have yes : xp_hd ts a = s → am_W g l mX10_takeWord 0 (am_tp σ, am_us σ) Q 31 [some (.ref m), some (.int (yw_c (xt_w s))), none] [.int 1] σ := fun c => ytw_31 (y := true) h0 (fun σ' h' hf => hQ1 c σ' h' hf)
  have no : xp_hd ts a ≠ s → am_W g l mX10_takeWord 0 (am_tp σ, am_us σ) Q 31 [some (.ref m), some (.int (yw_c (xt_w s))), none] [.int 0] σ := fun c => ytw_31 (y := false) h0 (fun σ' h' hf => hQ0 c σ' h' hf)
  refine am_C.go [some (.ref m), some (.int (yw_c (xt_w s))), none] (by decide +kernel) (Nat.le_of_ble_eq_true rfl) rfl (kX10_takeWord_0 ?_)
  simp (disch := omega) only [ax_const, ax_iload, ax_lload, ax_aload, ax_istore, ax_astore, ax_iinc, ax_i2, ax_i2n, ax_l2, ax_lsh, ax_ii, ax_il, ax_li, ax_pop, ax_dup, ax_dup2, ax_if, ax_cmp, ax_acmp, ax_goto, ax_getI, ax_getR, ax_putI, ax_putR, ax_gets, ax_getsT, ax_aldI, ax_aldR, ax_astI, ax_astR, ax_alen, ax_ret, ax_aret, ax_vret, am_st, am_kl, List.getElem?_cons_zero, List.getElem?_cons_succ, List.set_cons_zero, List.set_cons_succ, Value.category, true_and, and_true, if_true, if_false, reduceCtorEq, Bool.false_eq_true, false_implies, forall_const, Option.some.injEq, exists_eq_left', exists_eq_left, Sum.inl.injEq, Sum.inr.injEq, Prod.mk.injEq, nI_toInt, nI_clamp, am_ix_nI, am_ix_0, am_ix_1, am_ix_2, am_ix_3, am_n0, am_n1, am_n2, am_n3, am_n4, am_t0, am_t1, am_t2, am_t3, am_t4, am_tm1, am_nS, am_nP, am_nM, Int.ofNat_lt, Int.ofNat_le, hH.1, hH.r9, hH.s9, hH.r10, hH.s10, hP.1]
  exact ⟨by omega, fun c => ⟨by omega, fun e => yes (hok.mp ⟨c, e⟩), fun e => no (fun q => e (hok.mpr q).2)⟩, fun c => no (fun q => c (hok.mpr q).1)⟩
theorem yb_ne {b : Bool} : yb b = 0 ↔ b = false := by cases b <;> decide
theorem ytk_56 {g : am_G} {l : Launch} {σ : am_S} {m a d : Nat} {v x : Int32} {ts : List (Nat × Int32)} {b y : Bool} {o : yp_O} {W H : List Nat} {ns ou : Int32} {w : Bool} {z : Option Value} {Q : Option Value → am_S → Prop} (h : yZ σ m ts a b o W H ns ou w)
    (hQ : ∀ σ', yZ σ' m ts (if y = true then a + 1 else a) b o W H ns ou w → yb_f m σ σ' → Q (some (.int x)) σ') : am_W g l mX10_take d (am_tp σ, am_us σ) Q 56 [some (.ref m), some (.int v), some (.int (yb y)), z] [.int x] σ := by
  have h0 := h
  obtain ⟨hH, hT, hP, hW, hHH⟩ := h
  refine kX10_take_56 ?_
  cases y with
  | true =>
    rw [if_pos rfl] at hQ
    have o1 : ¬ (1 : Int32) = 0 := by decide
    have e : yb true = 1 := rfl
    rw [e]
    simp (disch := omega) only [ax_const, ax_iload, ax_lload, ax_aload, ax_istore, ax_astore, ax_iinc, ax_i2, ax_i2n, ax_l2, ax_lsh, ax_ii, ax_il, ax_li, ax_pop, ax_dup, ax_dup2, ax_if, ax_cmp, ax_acmp, ax_goto, ax_getI, ax_getR, ax_putI, ax_putR, ax_gets, ax_getsT, ax_aldI, ax_aldR, ax_astI, ax_astR, ax_alen, ax_ret, ax_aret, ax_vret, am_st, am_kl, List.getElem?_cons_zero, List.getElem?_cons_succ, List.set_cons_zero, List.set_cons_succ, Value.category, true_and, and_true, if_true, if_false, reduceCtorEq, Bool.false_eq_true, false_implies, forall_const, Option.some.injEq, exists_eq_left', exists_eq_left, Sum.inl.injEq, Sum.inr.injEq, Prod.mk.injEq, nI_toInt, nI_clamp, am_ix_nI, am_ix_0, am_ix_1, am_ix_2, am_ix_3, am_n0, am_n1, am_n2, am_n3, am_n4, am_t0, am_t1, am_t2, am_t3, am_t4, am_tm1, am_nS, am_nP, am_nM, Int.ofNat_lt, Int.ofNat_le, am_sh_wi, am_r_wi, am_tp_wi, am_us_wi, ym_is, ym_io, ym_ij, o1, hH.1, hP.1]
    exact fun _ => hQ _ (h0.up (yb_f.rf.wf (by decide) (by decide)) (hP.at (a + 1)) hW hHH) (yb_f.rf.wf (by decide) (by decide))
  | false =>
    rw [if_neg (by decide)] at hQ
    have e : yb false = 0 := rfl
    rw [e]
    simp (disch := omega) only [ax_const, ax_iload, ax_lload, ax_aload, ax_istore, ax_astore, ax_iinc, ax_i2, ax_i2n, ax_l2, ax_lsh, ax_ii, ax_il, ax_li, ax_pop, ax_dup, ax_dup2, ax_if, ax_cmp, ax_acmp, ax_goto, ax_getI, ax_getR, ax_putI, ax_putR, ax_gets, ax_getsT, ax_aldI, ax_aldR, ax_astI, ax_astR, ax_alen, ax_ret, ax_aret, ax_vret, am_st, am_kl, List.getElem?_cons_zero, List.getElem?_cons_succ, List.set_cons_zero, List.set_cons_succ, Value.category, true_and, and_true, if_true, if_false, reduceCtorEq, Bool.false_eq_true, false_implies, forall_const, Option.some.injEq, exists_eq_left', exists_eq_left, Sum.inl.injEq, Sum.inr.injEq, Prod.mk.injEq, nI_toInt, nI_clamp, am_ix_nI, am_ix_0, am_ix_1, am_ix_2, am_ix_3, am_n0, am_n1, am_n2, am_n3, am_n4, am_t0, am_t1, am_t2, am_t3, am_t4, am_tm1, am_nS, am_nP, am_nM, Int.ofNat_lt, Int.ofNat_le, am_sh_wi, am_r_wi, am_tp_wi, am_us_wi, ym_is, ym_io, ym_ij, hH.1, hP.1]
    exact ⟨hQ _ (h0.up (yb_f.rf.wf (by decide) (by decide)) (hP.at a) hW hHH) (yb_f.rf.wf (by decide) (by decide)), fun z => absurd trivial z⟩
theorem ytk_36 {g : am_G} {l : Launch} {σ : am_S} {m a d : Nat} {v : Int32} {ts : List (Nat × Int32)} {b b' y : Bool} {o : yp_O} {W H : List Nat} {ns ou : Int32} {w : Bool} {z : Option Value} {Q : Option Value → am_S → Prop} (h : yZ σ m ts a b o W H ns ou w) (ha : a < ts.length)
    (hQ : ∀ σ', yZ σ' m ts (if y = true then a + 1 else a) b' o W H ns ou w → yb_f m σ σ' → Q (some (.int (if y = true then am_i σ (m + 11) a else 0))) σ') : am_W g l mX10_take d (am_tp σ, am_us σ) Q 36 [some (.ref m), some (.int v), some (.int (yb y)), z] [.int (yb b'), .ref m] σ := by
  have h0 := h
  obtain ⟨hH, hT, hP, hW, hHH⟩ := h
  have hl := hT.1
  have hf : yb_f m σ (am_wi σ m 13 (yb b')) := yb_f.rf.wf (by decide) (by decide)
  have hP' := hP.bd b'
  have h' : yZ (am_wi σ m 13 (yb b')) m ts a b' o W H ns ou w := h0.up hf hP' hW hHH
  have hb01 : yb b' = 0 ∨ yb b' = 1 := by cases b' <;> decide
  refine kX10_take_36 ?_
  cases y with
  | true =>
    have e : yb true = 1 := rfl
    rw [e]
    have o1 : ¬ (1 : Int32) = 0 := by decide
    simp (disch := omega) only [ax_const, ax_iload, ax_lload, ax_aload, ax_istore, ax_astore, ax_iinc, ax_i2, ax_i2n, ax_l2, ax_lsh, ax_ii, ax_il, ax_li, ax_pop, ax_dup, ax_dup2, ax_if, ax_cmp, ax_acmp, ax_goto, ax_getI, ax_getR, ax_putI, ax_putR, ax_gets, ax_getsT, ax_aldI, ax_aldR, ax_astI, ax_astR, ax_alen, ax_ret, ax_aret, ax_vret, am_st, am_kl, List.getElem?_cons_zero, List.getElem?_cons_succ, List.set_cons_zero, List.set_cons_succ, Value.category, true_and, and_true, if_true, if_false, reduceCtorEq, Bool.false_eq_true, false_implies, forall_const, Option.some.injEq, exists_eq_left', exists_eq_left, Sum.inl.injEq, Sum.inr.injEq, Prod.mk.injEq, nI_toInt, nI_clamp, am_ix_nI, am_ix_0, am_ix_1, am_ix_2, am_ix_3, am_n0, am_n1, am_n2, am_n3, am_n4, am_t0, am_t1, am_t2, am_t3, am_t4, am_tm1, am_nS, am_nP, am_nM, Int.ofNat_lt, Int.ofNat_le, am_sh_wi, am_r_wi, am_tp_wi, am_us_wi, ym_is, ym_io, ym_ij, o1, hH.1, hH.r10, hH.s10, hP.1]
    refine ⟨hb01, fun _ => ⟨by omega, ?_⟩⟩
    exact ytk_56 (y := true) h' (fun σ' k f => hQ σ' k (hf.tr f))
  | false =>
    have e : yb false = 0 := rfl
    rw [e]
    simp (disch := omega) only [ax_const, ax_iload, ax_lload, ax_aload, ax_istore, ax_astore, ax_iinc, ax_i2, ax_i2n, ax_l2, ax_lsh, ax_ii, ax_il, ax_li, ax_pop, ax_dup, ax_dup2, ax_if, ax_cmp, ax_acmp, ax_goto, ax_getI, ax_getR, ax_putI, ax_putR, ax_gets, ax_getsT, ax_aldI, ax_aldR, ax_astI, ax_astR, ax_alen, ax_ret, ax_aret, ax_vret, am_st, am_kl, List.getElem?_cons_zero, List.getElem?_cons_succ, List.set_cons_zero, List.set_cons_succ, Value.category, true_and, and_true, if_true, if_false, reduceCtorEq, Bool.false_eq_true, false_implies, forall_const, Option.some.injEq, exists_eq_left', exists_eq_left, Sum.inl.injEq, Sum.inr.injEq, Prod.mk.injEq, nI_toInt, nI_clamp, am_ix_nI, am_ix_0, am_ix_1, am_ix_2, am_ix_3, am_n0, am_n1, am_n2, am_n3, am_n4, am_t0, am_t1, am_t2, am_t3, am_t4, am_tm1, am_nS, am_nP, am_nM, Int.ofNat_lt, Int.ofNat_le, am_sh_wi, am_r_wi, am_tp_wi, am_us_wi, ym_is, ym_io, ym_ij, hH.1, hH.r10, hH.s10, hP.1]
    exact ⟨hb01, ytk_56 (y := false) h' (fun σ' k f => hQ σ' k (hf.tr f)), fun z => absurd trivial z⟩
theorem ytk_18 {g : am_G} {l : Launch} {σ : am_S} {m a d : Nat} {v : Int32} {ts : List (Nat × Int32)} {b y : Bool} {o : yp_O} {W H : List Nat} {ns ou : Int32} {w : Bool} {z z2 : Option Value} {Q : Option Value → am_S → Prop} (h : yZ σ m ts a b o W H ns ou w) (ha : a < ts.length)
    (hQ : ∀ σ', yZ σ' m ts (if y = true then a + 1 else a) (b || !y) o W H ns ou w → yb_f m σ σ' → Q (some (.int (if y = true then am_i σ (m + 11) a else 0))) σ') : am_W g l mX10_take d (am_tp σ, am_us σ) Q 18 [some (.ref m), some (.int v), z, z2] [.int (yb y)] σ := by
  obtain ⟨hH, hT, hP, hW, hHH⟩ := id h
  refine kX10_take_18 ?_
  cases b with
  | true =>
    have e : am_i σ m 13 = 1 := hP.2.1
    have o1 : ¬ (1 : Int32) = 0 := by decide
    simp (disch := omega) only [ax_const, ax_iload, ax_lload, ax_aload, ax_istore, ax_astore, ax_iinc, ax_i2, ax_i2n, ax_l2, ax_lsh, ax_ii, ax_il, ax_li, ax_pop, ax_dup, ax_dup2, ax_if, ax_cmp, ax_acmp, ax_goto, ax_getI, ax_getR, ax_putI, ax_putR, ax_gets, ax_getsT, ax_aldI, ax_aldR, ax_astI, ax_astR, ax_alen, ax_ret, ax_aret, ax_vret, am_st, am_kl, List.getElem?_cons_zero, List.getElem?_cons_succ, List.set_cons_zero, List.set_cons_succ, Value.category, true_and, and_true, if_true, if_false, reduceCtorEq, Bool.false_eq_true, false_implies, forall_const, Option.some.injEq, exists_eq_left', exists_eq_left, Sum.inl.injEq, Sum.inr.injEq, Prod.mk.injEq, nI_toInt, nI_clamp, am_ix_nI, am_ix_0, am_ix_1, am_ix_2, am_ix_3, am_n0, am_n1, am_n2, am_n3, am_n4, am_t0, am_t1, am_t2, am_t3, am_t4, am_tm1, am_nS, am_nP, am_nM, Int.ofNat_lt, Int.ofNat_le, e, o1, hH.1]
    exact fun _ => ytk_36 (b' := true) h ha hQ
  | false =>
    have e : am_i σ m 13 = 0 := hP.2.1
    cases y with
    | true =>
      have e2 : yb true = 1 := rfl
      have o1 : ¬ (1 : Int32) = 0 := by decide
      rw [e2]
      simp (disch := omega) only [ax_const, ax_iload, ax_lload, ax_aload, ax_istore, ax_astore, ax_iinc, ax_i2, ax_i2n, ax_l2, ax_lsh, ax_ii, ax_il, ax_li, ax_pop, ax_dup, ax_dup2, ax_if, ax_cmp, ax_acmp, ax_goto, ax_getI, ax_getR, ax_putI, ax_putR, ax_gets, ax_getsT, ax_aldI, ax_aldR, ax_astI, ax_astR, ax_alen, ax_ret, ax_aret, ax_vret, am_st, am_kl, List.getElem?_cons_zero, List.getElem?_cons_succ, List.set_cons_zero, List.set_cons_succ, Value.category, true_and, and_true, if_true, if_false, reduceCtorEq, Bool.false_eq_true, false_implies, forall_const, Option.some.injEq, exists_eq_left', exists_eq_left, Sum.inl.injEq, Sum.inr.injEq, Prod.mk.injEq, nI_toInt, nI_clamp, am_ix_nI, am_ix_0, am_ix_1, am_ix_2, am_ix_3, am_n0, am_n1, am_n2, am_n3, am_n4, am_t0, am_t1, am_t2, am_t3, am_t4, am_tm1, am_nS, am_nP, am_nM, Int.ofNat_lt, Int.ofNat_le, e, o1, hH.1]
      exact ⟨fun _ => ytk_36 (b' := false) (y := true) h ha hQ, fun z => absurd trivial z⟩
    | false =>
      have e2 : yb false = 0 := rfl
      rw [e2]
      simp (disch := omega) only [ax_const, ax_iload, ax_lload, ax_aload, ax_istore, ax_astore, ax_iinc, ax_i2, ax_i2n, ax_l2, ax_lsh, ax_ii, ax_il, ax_li, ax_pop, ax_dup, ax_dup2, ax_if, ax_cmp, ax_acmp, ax_goto, ax_getI, ax_getR, ax_putI, ax_putR, ax_gets, ax_getsT, ax_aldI, ax_aldR, ax_astI, ax_astR, ax_alen, ax_ret, ax_aret, ax_vret, am_st, am_kl, List.getElem?_cons_zero, List.getElem?_cons_succ, List.set_cons_zero, List.set_cons_succ, Value.category, true_and, and_true, if_true, if_false, reduceCtorEq, Bool.false_eq_true, false_implies, forall_const, Option.some.injEq, exists_eq_left', exists_eq_left, Sum.inl.injEq, Sum.inr.injEq, Prod.mk.injEq, nI_toInt, nI_clamp, am_ix_nI, am_ix_0, am_ix_1, am_ix_2, am_ix_3, am_n0, am_n1, am_n2, am_n3, am_n4, am_t0, am_t1, am_t2, am_t3, am_t4, am_tm1, am_nS, am_nP, am_nM, Int.ofNat_lt, Int.ofNat_le, e, hH.1]
      exact ⟨⟨ytk_36 (b' := true) (y := false) h ha hQ, fun z => absurd trivial z⟩, fun z => absurd trivial z⟩
theorem c_ytake {g : am_G} {l : Launch} {σ : am_S} {m a : Nat} {v : Int32} {ts : List (Nat × Int32)} {b : Bool} {o : yp_O} {W H : List Nat} {ns ou : Int32} {w : Bool} {Q : Option Value → am_S → Prop} (h : yZ σ m ts a b o W H ns ou w) (ha : a < ts.length)
    (hQ1 : am_i σ (m + 10) a = v → ∀ σ', yZ σ' m ts (a + 1) b o W H ns ou w → yb_f m σ σ' → Q (some (.int (am_i σ (m + 11) a))) σ') (hQ0 : am_i σ (m + 10) a ≠ v → ∀ σ', yZ σ' m ts a true o W H ns ou w → yb_f m σ σ' → Q (some (.int 0)) σ') : am_C g l mX10_take 0 (am_tp σ, am_us σ) [.ref m, .int v] σ Q := by
  obtain ⟨hH, hT, hP, hW, hHH⟩ := id h
  have hl := hT.1
  refine am_C.go [some (.ref m), some (.int v), none, none] (by decide +kernel) (Nat.le_of_ble_eq_true rfl) rfl (kX10_take_0 ?_)
  simp (disch := omega) only [ax_const, ax_iload, ax_lload, ax_aload, ax_istore, ax_astore, ax_iinc, ax_i2, ax_i2n, ax_l2, ax_lsh, ax_ii, ax_il, ax_li, ax_pop, ax_dup, ax_dup2, ax_if, ax_cmp, ax_acmp, ax_goto, ax_getI, ax_getR, ax_putI, ax_putR, ax_gets, ax_getsT, ax_aldI, ax_aldR, ax_astI, ax_astR, ax_alen, ax_ret, ax_aret, ax_vret, am_st, am_kl, List.getElem?_cons_zero, List.getElem?_cons_succ, List.set_cons_zero, List.set_cons_succ, Value.category, true_and, and_true, if_true, if_false, reduceCtorEq, Bool.false_eq_true, false_implies, forall_const, Option.some.injEq, exists_eq_left', exists_eq_left, Sum.inl.injEq, Sum.inr.injEq, Prod.mk.injEq, nI_toInt, nI_clamp, am_ix_nI, am_ix_0, am_ix_1, am_ix_2, am_ix_3, am_n0, am_n1, am_n2, am_n3, am_n4, am_t0, am_t1, am_t2, am_t3, am_t4, am_tm1, am_nS, am_nP, am_nM, Int.ofNat_lt, Int.ofNat_le, hH.1, hH.r9, hH.s9, hP.1]
  refine ⟨by omega, fun c => ?_, fun c => ?_⟩
  · exact ytk_18 (y := true) h ha (fun σ' k f => hQ1 c σ' (by simpa using k) f)
  · exact ytk_18 (y := false) h ha (fun σ' k f => hQ0 c σ' (by simpa using k) f)
theorem c_yemit {g : am_G} {l : Launch} {σ : am_S} {m a : Nat} {q : Nat × Int32} {ts : List (Nat × Int32)} {b : Bool} {o : yp_O} {W H : List Nat} {ns ou : Int32} {w : Bool} {Q : Option Value → am_S → Prop} (h : yZ σ m ts a b o W H ns ou w) (ho : o.length < 100) (hq1 : q.1 < 100)
    (hQ : ∀ σ', yZ σ' m ts a b (o ++ [q]) W H ns ou w → yb_f m σ σ' → Q none σ') : am_C g l mX10_emit 0 (am_tp σ, am_us σ) [.ref m, .int (nI q.1), .int (yκ q)] σ Q := by
  have h0 := h
  obtain ⟨hH, hT, hP, hW, hHH⟩ := h
  have e18 : am_i σ m 18 = nI o.length := hP.2.2.1.1
  refine am_C.go [some (.ref m), some (.int (nI q.1)), some (.int (yκ q))] (by decide +kernel) (Nat.le_of_ble_eq_true rfl) rfl (kX10_emit_0 ?_)
  simp (disch := omega) only [ax_const, ax_iload, ax_lload, ax_aload, ax_istore, ax_astore, ax_iinc, ax_i2, ax_i2n, ax_l2, ax_lsh, ax_ii, ax_il, ax_li, ax_pop, ax_dup, ax_dup2, ax_if, ax_cmp, ax_acmp, ax_goto, ax_getI, ax_getR, ax_putI, ax_putR, ax_gets, ax_getsT, ax_aldI, ax_aldR, ax_astI, ax_astR, ax_alen, ax_ret, ax_aret, ax_vret, am_st, am_kl, List.getElem?_cons_zero, List.getElem?_cons_succ, List.set_cons_zero, List.set_cons_succ, Value.category, true_and, and_true, if_true, if_false, reduceCtorEq, Bool.false_eq_true, false_implies, forall_const, Option.some.injEq, exists_eq_left', exists_eq_left, Sum.inl.injEq, Sum.inr.injEq, Prod.mk.injEq, nI_toInt, nI_clamp, am_ix_nI, am_ix_0, am_ix_1, am_ix_2, am_ix_3, am_n0, am_n1, am_n2, am_n3, am_n4, am_t0, am_t1, am_t2, am_t3, am_t4, am_tm1, am_nS, am_nP, am_nM, Int.ofNat_lt, Int.ofNat_le, am_sh_wi, am_r_wi, am_tp_wi, am_us_wi, ym_is, ym_io, ym_ij, hH.1, hH.r14, hH.s14, hH.r15, hH.s15, e18]
  have hf : yb_f m σ (am_wi (am_wi (am_wi σ (m + 12) o.length (nI q.1)) (m + 13) o.length (yκ q)) m 18 (nI (o.length + 1))) := ((yb_f.rf.wa (by omega) (by omega)).wa (by omega) (by omega)).wf (by decide) (by decide)
  exact ⟨ho, ho, hQ _ (h0.up hf (hP.emit hq1) hW hHH) hf⟩
theorem c_ylast {g : am_G} {l : Launch} {σ : am_S} {m a : Nat} {ts : List (Nat × Int32)} {b : Bool} {o : yp_O} {W H : List Nat} {ns ou : Int32} {w : Bool} {Q : Option Value → am_S → Prop} (h : yZ σ m ts a b o W H ns ou w) (hl : W.length ≤ 82)
    (hQ : Q (some (.int (nI (W.headD 0)))) σ) : am_C g l mX10_last 0 (am_tp σ, am_us σ) [.ref m] σ Q := by
  obtain ⟨hH, hT, hP, hW, hHH⟩ := h
  have e19 : am_i σ m 19 = nI W.length := hP.2.2.2.1.1
  refine am_C.go [some (.ref m)] (by decide +kernel) (Nat.le_of_ble_eq_true rfl) rfl (kX10_last_0 ?_)
  cases W with
  | nil =>
    have e19 : am_i σ m 19 = 0 := e19
    simp (disch := omega) only [ax_const, ax_iload, ax_lload, ax_aload, ax_istore, ax_astore, ax_iinc, ax_i2, ax_i2n, ax_l2, ax_lsh, ax_ii, ax_il, ax_li, ax_pop, ax_dup, ax_dup2, ax_if, ax_cmp, ax_acmp, ax_goto, ax_getI, ax_getR, ax_putI, ax_putR, ax_gets, ax_getsT, ax_aldI, ax_aldR, ax_astI, ax_astR, ax_alen, ax_ret, ax_aret, ax_vret, am_st, am_kl, List.getElem?_cons_zero, List.getElem?_cons_succ, List.set_cons_zero, List.set_cons_succ, Value.category, true_and, and_true, if_true, if_false, reduceCtorEq, Bool.false_eq_true, false_implies, forall_const, Option.some.injEq, exists_eq_left', exists_eq_left, Sum.inl.injEq, Sum.inr.injEq, Prod.mk.injEq, nI_toInt, nI_clamp, am_ix_nI, am_ix_0, am_ix_1, am_ix_2, am_ix_3, am_n0, am_n1, am_n2, am_n3, am_n4, am_t0, am_t1, am_t2, am_t3, am_t4, am_tm1, am_nS, am_nP, am_nM, Int.ofNat_lt, Int.ofNat_le, hH.1, e19]
    exact ⟨fun z => absurd z (by decide), fun _ => hQ⟩
  | cons x W =>
    rw [List.length_cons] at e19 hl
    have ev : am_i σ (m + 14) W.length = nI x := hP.pop.2
    simp (disch := omega) only [ax_const, ax_iload, ax_lload, ax_aload, ax_istore, ax_astore, ax_iinc, ax_i2, ax_i2n, ax_l2, ax_lsh, ax_ii, ax_il, ax_li, ax_pop, ax_dup, ax_dup2, ax_if, ax_cmp, ax_acmp, ax_goto, ax_getI, ax_getR, ax_putI, ax_putR, ax_gets, ax_getsT, ax_aldI, ax_aldR, ax_astI, ax_astR, ax_alen, ax_ret, ax_aret, ax_vret, am_st, am_kl, List.getElem?_cons_zero, List.getElem?_cons_succ, List.set_cons_zero, List.set_cons_succ, Value.category, true_and, and_true, if_true, if_false, reduceCtorEq, Bool.false_eq_true, false_implies, forall_const, Option.some.injEq, exists_eq_left', exists_eq_left, Sum.inl.injEq, Sum.inr.injEq, Prod.mk.injEq, nI_toInt, nI_clamp, am_ix_nI, am_ix_0, am_ix_1, am_ix_2, am_ix_3, am_n0, am_n1, am_n2, am_n3, am_n4, am_t0, am_t1, am_t2, am_t3, am_t4, am_tm1, am_nS, am_nP, am_nM, Int.ofNat_lt, Int.ofNat_le, hH.1, hH.r16, hH.s16, e19, yl_t0, yl_m1, Nat.add_sub_cancel, ev]
    exact ⟨fun _ => ⟨by omega, hQ⟩, fun z => by omega⟩
theorem yκ_op {w : Nat} (hw : w ≠ 2) : yκ (w, 0) = 0 := if_neg hw
theorem ysg_len : ∀ (W : List Nat) (n : Int32) (o : yp_O), (yp_sg W n o).1.length + (yp_sg W n o).2.1.length = o.length + W.length
  | [], n, o => rfl
  | w :: W, n, o => by
    rw [yp_sg]
    split
    · rw [ysg_len W _ _, List.length_append, List.length_cons, List.length_cons, List.length_nil]
      omega
    · rfl
theorem c_ysigns0 {g : am_G} {l : Launch} {m a d tp us : Nat} {ts : List (Nat × Int32)} {b : Bool} {H : List Nat} {ou : Int32} {w : Bool} {Q : Option Value → am_S → Prop} (hd : 1 ≤ d) : ∀ (W : List Nat) (σ : am_S) (ns : Int32) (o : yp_O), yZ σ m ts a b o W H ns ou w → o.length + W.length ≤ 99 → W.length ≤ 82 → am_tp σ = tp → am_us σ = us →
    (∀ σ', yZ σ' m ts a b (yp_sg W ns o).1 (yp_sg W ns o).2.1 H (yp_sg W ns o).2.2 ou w → yb_f m σ σ' → Q none σ') → am_W g l mX10_signs d (tp, us) Q 0 [some (.ref m)] [] σ := by
  intro W
  induction W with
  | nil =>
    intro σ ns o h hl hl2 h1 h2 hQ
    refine kX10_signs_0 ?_
    simp (disch := omega) only [ax_const, ax_iload, ax_lload, ax_aload, ax_istore, ax_astore, ax_iinc, ax_i2, ax_i2n, ax_l2, ax_lsh, ax_ii, ax_il, ax_li, ax_pop, ax_dup, ax_dup2, ax_if, ax_cmp, ax_acmp, ax_goto, ax_getI, ax_getR, ax_putI, ax_putR, ax_gets, ax_getsT, ax_aldI, ax_aldR, ax_astI, ax_astR, ax_alen, ax_ret, ax_aret, ax_vret, am_st, am_kl, List.getElem?_cons_zero, List.getElem?_cons_succ, List.set_cons_zero, List.set_cons_succ, Value.category, true_and, and_true, if_true, if_false, reduceCtorEq, Bool.false_eq_true, false_implies, forall_const, Option.some.injEq, exists_eq_left', exists_eq_left, Sum.inl.injEq, Sum.inr.injEq, Prod.mk.injEq, nI_toInt, nI_clamp, am_ix_nI, am_ix_0, am_ix_1, am_ix_2, am_ix_3, am_n0, am_n1, am_n2, am_n3, am_n4, am_t0, am_t1, am_t2, am_t3, am_t4, am_tm1, am_nS, am_nP, am_nM, Int.ofNat_lt, Int.ofNat_le]
    refine am_callK [.ref m] [] (d' := 0) (lim' := (am_tp σ, am_us σ)) rfl (by omega) (by rw [h1]; exact Nat.le_refl _) (by rw [h2]; exact Nat.le_refl _) rfl (by decide) (am_recv h.1.1) ?_
    refine c_ylast h hl2 (fun _ _ => ?_)
    simp (disch := omega) only [ax_const, ax_iload, ax_lload, ax_aload, ax_istore, ax_astore, ax_iinc, ax_i2, ax_i2n, ax_l2, ax_lsh, ax_ii, ax_il, ax_li, ax_pop, ax_dup, ax_dup2, ax_if, ax_cmp, ax_acmp, ax_goto, ax_getI, ax_getR, ax_putI, ax_putR, ax_gets, ax_getsT, ax_aldI, ax_aldR, ax_astI, ax_astR, ax_alen, ax_ret, ax_aret, ax_vret, am_st, am_kl, List.getElem?_cons_zero, List.getElem?_cons_succ, List.set_cons_zero, List.set_cons_succ, Value.category, true_and, and_true, if_true, if_false, reduceCtorEq, Bool.false_eq_true, false_implies, forall_const, Option.some.injEq, exists_eq_left', exists_eq_left, Sum.inl.injEq, Sum.inr.injEq, Prod.mk.injEq, nI_toInt, nI_clamp, am_ix_nI, am_ix_0, am_ix_1, am_ix_2, am_ix_3, am_n0, am_n1, am_n2, am_n3, am_n4, am_t0, am_t1, am_t2, am_t3, am_t4, am_tm1, am_nS, am_nP, am_nM, Int.ofNat_lt, Int.ofNat_le, Option.toList_some, Option.toList_none, List.cons_append, List.nil_append, List.append_nil, yl_6, List.headD_nil, yl_eq]
    exact fun _ => ⟨h1, h2, hQ σ h .rf⟩
  | cons x W ih =>
    intro σ ns o h hl hl2 h1 h2 hQ
    obtain ⟨hH, hT, hP, hW, hHH⟩ := id h
    have hx := hW x List.mem_cons_self
    rw [List.length_cons] at hl hl2
    have e19 : am_i σ m 19 = nI (W.length + 1) := hP.2.2.2.1.1
    have e21 : am_i σ m 21 = ns := hP.2.2.2.2.2.1
    rw [yp_sg] at hQ
    refine kX10_signs_0 ?_
    simp (disch := omega) only [ax_const, ax_iload, ax_lload, ax_aload, ax_istore, ax_astore, ax_iinc, ax_i2, ax_i2n, ax_l2, ax_lsh, ax_ii, ax_il, ax_li, ax_pop, ax_dup, ax_dup2, ax_if, ax_cmp, ax_acmp, ax_goto, ax_getI, ax_getR, ax_putI, ax_putR, ax_gets, ax_getsT, ax_aldI, ax_aldR, ax_astI, ax_astR, ax_alen, ax_ret, ax_aret, ax_vret, am_st, am_kl, List.getElem?_cons_zero, List.getElem?_cons_succ, List.set_cons_zero, List.set_cons_succ, Value.category, true_and, and_true, if_true, if_false, reduceCtorEq, Bool.false_eq_true, false_implies, forall_const, Option.some.injEq, exists_eq_left', exists_eq_left, Sum.inl.injEq, Sum.inr.injEq, Prod.mk.injEq, nI_toInt, nI_clamp, am_ix_nI, am_ix_0, am_ix_1, am_ix_2, am_ix_3, am_n0, am_n1, am_n2, am_n3, am_n4, am_t0, am_t1, am_t2, am_t3, am_t4, am_tm1, am_nS, am_nP, am_nM, Int.ofNat_lt, Int.ofNat_le]
    refine am_callK [.ref m] [] (d' := 0) (lim' := (am_tp σ, am_us σ)) rfl (by omega) (by rw [h1]; exact Nat.le_refl _) (by rw [h2]; exact Nat.le_refl _) rfl (by decide) (am_recv hH.1) ?_
    refine c_ylast h (by rw [List.length_cons]; exact hl2) (fun _ _ => ?_)
    simp (disch := omega) only [ax_const, ax_iload, ax_lload, ax_aload, ax_istore, ax_astore, ax_iinc, ax_i2, ax_i2n, ax_l2, ax_lsh, ax_ii, ax_il, ax_li, ax_pop, ax_dup, ax_dup2, ax_if, ax_cmp, ax_acmp, ax_goto, ax_getI, ax_getR, ax_putI, ax_putR, ax_gets, ax_getsT, ax_aldI, ax_aldR, ax_astI, ax_astR, ax_alen, ax_ret, ax_aret, ax_vret, am_st, am_kl, List.getElem?_cons_zero, List.getElem?_cons_succ, List.set_cons_zero, List.set_cons_succ, Value.category, true_and, and_true, if_true, if_false, reduceCtorEq, Bool.false_eq_true, false_implies, forall_const, Option.some.injEq, exists_eq_left', exists_eq_left, Sum.inl.injEq, Sum.inr.injEq, Prod.mk.injEq, nI_toInt, nI_clamp, am_ix_nI, am_ix_0, am_ix_1, am_ix_2, am_ix_3, am_n0, am_n1, am_n2, am_n3, am_n4, am_t0, am_t1, am_t2, am_t3, am_t4, am_tm1, am_nS, am_nP, am_nM, Int.ofNat_lt, Int.ofNat_le, Option.toList_some, Option.toList_none, List.cons_append, List.nil_append, List.append_nil, yl_6, List.headD_cons, yl_eq]
    refine ⟨fun c => ?_, fun c => ⟨h1, h2, ?_⟩⟩
    · rw [if_pos c] at hQ
      simp (disch := omega) only [ax_const, ax_iload, ax_lload, ax_aload, ax_istore, ax_astore, ax_iinc, ax_i2, ax_i2n, ax_l2, ax_lsh, ax_ii, ax_il, ax_li, ax_pop, ax_dup, ax_dup2, ax_if, ax_cmp, ax_acmp, ax_goto, ax_getI, ax_getR, ax_putI, ax_putR, ax_gets, ax_getsT, ax_aldI, ax_aldR, ax_astI, ax_astR, ax_alen, ax_ret, ax_aret, ax_vret, am_st, am_kl, List.getElem?_cons_zero, List.getElem?_cons_succ, List.set_cons_zero, List.set_cons_succ, Value.category, true_and, and_true, if_true, if_false, reduceCtorEq, Bool.false_eq_true, false_implies, forall_const, Option.some.injEq, exists_eq_left', exists_eq_left, Sum.inl.injEq, Sum.inr.injEq, Prod.mk.injEq, nI_toInt, nI_clamp, am_ix_nI, am_ix_0, am_ix_1, am_ix_2, am_ix_3, am_n0, am_n1, am_n2, am_n3, am_n4, am_t0, am_t1, am_t2, am_t3, am_t4, am_tm1, am_nS, am_nP, am_nM, Int.ofNat_lt, Int.ofNat_le, am_sh_wi, am_r_wi, am_tp_wi, am_us_wi, ym_is, ym_io, ym_ij, hH.1, e19, e21, yl_m1, Nat.add_sub_cancel]
      have hf : yb_f m σ (am_wi (am_wi σ m 19 (nI W.length)) m 21 (ns - 1)) := (yb_f.rf.wf (by decide) (by decide)).wf (by decide) (by decide)
      have h' : yZ (am_wi (am_wi σ m 19 (nI W.length)) m 21 (ns - 1)) m ts a b o W H (ns - 1) ou w := h.up hf (hP.pop.1.nsw _) (fun y hy => hW y (List.mem_cons_of_mem _ hy)) hHH
      have h1' := hf.tp.trans h1
      have h2' := hf.us.trans h2
      generalize am_wi (am_wi σ m 19 (nI W.length)) m 21 (ns - 1) = σ1 at *
      refine am_callK [.ref m, .int (nI 6), .int (yκ (6, 0))] [] (d' := 0) (lim' := (am_tp σ1, am_us σ1)) rfl (by omega) (by rw [h1']; exact Nat.le_refl _) (by rw [h2']; exact Nat.le_refl _) rfl (by decide) (am_recv h'.1.1) ?_
      refine c_yemit (q := (6, 0)) h' (by omega) (show (6 : Nat) < 100 by decide) (fun σ2 k2 f2 t2 u2 => ?_)
      simp (disch := omega) only [ax_const, ax_iload, ax_lload, ax_aload, ax_istore, ax_astore, ax_iinc, ax_i2, ax_i2n, ax_l2, ax_lsh, ax_ii, ax_il, ax_li, ax_pop, ax_dup, ax_dup2, ax_if, ax_cmp, ax_acmp, ax_goto, ax_getI, ax_getR, ax_putI, ax_putR, ax_gets, ax_getsT, ax_aldI, ax_aldR, ax_astI, ax_astR, ax_alen, ax_ret, ax_aret, ax_vret, am_st, am_kl, List.getElem?_cons_zero, List.getElem?_cons_succ, List.set_cons_zero, List.set_cons_succ, Value.category, true_and, and_true, if_true, if_false, reduceCtorEq, Bool.false_eq_true, false_implies, forall_const, Option.some.injEq, exists_eq_left', exists_eq_left, Sum.inl.injEq, Sum.inr.injEq, Prod.mk.injEq, Option.toList_some, Option.toList_none, List.cons_append, List.nil_append, List.append_nil]
      exact ih σ2 (ns - 1) (o ++ [(6, 0)]) k2 (by rw [List.length_append]; simp; omega) (by omega) (t2.trans h1') (u2.trans h2') (fun σ3 k3 f3 => hQ σ3 k3 ((hf.tr f2).tr f3))
    · rw [if_neg c] at hQ
      exact hQ σ h .rf
theorem c_ysigns {g : am_G} {l : Launch} {σ : am_S} {m a : Nat} {ts : List (Nat × Int32)} {b : Bool} {o : yp_O} {W H : List Nat} {ns ou : Int32} {w : Bool} {Q : Option Value → am_S → Prop} (h : yZ σ m ts a b o W H ns ou w) (hl : o.length + W.length ≤ 99) (hl2 : W.length ≤ 82)
    (hQ : ∀ σ', yZ σ' m ts a b (yp_sg W ns o).1 (yp_sg W ns o).2.1 H (yp_sg W ns o).2.2 ou w → yb_f m σ σ' → Q none σ') : am_C g l mX10_signs 1 (am_tp σ, am_us σ) [.ref m] σ Q := by
  exact am_C.go [some (.ref m)] (by decide +kernel) (Nat.le_of_ble_eq_true rfl) rfl (c_ysigns0 (Nat.le_refl _) W σ ns o h hl hl2 rfl rfl hQ)
theorem c_yunhold {g : am_G} {l : Launch} {σ : am_S} {m a x : Nat} {ts : List (Nat × Int32)} {b : Bool} {o : yp_O} {W H : List Nat} {ns ou : Int32} {w : Bool} {Q : Option Value → am_S → Prop} (h : yZ σ m ts a b o W (x :: H) ns ou w) (ho : o.length < 100) (hl : H.length < 82)
    (hQ : ∀ σ', yZ σ' m ts a b (o ++ [(x, 0)]) W H ns ou w → yb_f m σ σ' → Q none σ') : am_C g l mX10_unhold 1 (am_tp σ, am_us σ) [.ref m] σ Q := by
  obtain ⟨hH, hT, hP, hW, hHH⟩ := id h
  have e20 : am_i σ m 20 = nI (H.length + 1) := hP.2.2.2.2.1.1
  obtain ⟨p1, p2⟩ := hP.hpop
  have hx2 : x ≠ 2 ∧ x < 100 := by have := hHH x List.mem_cons_self; omega
  refine am_C.go [some (.ref m)] (by decide +kernel) (Nat.le_of_ble_eq_true rfl) rfl (kX10_unhold_0 ?_)
  simp (disch := omega) only [ax_const, ax_iload, ax_lload, ax_aload, ax_istore, ax_astore, ax_iinc, ax_i2, ax_i2n, ax_l2, ax_lsh, ax_ii, ax_il, ax_li, ax_pop, ax_dup, ax_dup2, ax_if, ax_cmp, ax_acmp, ax_goto, ax_getI, ax_getR, ax_putI, ax_putR, ax_gets, ax_getsT, ax_aldI, ax_aldR, ax_astI, ax_astR, ax_alen, ax_ret, ax_aret, ax_vret, am_st, am_kl, List.getElem?_cons_zero, List.getElem?_cons_succ, List.set_cons_zero, List.set_cons_succ, Value.category, true_and, and_true, if_true, if_false, reduceCtorEq, Bool.false_eq_true, false_implies, forall_const, Option.some.injEq, exists_eq_left', exists_eq_left, Sum.inl.injEq, Sum.inr.injEq, Prod.mk.injEq, nI_toInt, nI_clamp, am_ix_nI, am_ix_0, am_ix_1, am_ix_2, am_ix_3, am_n0, am_n1, am_n2, am_n3, am_n4, am_t0, am_t1, am_t2, am_t3, am_t4, am_tm1, am_nS, am_nP, am_nM, Int.ofNat_lt, Int.ofNat_le, am_sh_wi, am_r_wi, am_tp_wi, am_us_wi, ym_is, ym_io, ym_ij, hH.1, hH.r17, hH.s17, e20, yl_m1, Nat.add_sub_cancel, p2]
  have hf : yb_f m σ (am_wi σ m 20 (nI H.length)) := yb_f.rf.wf (by decide) (by decide)
  have h' : yZ (am_wi σ m 20 (nI H.length)) m ts a b o W H ns ou w := h.up hf p1 hW (fun y hy => hHH y (List.mem_cons_of_mem _ hy))
  have h1' := hf.tp
  have h2' := hf.us
  generalize am_wi σ m 20 (nI H.length) = σ1 at *
  refine ⟨by omega, ?_⟩
  refine am_callK [.ref m, .int (nI x), .int (yκ (x, 0))] [] (d' := 0) (lim' := (am_tp σ1, am_us σ1)) (by rw [yκ_op hx2.1]; rfl) (by omega) (by rw [h1']; exact Nat.le_refl _) (by rw [h2']; exact Nat.le_refl _) rfl (by decide) (am_recv h'.1.1) ?_
  refine c_yemit (q := (x, 0)) h' ho hx2.2 (fun σ2 k2 f2 t2 u2 => ?_)
  simp (disch := omega) only [ax_const, ax_iload, ax_lload, ax_aload, ax_istore, ax_astore, ax_iinc, ax_i2, ax_i2n, ax_l2, ax_lsh, ax_ii, ax_il, ax_li, ax_pop, ax_dup, ax_dup2, ax_if, ax_cmp, ax_acmp, ax_goto, ax_getI, ax_getR, ax_putI, ax_putR, ax_gets, ax_getsT, ax_aldI, ax_aldR, ax_astI, ax_astR, ax_alen, ax_ret, ax_aret, ax_vret, am_st, am_kl, List.getElem?_cons_zero, List.getElem?_cons_succ, List.set_cons_zero, List.set_cons_succ, Value.category, true_and, and_true, if_true, if_false, reduceCtorEq, Bool.false_eq_true, false_implies, forall_const, Option.some.injEq, exists_eq_left', exists_eq_left, Sum.inl.injEq, Sum.inr.injEq, Prod.mk.injEq, Option.toList_some, Option.toList_none, List.cons_append, List.nil_append, List.append_nil]
  exact ⟨t2.trans h1', u2.trans h2', hQ σ2 k2 (hf.tr f2)⟩
theorem c_ykeep {g : am_G} {l : Launch} {σ : am_S} {m a x : Nat} {ts : List (Nat × Int32)} {b : Bool} {o : yp_O} {W H : List Nat} {ns ou : Int32} {w : Bool} {Q : Option Value → am_S → Prop} (h : yZ σ m ts a b o W H ns ou w) (hl : H.length < 82) (hx : 3 ≤ x ∧ x ≤ 13)
    (hQ : ∀ σ', yZ σ' m ts a b o W (x :: H) ns ou w → yb_f m σ σ' → Q none σ') : am_C g l mX10_keep 0 (am_tp σ, am_us σ) [.ref m, .int (nI x)] σ Q := by
  obtain ⟨hH, hT, hP, hW, hHH⟩ := id h
  have e20 : am_i σ m 20 = nI H.length := hP.2.2.2.2.1.1
  refine am_C.go [some (.ref m), some (.int (nI x))] (by decide +kernel) (Nat.le_of_ble_eq_true rfl) rfl (kX10_keep_0 ?_)
  simp (disch := omega) only [ax_const, ax_iload, ax_lload, ax_aload, ax_istore, ax_astore, ax_iinc, ax_i2, ax_i2n, ax_l2, ax_lsh, ax_ii, ax_il, ax_li, ax_pop, ax_dup, ax_dup2, ax_if, ax_cmp, ax_acmp, ax_goto, ax_getI, ax_getR, ax_putI, ax_putR, ax_gets, ax_getsT, ax_aldI, ax_aldR, ax_astI, ax_astR, ax_alen, ax_ret, ax_aret, ax_vret, am_st, am_kl, List.getElem?_cons_zero, List.getElem?_cons_succ, List.set_cons_zero, List.set_cons_succ, Value.category, true_and, and_true, if_true, if_false, reduceCtorEq, Bool.false_eq_true, false_implies, forall_const, Option.some.injEq, exists_eq_left', exists_eq_left, Sum.inl.injEq, Sum.inr.injEq, Prod.mk.injEq, nI_toInt, nI_clamp, am_ix_nI, am_ix_0, am_ix_1, am_ix_2, am_ix_3, am_n0, am_n1, am_n2, am_n3, am_n4, am_t0, am_t1, am_t2, am_t3, am_t4, am_tm1, am_nS, am_nP, am_nM, Int.ofNat_lt, Int.ofNat_le, am_sh_wi, am_r_wi, am_tp_wi, am_us_wi, ym_is, ym_io, ym_ij, hH.1, hH.r17, hH.s17, e20]
  have hf : yb_f m σ (am_wi (am_wi σ (m + 15) H.length (nI x)) m 20 (nI (H.length + 1))) := (yb_f.rf.wa (by omega) (by omega)).wf (by decide) (by decide)
  exact ⟨hl, hQ _ (h.up hf hP.hpush hW (fun y hy => (List.mem_cons.mp hy).elim (fun e => by rw [e]; exact hx) (hHH y))) hf⟩
