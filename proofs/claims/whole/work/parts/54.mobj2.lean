/-! the reference: begin, commit, abort, checkpoint, crash, cut -/
theorem xo_due_eq {C U C' U' : Nat → List xr_E} (hC : ∀ t, t < 2 → C t = C' t) (hU : ∀ t, t < 2 → U t = U' t) : xo_due C U = xo_due C' U' := by
  have e : ∀ t, t < 2 → xo_df C U t = xo_df C' U' t := fun t ht => by unfold xo_df; rw [hC t ht, hU t ht]
  show xo_mk (xo_df C U 0 + (xo_df C U 1 + 0)) = xo_mk (xo_df C' U' 0 + (xo_df C' U' 1 + 0))
  rw [e 0 (by decide), e 1 (by decide)]
theorem c_yopen {g : am_G} {l : Launch} {σ : am_S} {m i : Nat} {D : xx_D} {Q : Option Value → am_S → Prop} (h : ym_O σ m D) (hi : i < 4) (hQ : ∀ σ', ym_O σ' m (xx_ds D (D.1 i) (D.2.1 (D.1 i)) (D.2.1 (D.1 i)) (nI i) (D.2.2.2.2.1 (D.1 i))) → ym_f (fun b => m + 2 ≤ b ∧ b ≤ m + 7) σ σ' → Q none σ') : am_C g l mX10_open 2 (am_tp σ, am_us σ) [.ref m, .int (nI i)] σ Q := by
  have H := h.1
  have h0 := h
  obtain ⟨a1, a2, ⟨P, a3, a4⟩, a5, a6⟩ := h
  obtain ⟨b1, b2⟩ := a2 i hi
  obtain ⟨b3, b4, b5⟩ := a5 (D.1 i) b2
  refine am_C.go [some (.ref m), some (.int (nI i))] (by decide +kernel) (Nat.le_of_ble_eq_true rfl) rfl (kX10_open_0 ?_)
  simp (disch := omega) only [ax_const, ax_iload, ax_lload, ax_aload, ax_istore, ax_astore, ax_iinc, ax_i2, ax_i2n, ax_l2, ax_lsh, ax_ii, ax_il, ax_li, ax_pop, ax_dup, ax_dup2, ax_if, ax_cmp, ax_acmp, ax_goto, ax_getI, ax_getR, ax_putI, ax_putR, ax_gets, ax_getsT, ax_aldI, ax_aldR, ax_astI, ax_astR, ax_alen, ax_ret, ax_aret, ax_vret, am_st, am_kl, List.getElem?_cons_zero, List.getElem?_cons_succ, List.set_cons_zero, List.set_cons_succ, Value.category, true_and, and_true, if_true, if_false, reduceCtorEq, Bool.false_eq_true, false_implies, forall_const, Option.some.injEq, exists_eq_left', exists_eq_left, Sum.inl.injEq, Sum.inr.injEq, Prod.mk.injEq, nI_toInt, nI_clamp, am_ix_nI, am_ix_0, am_ix_1, am_ix_2, am_ix_3, am_n0, am_n1, am_n2, am_n3, am_n4, am_t0, am_t1, am_t2, am_t3, am_t4, am_tm1, am_nS, am_nP, am_nM, Int.ofNat_lt, Int.ofNat_le, H.1, H.r0, H.s0, b1]
  refine ⟨hi, ?_⟩
  refine am_callK [.ref m, .int (nI (D.1 i)), .int (nI 0), .int (nI 1)] [] (d' := 1) (lim' := (am_tp σ, am_us σ)) rfl (by decide) (Nat.le_refl _) (Nat.le_refl _) rfl (Nat.le_of_ble_eq_true rfl) (am_recv H.1) ?_
  refine c_ycopy H a3 b2 (by decide) (by decide) (by decide) (fun σ' hP hf t1 u1 => ?_)
  have H' := H.f hf
  have b1' : am_i σ' (m + 1) i = nI (D.1 i) := by rw [hf.i (by omega)]; exact b1
  simp (disch := omega) only [ax_const, ax_iload, ax_lload, ax_aload, ax_istore, ax_astore, ax_iinc, ax_i2, ax_i2n, ax_l2, ax_lsh, ax_ii, ax_il, ax_li, ax_pop, ax_dup, ax_dup2, ax_if, ax_cmp, ax_acmp, ax_goto, ax_getI, ax_getR, ax_putI, ax_putR, ax_gets, ax_getsT, ax_aldI, ax_aldR, ax_astI, ax_astR, ax_alen, ax_ret, ax_aret, ax_vret, am_st, am_kl, List.getElem?_cons_zero, List.getElem?_cons_succ, List.set_cons_zero, List.set_cons_succ, Value.category, true_and, and_true, if_true, if_false, reduceCtorEq, Bool.false_eq_true, false_implies, forall_const, Option.some.injEq, exists_eq_left', exists_eq_left, Sum.inl.injEq, Sum.inr.injEq, Prod.mk.injEq, nI_toInt, nI_clamp, am_ix_nI, am_ix_0, am_ix_1, am_ix_2, am_ix_3, am_n0, am_n1, am_n2, am_n3, am_n4, am_t0, am_t1, am_t2, am_t3, am_t4, am_tm1, am_nS, am_nP, am_nM, Int.ofNat_lt, Int.ofNat_le, Option.toList_some, Option.toList_none, List.cons_append, List.nil_append, List.append_nil, am_sh_wi, am_r_wi, am_tp_wi, am_us_wi, ym_is, ym_io, ym_ij, H'.1, H'.r0, H'.s0, H'.r5, H'.s5, b1']
  have hf' : ym_f (fun b => m + 2 ≤ b ∧ b ≤ m + 7) σ (am_wi σ' (m + 6) (D.1 i) (nI (i + 1))) := (hf.mono (fun b x => by omega)).wi (a := m + 6) (by omega)
  refine ⟨hi, b2, t1, u1, hQ _ (h0.store a4 b2 hf' (hP.f (Q := fun b => b = m + 6) (ym_f.rf.wi rfl) (by omega) (by omega) (by omega) (by omega)) (fun t ht => ?_) (fun lb hlb hne t ht => ?_) ?_ ?_ b5 (fun q hq => ?_) (fun q hq => ?_)) hf'⟩
  · refine ⟨?_, fun _ => ?_⟩
    · rw [ym_cp_out b2 b2 ht (Or.inl (by decide))]; exact (a4 _ b2 t ht).1
    · rw [ym_cp_in b2 ht (by decide)]; exact (a4 _ b2 t ht).1
  · exact ⟨ym_cp_out b2 hlb ht (Or.inr hne), ym_cp_out b2 hlb ht (Or.inr hne)⟩
  · rw [ym_is]; exact .own hi
  · rw [ym_io (by omega), hf.i (by omega)]; exact b4
  · rw [ym_ij hq, hf.i (by omega)]
  · rw [ym_io (by omega), hf.i (by omega)]
theorem c_ybegin {g : am_G} {l : Launch} {σ : am_S} {m : Nat} {D : xx_D} {s : Int32} {Q : Option Value → am_S → Prop} (h : ym_O σ m D) (hQ0 : ¬ xx_in s → Q (some (.int (-1))) σ) (hQ1 : ∀ i, i < 4 → s = nI i → D.2.2.2.1 (D.1 i) ≠ -1 → Q (some (.int (-6))) σ)
    (hQ2 : ∀ i, i < 4 → s = nI i → D.2.2.2.1 (D.1 i) = -1 → ∀ σ', ym_O σ' m (xx_ds D (D.1 i) (D.2.1 (D.1 i)) (D.2.1 (D.1 i)) (nI i) (D.2.2.2.2.1 (D.1 i))) → ym_fr m σ σ' → Q (some (.int 0)) σ') : am_C g l mX10_begin 3 (am_tp σ, am_us σ) [.ref m, .int s] σ Q := by
  have H := h.1
  have o1 : ¬ (1 : Int32) = 0 := by decide
  refine am_C.go [some (.ref m), some (.int s), none] (by decide +kernel) (Nat.le_of_ble_eq_true rfl) rfl (kX10_begin_0 ?_)
  simp (disch := omega) only [ax_const, ax_iload, ax_lload, ax_aload, ax_istore, ax_astore, ax_iinc, ax_i2, ax_i2n, ax_l2, ax_lsh, ax_ii, ax_il, ax_li, ax_pop, ax_dup, ax_dup2, ax_if, ax_cmp, ax_acmp, ax_goto, ax_getI, ax_getR, ax_putI, ax_putR, ax_gets, ax_getsT, ax_aldI, ax_aldR, ax_astI, ax_astR, ax_alen, ax_ret, ax_aret, ax_vret, am_st, am_kl, List.getElem?_cons_zero, List.getElem?_cons_succ, List.set_cons_zero, List.set_cons_succ, Value.category, true_and, and_true, if_true, if_false, reduceCtorEq, Bool.false_eq_true, false_implies, forall_const, Option.some.injEq, exists_eq_left', exists_eq_left, Sum.inl.injEq, Sum.inr.injEq, Prod.mk.injEq, nI_toInt, nI_clamp, am_ix_nI, am_ix_0, am_ix_1, am_ix_2, am_ix_3, am_n0, am_n1, am_n2, am_n3, am_n4, am_t0, am_t1, am_t2, am_t3, am_t4, am_tm1, am_nS, am_nP, am_nM, Int.ofNat_lt, Int.ofNat_le]
  refine am_callK [.int s] [] (d' := 0) (lim' := (am_tp σ, am_us σ)) rfl (by decide) (Nat.le_refl _) (Nat.le_refl _) rfl (Nat.le_of_ble_eq_true rfl) am_stat ?_
  refine c_yisSession (fun _ _ => ?_)
  by_cases q : 0 ≤ s.toInt ∧ s.toInt < 4
  · rw [if_pos q]
    obtain ⟨i, hi, rfl⟩ := xx_in.of q
    obtain ⟨b1, b2⟩ := h.2.1 i hi
    obtain ⟨b3, b4, b5⟩ := h.2.2.2.1 (D.1 i) b2
    simp (disch := omega) only [ax_const, ax_iload, ax_lload, ax_aload, ax_istore, ax_astore, ax_iinc, ax_i2, ax_i2n, ax_l2, ax_lsh, ax_ii, ax_il, ax_li, ax_pop, ax_dup, ax_dup2, ax_if, ax_cmp, ax_acmp, ax_goto, ax_getI, ax_getR, ax_putI, ax_putR, ax_gets, ax_getsT, ax_aldI, ax_aldR, ax_astI, ax_astR, ax_alen, ax_ret, ax_aret, ax_vret, am_st, am_kl, List.getElem?_cons_zero, List.getElem?_cons_succ, List.set_cons_zero, List.set_cons_succ, Value.category, true_and, and_true, if_true, if_false, reduceCtorEq, Bool.false_eq_true, false_implies, forall_const, Option.some.injEq, exists_eq_left', exists_eq_left, Sum.inl.injEq, Sum.inr.injEq, Prod.mk.injEq, nI_toInt, nI_clamp, am_ix_nI, am_ix_0, am_ix_1, am_ix_2, am_ix_3, am_n0, am_n1, am_n2, am_n3, am_n4, am_t0, am_t1, am_t2, am_t3, am_t4, am_tm1, am_nS, am_nP, am_nM, Int.ofNat_lt, Int.ofNat_le, Option.toList_some, Option.toList_none, List.cons_append, List.nil_append, List.append_nil, o1, H.1, H.r0, H.s0, H.r5, H.s5, b1, b3.pos]
    refine fun _ => ⟨hi, b2, fun c => hQ1 i hi rfl c, fun c => ?_⟩
    refine am_callK [.ref m, .int (nI i)] [] (d' := 2) (lim' := (am_tp σ, am_us σ)) rfl (by decide) (Nat.le_refl _) (Nat.le_refl _) rfl (Nat.le_of_ble_eq_true rfl) (am_recv H.1) ?_
    refine c_yopen h hi (fun σ' hO hf t1 u1 => ?_)
    simp (disch := omega) only [ax_const, ax_iload, ax_lload, ax_aload, ax_istore, ax_astore, ax_iinc, ax_i2, ax_i2n, ax_l2, ax_lsh, ax_ii, ax_il, ax_li, ax_pop, ax_dup, ax_dup2, ax_if, ax_cmp, ax_acmp, ax_goto, ax_getI, ax_getR, ax_putI, ax_putR, ax_gets, ax_getsT, ax_aldI, ax_aldR, ax_astI, ax_astR, ax_alen, ax_ret, ax_aret, ax_vret, am_st, am_kl, List.getElem?_cons_zero, List.getElem?_cons_succ, List.set_cons_zero, List.set_cons_succ, Value.category, true_and, and_true, if_true, if_false, reduceCtorEq, Bool.false_eq_true, false_implies, forall_const, Option.some.injEq, exists_eq_left', exists_eq_left, Sum.inl.injEq, Sum.inr.injEq, Prod.mk.injEq, Option.toList_some, Option.toList_none, List.cons_append, List.nil_append, List.append_nil]
    exact ⟨t1, u1, hQ2 i hi rfl (Classical.not_not.mp c) σ' hO (hf.mono (fun b x => by omega))⟩
  · rw [if_neg q]
    simp (disch := omega) only [ax_const, ax_iload, ax_lload, ax_aload, ax_istore, ax_astore, ax_iinc, ax_i2, ax_i2n, ax_l2, ax_lsh, ax_ii, ax_il, ax_li, ax_pop, ax_dup, ax_dup2, ax_if, ax_cmp, ax_acmp, ax_goto, ax_getI, ax_getR, ax_putI, ax_putR, ax_gets, ax_getsT, ax_aldI, ax_aldR, ax_astI, ax_astR, ax_alen, ax_ret, ax_aret, ax_vret, am_st, am_kl, List.getElem?_cons_zero, List.getElem?_cons_succ, List.set_cons_zero, List.set_cons_succ, Value.category, true_and, and_true, if_true, if_false, reduceCtorEq, Bool.false_eq_true, false_implies, forall_const, Option.some.injEq, exists_eq_left', exists_eq_left, Sum.inl.injEq, Sum.inr.injEq, Prod.mk.injEq, nI_toInt, nI_clamp, am_ix_nI, am_ix_0, am_ix_1, am_ix_2, am_ix_3, am_n0, am_n1, am_n2, am_n3, am_n4, am_t0, am_t1, am_t2, am_t3, am_t4, am_tm1, am_nS, am_nP, am_nM, Int.ofNat_lt, Int.ofNat_le, Option.toList_some, Option.toList_none, List.cons_append, List.nil_append, List.append_nil]
    exact ⟨hQ0 q, fun z => absurd trivial z⟩
theorem c_yabort {g : am_G} {l : Launch} {σ : am_S} {m : Nat} {D : xx_D} {s : Int32} {Q : Option Value → am_S → Prop} (h : ym_O σ m D) (hQ0 : ¬ xx_in s → Q (some (.int (-1))) σ) (hQ1 : ∀ i, i < 4 → s = nI i → D.2.2.2.1 (D.1 i) ≠ nI i → Q (some (.int (-8))) σ)
    (hQ2 : ∀ i, i < 4 → s = nI i → D.2.2.2.1 (D.1 i) = nI i → ∀ σ', ym_O σ' m (xx_ds D (D.1 i) (D.2.1 (D.1 i)) (D.2.1 (D.1 i)) (-1) (D.2.2.2.2.1 (D.1 i))) → ym_fr m σ σ' → Q (some (.int 0)) σ') : am_C g l mX10_abort 1 (am_tp σ, am_us σ) [.ref m, .int s] σ Q := by
  have H := h.1
  have h0 := h
  have o1 : ¬ (1 : Int32) = 0 := by decide
  refine am_C.go [some (.ref m), some (.int s)] (by decide +kernel) (Nat.le_of_ble_eq_true rfl) rfl (kX10_abort_0 ?_)
  simp (disch := omega) only [ax_const, ax_iload, ax_lload, ax_aload, ax_istore, ax_astore, ax_iinc, ax_i2, ax_i2n, ax_l2, ax_lsh, ax_ii, ax_il, ax_li, ax_pop, ax_dup, ax_dup2, ax_if, ax_cmp, ax_acmp, ax_goto, ax_getI, ax_getR, ax_putI, ax_putR, ax_gets, ax_getsT, ax_aldI, ax_aldR, ax_astI, ax_astR, ax_alen, ax_ret, ax_aret, ax_vret, am_st, am_kl, List.getElem?_cons_zero, List.getElem?_cons_succ, List.set_cons_zero, List.set_cons_succ, Value.category, true_and, and_true, if_true, if_false, reduceCtorEq, Bool.false_eq_true, false_implies, forall_const, Option.some.injEq, exists_eq_left', exists_eq_left, Sum.inl.injEq, Sum.inr.injEq, Prod.mk.injEq, nI_toInt, nI_clamp, am_ix_nI, am_ix_0, am_ix_1, am_ix_2, am_ix_3, am_n0, am_n1, am_n2, am_n3, am_n4, am_t0, am_t1, am_t2, am_t3, am_t4, am_tm1, am_nS, am_nP, am_nM, Int.ofNat_lt, Int.ofNat_le]
  refine am_callK [.int s] [] (d' := 0) (lim' := (am_tp σ, am_us σ)) rfl (by decide) (Nat.le_refl _) (Nat.le_refl _) rfl (Nat.le_of_ble_eq_true rfl) am_stat ?_
  refine c_yisSession (fun _ _ => ?_)
  by_cases q : 0 ≤ s.toInt ∧ s.toInt < 4
  · rw [if_pos q]
    obtain ⟨i, hi, rfl⟩ := xx_in.of q
    obtain ⟨a1, a2, ⟨P, a3, a4⟩, a5, a6⟩ := h
    obtain ⟨b1, b2⟩ := a2 i hi
    obtain ⟨b3, b4, b5⟩ := a5 (D.1 i) b2
    simp (disch := omega) only [ax_const, ax_iload, ax_lload, ax_aload, ax_istore, ax_astore, ax_iinc, ax_i2, ax_i2n, ax_l2, ax_lsh, ax_ii, ax_il, ax_li, ax_pop, ax_dup, ax_dup2, ax_if, ax_cmp, ax_acmp, ax_goto, ax_getI, ax_getR, ax_putI, ax_putR, ax_gets, ax_getsT, ax_aldI, ax_aldR, ax_astI, ax_astR, ax_alen, ax_ret, ax_aret, ax_vret, am_st, am_kl, List.getElem?_cons_zero, List.getElem?_cons_succ, List.set_cons_zero, List.set_cons_succ, Value.category, true_and, and_true, if_true, if_false, reduceCtorEq, Bool.false_eq_true, false_implies, forall_const, Option.some.injEq, exists_eq_left', exists_eq_left, Sum.inl.injEq, Sum.inr.injEq, Prod.mk.injEq, nI_toInt, nI_clamp, am_ix_nI, am_ix_0, am_ix_1, am_ix_2, am_ix_3, am_n0, am_n1, am_n2, am_n3, am_n4, am_t0, am_t1, am_t2, am_t3, am_t4, am_tm1, am_nS, am_nP, am_nM, Int.ofNat_lt, Int.ofNat_le, Option.toList_some, Option.toList_none, List.cons_append, List.nil_append, List.append_nil, o1, H.1, H.r0, H.s0, H.r5, H.s5, b1, b3.eq hi]
    refine fun _ => ⟨hi, b2, fun c => ⟨hi, b2, ?_⟩, fun c => hQ1 i hi rfl c⟩
    have hf' : ym_f (fun b => m + 2 ≤ b ∧ b ≤ m + 7) σ (am_wi σ (m + 6) (D.1 i) 0) := ym_f.rf.wi (a := m + 6) (by omega)
    refine ⟨rfl, rfl, hQ2 i hi rfl c _ (h0.store a4 b2 hf' (a3.f (Q := fun b => b = m + 6) (ym_f.rf.wi rfl) (by omega) (by omega) (by omega) (by omega)) (fun t ht => ⟨(a4 _ b2 t ht).1, fun z => absurd rfl z⟩) (fun lb hlb hne t ht => ⟨rfl, rfl⟩) (by rw [ym_is]; exact .free) (by rw [ym_io (by omega)]; exact b4) b5 (fun q hq => by rw [ym_ij hq]) (fun q hq => by rw [ym_io (by omega)])) (hf'.mono (fun b x => by omega))⟩
  · rw [if_neg q]
    simp (disch := omega) only [ax_const, ax_iload, ax_lload, ax_aload, ax_istore, ax_astore, ax_iinc, ax_i2, ax_i2n, ax_l2, ax_lsh, ax_ii, ax_il, ax_li, ax_pop, ax_dup, ax_dup2, ax_if, ax_cmp, ax_acmp, ax_goto, ax_getI, ax_getR, ax_putI, ax_putR, ax_gets, ax_getsT, ax_aldI, ax_aldR, ax_astI, ax_astR, ax_alen, ax_ret, ax_aret, ax_vret, am_st, am_kl, List.getElem?_cons_zero, List.getElem?_cons_succ, List.set_cons_zero, List.set_cons_succ, Value.category, true_and, and_true, if_true, if_false, reduceCtorEq, Bool.false_eq_true, false_implies, forall_const, Option.some.injEq, exists_eq_left', exists_eq_left, Sum.inl.injEq, Sum.inr.injEq, Prod.mk.injEq, nI_toInt, nI_clamp, am_ix_nI, am_ix_0, am_ix_1, am_ix_2, am_ix_3, am_n0, am_n1, am_n2, am_n3, am_n4, am_t0, am_t1, am_t2, am_t3, am_t4, am_tm1, am_nS, am_nP, am_nM, Int.ofNat_lt, Int.ofNat_le, Option.toList_some, Option.toList_none, List.cons_append, List.nil_append, List.append_nil]
    exact ⟨hQ0 q, fun z => absurd trivial z⟩
/-- the log gets n records, the transaction's rows are committed -/
theorem ym_O.commit {σ σ1 σ' : am_S} {m i n : Nat} {D : xx_D} {P : Nat → List xr_E} (h : ym_O σ m D) (hi : i < 4) (a4 : ∀ lb, lb < 8 → ∀ t, t < 2 → P (ym_pt 0 lb t) = D.2.1 lb t ∧ (D.2.2.2.1 lb ≠ -1 → P (ym_pt 1 lb t) = D.2.2.1 lb t)) (hc : D.2.2.2.1 (D.1 i) = nI i) (e1 : σ1 = am_wi σ (m + 7) (D.1 i) (nI n)) (hn : n ≤ 30) (hP : ym_P σ' m (ym_cp P (D.1 i) 1 0 2)) (hf : ym_f (fun b => m + 2 ≤ b ∧ b ≤ m + 5) σ1 σ') : ym_O (am_wi σ' (m + 6) (D.1 i) 0) m (xx_ds D (D.1 i) (D.2.2.1 (D.1 i)) (D.2.2.1 (D.1 i)) (-1) n) := by
  obtain ⟨b1, b2⟩ := h.2.1 i hi
  have f1 : ym_f (fun b => m + 2 ≤ b ∧ b ≤ m + 7) σ σ1 := by rw [e1]; exact ym_f.rf.wi (a := m + 7) (by omega)
  have f2 : ym_f (fun b => m + 2 ≤ b ∧ b ≤ m + 7) σ (am_wi σ' (m + 6) (D.1 i) 0) := (f1.tr (hf.mono (fun b x => by omega))).wi (a := m + 6) (by omega)
  refine h.store a4 b2 f2 (hP.f (Q := fun b => b = m + 6) (ym_f.rf.wi rfl) (by omega) (by omega) (by omega) (by omega)) (fun t ht => ⟨?_, fun z => absurd rfl z⟩) (fun lb hlb hne t ht => ⟨ym_cp_out b2 hlb ht (Or.inr hne), ym_cp_out b2 hlb ht (Or.inr hne)⟩) (by rw [ym_is]; exact .free) ?_ hn (fun q hq => ?_) (fun q hq => ?_)
  · rw [ym_cp_in b2 ht (by decide)]
    refine (a4 _ b2 t ht).2 ?_
    rw [hc]
    exact nI_m1 (by omega)
  · rw [ym_io (by omega), hf.i (by omega), e1, ym_is]
  · rw [ym_ij hq, hf.i (by omega), e1, ym_io (by omega)]
  · rw [ym_io (by omega), hf.i (by omega), e1, ym_ij hq]
theorem c_ycommit {g : am_G} {l : Launch} {σ : am_S} {m : Nat} {D : xx_D} {s : Int32} {Q : Option Value → am_S → Prop} (h : ym_O σ m D) (hQ0 : ¬ xx_in s → Q (some (.int (-1))) σ) (hQ1 : ∀ i, i < 4 → s = nI i → D.2.2.2.1 (D.1 i) ≠ nI i → Q (some (.int (-8))) σ)
    (hQ2 : ∀ i, i < 4 → s = nI i → D.2.2.2.1 (D.1 i) = nI i → 30 < D.2.2.2.2.1 (D.1 i) + xo_due (D.2.1 (D.1 i)) (D.2.2.1 (D.1 i)) → Q (some (.int (-5))) σ)
    (hQ3 : ∀ i, i < 4 → s = nI i → D.2.2.2.1 (D.1 i) = nI i → D.2.2.2.2.1 (D.1 i) + xo_due (D.2.1 (D.1 i)) (D.2.2.1 (D.1 i)) ≤ 30 → ∀ σ', ym_O σ' m (xx_ds D (D.1 i) (D.2.2.1 (D.1 i)) (D.2.2.1 (D.1 i)) (-1) (D.2.2.2.2.1 (D.1 i) + xo_due (D.2.1 (D.1 i)) (D.2.2.1 (D.1 i)))) → ym_fr m σ σ' → Q (some (.int (nI (xo_due (D.2.1 (D.1 i)) (D.2.2.1 (D.1 i)))))) σ') : am_C g l mX10_commit 2 (am_tp σ, am_us σ) [.ref m, .int s] σ Q := by
  have H := h.1
  have h0 := h
  have o1 : ¬ (1 : Int32) = 0 := by decide
  refine am_C.go [some (.ref m), some (.int s), none, none] (by decide +kernel) (Nat.le_of_ble_eq_true rfl) rfl (kX10_commit_0 ?_)
  simp (disch := omega) only [ax_const, ax_iload, ax_lload, ax_aload, ax_istore, ax_astore, ax_iinc, ax_i2, ax_i2n, ax_l2, ax_lsh, ax_ii, ax_il, ax_li, ax_pop, ax_dup, ax_dup2, ax_if, ax_cmp, ax_acmp, ax_goto, ax_getI, ax_getR, ax_putI, ax_putR, ax_gets, ax_getsT, ax_aldI, ax_aldR, ax_astI, ax_astR, ax_alen, ax_ret, ax_aret, ax_vret, am_st, am_kl, List.getElem?_cons_zero, List.getElem?_cons_succ, List.set_cons_zero, List.set_cons_succ, Value.category, true_and, and_true, if_true, if_false, reduceCtorEq, Bool.false_eq_true, false_implies, forall_const, Option.some.injEq, exists_eq_left', exists_eq_left, Sum.inl.injEq, Sum.inr.injEq, Prod.mk.injEq, nI_toInt, nI_clamp, am_ix_nI, am_ix_0, am_ix_1, am_ix_2, am_ix_3, am_n0, am_n1, am_n2, am_n3, am_n4, am_t0, am_t1, am_t2, am_t3, am_t4, am_tm1, am_nS, am_nP, am_nM, Int.ofNat_lt, Int.ofNat_le]
  refine am_callK [.int s] [] (d' := 0) (lim' := (am_tp σ, am_us σ)) rfl (by decide) (Nat.le_refl _) (Nat.le_refl _) rfl (Nat.le_of_ble_eq_true rfl) am_stat ?_
  refine c_yisSession (fun _ _ => ?_)
  by_cases q : 0 ≤ s.toInt ∧ s.toInt < 4
  · rw [if_pos q]
    obtain ⟨i, hi, rfl⟩ := xx_in.of q
    obtain ⟨a1, a2, ⟨P, a3, a4⟩, a5, a6⟩ := h
    obtain ⟨b1, b2⟩ := a2 i hi
    obtain ⟨b3, b4, b5⟩ := a5 (D.1 i) b2
    simp (disch := omega) only [ax_const, ax_iload, ax_lload, ax_aload, ax_istore, ax_astore, ax_iinc, ax_i2, ax_i2n, ax_l2, ax_lsh, ax_ii, ax_il, ax_li, ax_pop, ax_dup, ax_dup2, ax_if, ax_cmp, ax_acmp, ax_goto, ax_getI, ax_getR, ax_putI, ax_putR, ax_gets, ax_getsT, ax_aldI, ax_aldR, ax_astI, ax_astR, ax_alen, ax_ret, ax_aret, ax_vret, am_st, am_kl, List.getElem?_cons_zero, List.getElem?_cons_succ, List.set_cons_zero, List.set_cons_succ, Value.category, true_and, and_true, if_true, if_false, reduceCtorEq, Bool.false_eq_true, false_implies, forall_const, Option.some.injEq, exists_eq_left', exists_eq_left, Sum.inl.injEq, Sum.inr.injEq, Prod.mk.injEq, nI_toInt, nI_clamp, am_ix_nI, am_ix_0, am_ix_1, am_ix_2, am_ix_3, am_n0, am_n1, am_n2, am_n3, am_n4, am_t0, am_t1, am_t2, am_t3, am_t4, am_tm1, am_nS, am_nP, am_nM, Int.ofNat_lt, Int.ofNat_le, Option.toList_some, Option.toList_none, List.cons_append, List.nil_append, List.append_nil, o1, H.1, H.r0, H.s0, H.r5, H.s5, b1, b3.eq hi]
    refine fun _ => ⟨hi, b2, fun c => ?_, fun c => hQ1 i hi rfl c⟩
    have hne : D.2.2.2.1 (D.1 i) ≠ -1 := by rw [c]; exact nI_m1 (by omega)
    refine am_callK [.ref m, .int (nI (D.1 i))] [] (d' := 1) (lim' := (am_tp σ, am_us σ)) rfl (by decide) (Nat.le_refl _) (Nat.le_refl _) rfl (Nat.le_of_ble_eq_true rfl) (am_recv H.1) ?_
    refine c_yrecords H a3 b2 (fun _ _ => ?_)
    have ed : xo_due (ym_C P 0 (D.1 i)) (ym_C P 1 (D.1 i)) = xo_due (D.2.1 (D.1 i)) (D.2.2.1 (D.1 i)) := xo_due_eq (fun t ht => (a4 _ b2 t ht).1) (fun t ht => (a4 _ b2 t ht).2 hne)
    have hdl : xo_due (ym_C P 0 (D.1 i)) (ym_C P 1 (D.1 i)) ≤ 25 := by
      have d0 := ym_df_le a3 b2 (show 0 < 2 by decide)
      have d1 := ym_df_le a3 b2 (show 1 < 2 by decide)
      show xo_mk (xo_df _ _ 0 + (xo_df _ _ 1 + 0)) ≤ 25
      unfold xo_mk
      split <;> omega
    rw [ed] at hdl ⊢
    simp (disch := omega) only [ax_const, ax_iload, ax_lload, ax_aload, ax_istore, ax_astore, ax_iinc, ax_i2, ax_i2n, ax_l2, ax_lsh, ax_ii, ax_il, ax_li, ax_pop, ax_dup, ax_dup2, ax_if, ax_cmp, ax_acmp, ax_goto, ax_getI, ax_getR, ax_putI, ax_putR, ax_gets, ax_getsT, ax_aldI, ax_aldR, ax_astI, ax_astR, ax_alen, ax_ret, ax_aret, ax_vret, am_st, am_kl, List.getElem?_cons_zero, List.getElem?_cons_succ, List.set_cons_zero, List.set_cons_succ, Value.category, true_and, and_true, if_true, if_false, reduceCtorEq, Bool.false_eq_true, false_implies, forall_const, Option.some.injEq, exists_eq_left', exists_eq_left, Sum.inl.injEq, Sum.inr.injEq, Prod.mk.injEq, nI_toInt, nI_clamp, am_ix_nI, am_ix_0, am_ix_1, am_ix_2, am_ix_3, am_n0, am_n1, am_n2, am_n3, am_n4, am_t0, am_t1, am_t2, am_t3, am_t4, am_tm1, am_nS, am_nP, am_nM, Int.ofNat_lt, Int.ofNat_le, Option.toList_some, Option.toList_none, List.cons_append, List.nil_append, List.append_nil, am_sh_wi, am_r_wi, am_tp_wi, am_us_wi, ym_is, ym_io, ym_ij, o1, H.1, H.r5, H.s5, H.r6, H.s6, yl_30, b4, nI_add, yl_lt]
    refine ⟨b2, fun z => hQ2 i hi rfl c z, fun z => ⟨b2, b2, ?_⟩⟩
    refine am_callK [.ref m, .int (nI (D.1 i)), .int (nI 1), .int (nI 0)] [] (d' := 1) (lim' := (am_tp σ, am_us σ)) rfl (by decide) (Nat.le_refl _) (Nat.le_refl _) rfl (Nat.le_of_ble_eq_true rfl) (am_recv H.1) ?_
    refine c_ycopy (H.w) (a3.f (Q := fun b => b = m + 7) (ym_f.rf.wi rfl) (by omega) (by omega) (by omega) (by omega)) b2 (by decide) (by decide) (by decide) (fun σ' hP hf t1 u1 => ?_)
    have H' : ym_H σ' m := (H.w (a := m + 7)).f hf
    simp (disch := omega) only [ax_const, ax_iload, ax_lload, ax_aload, ax_istore, ax_astore, ax_iinc, ax_i2, ax_i2n, ax_l2, ax_lsh, ax_ii, ax_il, ax_li, ax_pop, ax_dup, ax_dup2, ax_if, ax_cmp, ax_acmp, ax_goto, ax_getI, ax_getR, ax_putI, ax_putR, ax_gets, ax_getsT, ax_aldI, ax_aldR, ax_astI, ax_astR, ax_alen, ax_ret, ax_aret, ax_vret, am_st, am_kl, List.getElem?_cons_zero, List.getElem?_cons_succ, List.set_cons_zero, List.set_cons_succ, Value.category, true_and, and_true, if_true, if_false, reduceCtorEq, Bool.false_eq_true, false_implies, forall_const, Option.some.injEq, exists_eq_left', exists_eq_left, Sum.inl.injEq, Sum.inr.injEq, Prod.mk.injEq, nI_toInt, nI_clamp, am_ix_nI, am_ix_0, am_ix_1, am_ix_2, am_ix_3, am_n0, am_n1, am_n2, am_n3, am_n4, am_t0, am_t1, am_t2, am_t3, am_t4, am_tm1, am_nS, am_nP, am_nM, Int.ofNat_lt, Int.ofNat_le, Option.toList_some, Option.toList_none, List.cons_append, List.nil_append, List.append_nil, am_sh_wi, am_r_wi, am_tp_wi, am_us_wi, ym_is, ym_io, ym_ij, H'.1, H'.r5, H'.s5]
    refine ⟨b2, t1, u1, hQ3 i hi rfl c (by omega) _ (h0.commit hi a4 c rfl (by omega) hP hf) ?_⟩
    exact ((ym_f.rf.wi (a := m + 7) (by omega)).tr (hf.mono (fun b x => by omega))).wi (a := m + 6) (by omega)
  · rw [if_neg q]
    simp (disch := omega) only [ax_const, ax_iload, ax_lload, ax_aload, ax_istore, ax_astore, ax_iinc, ax_i2, ax_i2n, ax_l2, ax_lsh, ax_ii, ax_il, ax_li, ax_pop, ax_dup, ax_dup2, ax_if, ax_cmp, ax_acmp, ax_goto, ax_getI, ax_getR, ax_putI, ax_putR, ax_gets, ax_getsT, ax_aldI, ax_aldR, ax_astI, ax_astR, ax_alen, ax_ret, ax_aret, ax_vret, am_st, am_kl, List.getElem?_cons_zero, List.getElem?_cons_succ, List.set_cons_zero, List.set_cons_succ, Value.category, true_and, and_true, if_true, if_false, reduceCtorEq, Bool.false_eq_true, false_implies, forall_const, Option.some.injEq, exists_eq_left', exists_eq_left, Sum.inl.injEq, Sum.inr.injEq, Prod.mk.injEq, nI_toInt, nI_clamp, am_ix_nI, am_ix_0, am_ix_1, am_ix_2, am_ix_3, am_n0, am_n1, am_n2, am_n3, am_n4, am_t0, am_t1, am_t2, am_t3, am_t4, am_tm1, am_nS, am_nP, am_nM, Int.ofNat_lt, Int.ofNat_le, Option.toList_some, Option.toList_none, List.cons_append, List.nil_append, List.append_nil]
    exact ⟨hQ0 q, fun z => absurd trivial z⟩
theorem ym_ck_68 {g : am_G} {l : Launch} {σ : am_S} {m i n : Nat} {D : xx_D} {Q : Option Value → am_S → Prop} {z : Option Value} (h : ym_O σ m D) (hi : i < 4) (hn : n ≤ 30) (hQ : ∀ σ', ym_O σ' m (xx_ds D (D.1 i) (D.2.1 (D.1 i)) (D.2.2.1 (D.1 i)) (D.2.2.2.1 (D.1 i)) n) → ym_fr m σ σ' → Q (some (.int (nI n))) σ') :
    am_W g l mX10_checkpoint 1 (am_tp σ, am_us σ) Q 68 [some (.ref m), some (.int (nI i)), some (.int (nI (D.1 i))), z] [.int (nI n), .int (nI (D.1 i)), .ref (m + 7)] σ := by
  have H := h.1
  obtain ⟨a1, a2, ⟨P, a3, a4⟩, a5, a6⟩ := id h
  obtain ⟨b1, b2⟩ := a2 i hi
  obtain ⟨b3, b4, b5⟩ := a5 (D.1 i) b2
  refine kX10_checkpoint_68 ?_
  simp (disch := omega) only [ax_const, ax_iload, ax_lload, ax_aload, ax_istore, ax_astore, ax_iinc, ax_i2, ax_i2n, ax_l2, ax_lsh, ax_ii, ax_il, ax_li, ax_pop, ax_dup, ax_dup2, ax_if, ax_cmp, ax_acmp, ax_goto, ax_getI, ax_getR, ax_putI, ax_putR, ax_gets, ax_getsT, ax_aldI, ax_aldR, ax_astI, ax_astR, ax_alen, ax_ret, ax_aret, ax_vret, am_st, am_kl, List.getElem?_cons_zero, List.getElem?_cons_succ, List.set_cons_zero, List.set_cons_succ, Value.category, true_and, and_true, if_true, if_false, reduceCtorEq, Bool.false_eq_true, false_implies, forall_const, Option.some.injEq, exists_eq_left', exists_eq_left, Sum.inl.injEq, Sum.inr.injEq, Prod.mk.injEq, nI_toInt, nI_clamp, am_ix_nI, am_ix_0, am_ix_1, am_ix_2, am_ix_3, am_n0, am_n1, am_n2, am_n3, am_n4, am_t0, am_t1, am_t2, am_t3, am_t4, am_tm1, am_nS, am_nP, am_nM, Int.ofNat_lt, Int.ofNat_le, am_sh_wi, am_r_wi, am_tp_wi, am_us_wi, ym_is, ym_io, ym_ij, H.1, H.r6, H.s6]
  have f1 : ym_f (fun b => m + 2 ≤ b ∧ b ≤ m + 7) σ (am_wi σ (m + 7) (D.1 i) (nI n)) := ym_f.rf.wi (a := m + 7) (by omega)
  exact ⟨b2, b2, hQ _ (h.store a4 b2 f1 (a3.f (Q := fun b => b = m + 7) (ym_f.rf.wi rfl) (by omega) (by omega) (by omega) (by omega)) (fun t ht => a4 _ b2 t ht) (fun lb hlb hne t ht => ⟨rfl, rfl⟩) (by rw [ym_io (by omega)]; exact b3) ym_is hn (fun q hq => by rw [ym_io (by omega)]) (fun q hq => by rw [ym_ij hq])) (f1.mono (fun b x => by omega))⟩
theorem c_ycheckpoint {g : am_G} {l : Launch} {σ : am_S} {m : Nat} {D : xx_D} {s : Int32} {Q : Option Value → am_S → Prop} (h : ym_O σ m D) (hQ0 : ¬ xx_in s → Q (some (.int (-1))) σ) (hQ1 : ∀ i, i < 4 → s = nI i → D.2.2.2.1 (D.1 i) ≠ -1 → Q (some (.int (-6))) σ)
    (hQ2 : ∀ i, i < 4 → s = nI i → D.2.2.2.1 (D.1 i) = -1 → ∀ r σ', r = xo_mk (xo_s (fun t => (D.2.1 (D.1 i) t).length) 2 0) → ym_O σ' m (xx_ds D (D.1 i) (D.2.1 (D.1 i)) (D.2.2.1 (D.1 i)) (D.2.2.2.1 (D.1 i)) r) → ym_fr m σ σ' → Q (some (.int (nI r))) σ') : am_C g l mX10_checkpoint 1 (am_tp σ, am_us σ) [.ref m, .int s] σ Q := by
  have H := h.1
  have o1 : ¬ (1 : Int32) = 0 := by decide
  refine am_C.go [some (.ref m), some (.int s), none, none] (by decide +kernel) (Nat.le_of_ble_eq_true rfl) rfl (kX10_checkpoint_0 ?_)
  simp (disch := omega) only [ax_const, ax_iload, ax_lload, ax_aload, ax_istore, ax_astore, ax_iinc, ax_i2, ax_i2n, ax_l2, ax_lsh, ax_ii, ax_il, ax_li, ax_pop, ax_dup, ax_dup2, ax_if, ax_cmp, ax_acmp, ax_goto, ax_getI, ax_getR, ax_putI, ax_putR, ax_gets, ax_getsT, ax_aldI, ax_aldR, ax_astI, ax_astR, ax_alen, ax_ret, ax_aret, ax_vret, am_st, am_kl, List.getElem?_cons_zero, List.getElem?_cons_succ, List.set_cons_zero, List.set_cons_succ, Value.category, true_and, and_true, if_true, if_false, reduceCtorEq, Bool.false_eq_true, false_implies, forall_const, Option.some.injEq, exists_eq_left', exists_eq_left, Sum.inl.injEq, Sum.inr.injEq, Prod.mk.injEq, nI_toInt, nI_clamp, am_ix_nI, am_ix_0, am_ix_1, am_ix_2, am_ix_3, am_n0, am_n1, am_n2, am_n3, am_n4, am_t0, am_t1, am_t2, am_t3, am_t4, am_tm1, am_nS, am_nP, am_nM, Int.ofNat_lt, Int.ofNat_le]
  refine am_callK [.int s] [] (d' := 0) (lim' := (am_tp σ, am_us σ)) rfl (by decide) (Nat.le_refl _) (Nat.le_refl _) rfl (Nat.le_of_ble_eq_true rfl) am_stat ?_
  refine c_yisSession (fun _ _ => ?_)
  by_cases q : 0 ≤ s.toInt ∧ s.toInt < 4
  · rw [if_pos q]
    obtain ⟨i, hi, rfl⟩ := xx_in.of q
    obtain ⟨a1, a2, ⟨P, a3, a4⟩, a5, a6⟩ := id h
    obtain ⟨b1, b2⟩ := a2 i hi
    obtain ⟨b3, b4, b5⟩ := a5 (D.1 i) b2
    have hQ2 := hQ2 i hi rfl
    have p0 := ym_pt_lt (show 0 < 2 by decide) b2 (show 0 < 2 by decide)
    have p1 := ym_pt_lt (show 0 < 2 by decide) b2 (show 1 < 2 by decide)
    obtain ⟨c1, c2, -⟩ := a3 _ p0
    obtain ⟨d1, d2, -⟩ := a3 _ p1
    rw [(a4 _ b2 0 (by decide)).1] at c1 c2
    rw [(a4 _ b2 1 (by decide)).1] at d1 d2
    simp (disch := omega) only [ax_const, ax_iload, ax_lload, ax_aload, ax_istore, ax_astore, ax_iinc, ax_i2, ax_i2n, ax_l2, ax_lsh, ax_ii, ax_il, ax_li, ax_pop, ax_dup, ax_dup2, ax_if, ax_cmp, ax_acmp, ax_goto, ax_getI, ax_getR, ax_putI, ax_putR, ax_gets, ax_getsT, ax_aldI, ax_aldR, ax_astI, ax_astR, ax_alen, ax_ret, ax_aret, ax_vret, am_st, am_kl, List.getElem?_cons_zero, List.getElem?_cons_succ, List.set_cons_zero, List.set_cons_succ, Value.category, true_and, and_true, if_true, if_false, reduceCtorEq, Bool.false_eq_true, false_implies, forall_const, Option.some.injEq, exists_eq_left', exists_eq_left, Sum.inl.injEq, Sum.inr.injEq, Prod.mk.injEq, nI_toInt, nI_clamp, am_ix_nI, am_ix_0, am_ix_1, am_ix_2, am_ix_3, am_n0, am_n1, am_n2, am_n3, am_n4, am_t0, am_t1, am_t2, am_t3, am_t4, am_tm1, am_nS, am_nP, am_nM, Int.ofNat_lt, Int.ofNat_le, Option.toList_some, Option.toList_none, List.cons_append, List.nil_append, List.append_nil, o1, H.1, H.r0, H.s0, H.r1, H.s1, H.r5, H.s5, b1, b3.pos]
    refine fun _ => ⟨hi, b2, fun c => hQ1 i hi rfl c, fun c => ?_⟩
    have hQ2 := hQ2 (Classical.not_not.mp c)
    refine am_callK [.int (nI 0), .int (nI (D.1 i)), .int (nI 0)] [.ref (m + 2)] (d' := 0) (lim' := (am_tp σ, am_us σ)) rfl (by decide) (Nat.le_refl _) (Nat.le_refl _) rfl (Nat.le_of_ble_eq_true rfl) am_stat ?_
    refine c_ypart (fun _ _ => ?_)
    simp (disch := omega) only [ax_const, ax_iload, ax_lload, ax_aload, ax_istore, ax_astore, ax_iinc, ax_i2, ax_i2n, ax_l2, ax_lsh, ax_ii, ax_il, ax_li, ax_pop, ax_dup, ax_dup2, ax_if, ax_cmp, ax_acmp, ax_goto, ax_getI, ax_getR, ax_putI, ax_putR, ax_gets, ax_getsT, ax_aldI, ax_aldR, ax_astI, ax_astR, ax_alen, ax_ret, ax_aret, ax_vret, am_st, am_kl, List.getElem?_cons_zero, List.getElem?_cons_succ, List.set_cons_zero, List.set_cons_succ, Value.category, true_and, and_true, if_true, if_false, reduceCtorEq, Bool.false_eq_true, false_implies, forall_const, Option.some.injEq, exists_eq_left', exists_eq_left, Sum.inl.injEq, Sum.inr.injEq, Prod.mk.injEq, nI_toInt, nI_clamp, am_ix_nI, am_ix_0, am_ix_1, am_ix_2, am_ix_3, am_n0, am_n1, am_n2, am_n3, am_n4, am_t0, am_t1, am_t2, am_t3, am_t4, am_tm1, am_nS, am_nP, am_nM, Int.ofNat_lt, Int.ofNat_le, Option.toList_some, Option.toList_none, List.cons_append, List.nil_append, List.append_nil, H.1, H.r0, H.s0, H.r1, H.s1, H.r5, H.s5, c1]
    refine ⟨p0, ?_⟩
    refine am_callK [.int (nI 0), .int (nI (D.1 i)), .int (nI 1)] [.ref (m + 2), .int (nI (D.2.1 (D.1 i) 0).length)] (d' := 0) (lim' := (am_tp σ, am_us σ)) rfl (by decide) (Nat.le_refl _) (Nat.le_refl _) rfl (Nat.le_of_ble_eq_true rfl) am_stat ?_
    refine c_ypart (fun _ _ => ?_)
    simp (disch := omega) only [ax_const, ax_iload, ax_lload, ax_aload, ax_istore, ax_astore, ax_iinc, ax_i2, ax_i2n, ax_l2, ax_lsh, ax_ii, ax_il, ax_li, ax_pop, ax_dup, ax_dup2, ax_if, ax_cmp, ax_acmp, ax_goto, ax_getI, ax_getR, ax_putI, ax_putR, ax_gets, ax_getsT, ax_aldI, ax_aldR, ax_astI, ax_astR, ax_alen, ax_ret, ax_aret, ax_vret, am_st, am_kl, List.getElem?_cons_zero, List.getElem?_cons_succ, List.set_cons_zero, List.set_cons_succ, Value.category, true_and, and_true, if_true, if_false, reduceCtorEq, Bool.false_eq_true, false_implies, forall_const, Option.some.injEq, exists_eq_left', exists_eq_left, Sum.inl.injEq, Sum.inr.injEq, Prod.mk.injEq, nI_toInt, nI_clamp, am_ix_nI, am_ix_0, am_ix_1, am_ix_2, am_ix_3, am_n0, am_n1, am_n2, am_n3, am_n4, am_t0, am_t1, am_t2, am_t3, am_t4, am_tm1, am_nS, am_nP, am_nM, Int.ofNat_lt, Int.ofNat_le, Option.toList_some, Option.toList_none, List.cons_append, List.nil_append, List.append_nil, H.1, H.r0, H.s0, H.r1, H.s1, H.r5, H.s5, H.r6, H.s6, d1, nI_add, yl_t0]
    refine ⟨p1, fun z => ym_ck_68 h hi (by omega) (fun σ' hO hf => hQ2 _ σ' ?_ hO hf), fun z => ym_ck_68 (n := 0) h hi (by omega) (fun σ' hO hf => hQ2 0 σ' ?_ hO hf)⟩
    · show _ = xo_mk ((D.2.1 (D.1 i) 0).length + ((D.2.1 (D.1 i) 1).length + 0))
      unfold xo_mk
      rw [if_neg (by omega)]
      rfl
    · show _ = xo_mk ((D.2.1 (D.1 i) 0).length + ((D.2.1 (D.1 i) 1).length + 0))
      unfold xo_mk
      rw [if_pos (by omega)]
  · rw [if_neg q]
    simp (disch := omega) only [ax_const, ax_iload, ax_lload, ax_aload, ax_istore, ax_astore, ax_iinc, ax_i2, ax_i2n, ax_l2, ax_lsh, ax_ii, ax_il, ax_li, ax_pop, ax_dup, ax_dup2, ax_if, ax_cmp, ax_acmp, ax_goto, ax_getI, ax_getR, ax_putI, ax_putR, ax_gets, ax_getsT, ax_aldI, ax_aldR, ax_astI, ax_astR, ax_alen, ax_ret, ax_aret, ax_vret, am_st, am_kl, List.getElem?_cons_zero, List.getElem?_cons_succ, List.set_cons_zero, List.set_cons_succ, Value.category, true_and, and_true, if_true, if_false, reduceCtorEq, Bool.false_eq_true, false_implies, forall_const, Option.some.injEq, exists_eq_left', exists_eq_left, Sum.inl.injEq, Sum.inr.injEq, Prod.mk.injEq, nI_toInt, nI_clamp, am_ix_nI, am_ix_0, am_ix_1, am_ix_2, am_ix_3, am_n0, am_n1, am_n2, am_n3, am_n4, am_t0, am_t1, am_t2, am_t3, am_t4, am_tm1, am_nS, am_nP, am_nM, Int.ofNat_lt, Int.ofNat_le, Option.toList_some, Option.toList_none, List.cons_append, List.nil_append, List.append_nil]
    exact ⟨hQ0 q, fun z => absurd trivial z⟩
