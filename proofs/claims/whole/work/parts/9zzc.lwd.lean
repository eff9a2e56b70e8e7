/-! the law: its cases -/
theorem oRows.G {D : xx_D} {t : Int32} (hG : GD D) : ∀ i, i < 4 → ∀ a D1, oRows D t i a D1 → GD D1 := fun _ _ _ _ h => by rw [h.1]; exact hG
theorem oCell.G {D : xx_D} {t kk ww : Int32} (hG : GD D) : ∀ i, i < 4 → ∀ a D1, oCell D t kk ww i a D1 → GD D1 := fun _ _ _ _ h => by rw [h.1]; exact hG
theorem oBegin.one {D : xx_D} : ∀ i, i < 4 → ∀ a D1 a' D2, oBegin D i a D1 → oBegin D i a' D2 → a = a' ∧ D1 = D2 := fun _ _ _ _ _ _ h h' => o2_one h h'
theorem oAbort.one {D : xx_D} : ∀ i, i < 4 → ∀ a D1 a' D2, oAbort D i a D1 → oAbort D i a' D2 → a = a' ∧ D1 = D2 := fun _ _ _ _ _ _ h h' => o2_one h h'
theorem oChk.one {D : xx_D} : ∀ i, i < 4 → ∀ a D1 a' D2, oChk D i a D1 → oChk D i a' D2 → a = a' ∧ D1 = D2 := fun _ _ _ _ _ _ h h' => o2_one h h'
theorem lwc_label {nm : String} {cc : ByteArray} {g : am_G} {l : Launch} {σ : am_S} {X b L i d : Nat} {xs : Nat → Int32} {D : xx_D} {lim : Nat × Nat} {Q : Option Value → am_S → Prop} (hc : cc = code) (h0 : lwI g σ X b L xs D) (hL : L ≤ 324) (hi : i + 4 < L) (hd : 40 ≤ d) (htp : am_tp σ = lim.1) (hus : am_us σ = lim.2)
    (hK : ∀ σ' D', lwI g σ' X b L xs D' → am_tp σ' = lim.1 → am_us σ' = lim.2 → am_W g l (mL_lawN nm cc) d lim Q 58 [some (.ref b), some (.ref X), some (.ref (X + 719)), some (.int (nI (i + 5)))] [] σ') : am_W g l (mL_lawN nm cc) d lim Q 374 [some (.ref b), some (.ref X), some (.ref (X + 719)), some (.int (nI i))] [] σ := by
  have hs := h0.2.2.2.2.1.1
  have hG := h0.2.2.2.1
  have hl8 : ∀ i, i < 4 → D.1 i < 8 := fun i hi => (h0.1.2.2.1 i hi).2.1
  have y1 : (1 : Int32) = nI 1 := rfl
  have y2 : (2 : Int32) = nI 2 := rfl
  have y3 : (3 : Int32) = nI 3 := rfl
  have y4 : (4 : Int32) = nI 4 := rfl
  have y5 : (5 : Int32) = nI 5 := rfl
  refine kL_law_374 hc ?_
  simp (disch := omega) only [ax_const, ax_iload, ax_lload, ax_aload, ax_istore, ax_astore, ax_iinc, ax_i2, ax_i2n, ax_l2, ax_lsh, ax_ii, ax_il, ax_li, ax_pop, ax_dup, ax_dup2, ax_if, ax_cmp, ax_acmp, ax_goto, ax_getI, ax_getR, ax_putI, ax_putR, ax_gets, ax_getsT, ax_aldI, ax_aldR, ax_astI, ax_astR, ax_alen, ax_ret, ax_aret, ax_vret, am_st, am_kl, List.getElem?_cons_zero, List.getElem?_cons_succ, List.set_cons_zero, List.set_cons_succ, Value.category, true_and, and_true, if_true, if_false, reduceCtorEq, Bool.false_eq_true, false_implies, forall_const, Option.some.injEq, exists_eq_left', exists_eq_left, Sum.inl.injEq, Sum.inr.injEq, Prod.mk.injEq, nI_toInt, nI_clamp, am_ix_nI, am_ix_0, am_ix_1, am_ix_2, am_ix_3, am_n0, am_n1, am_n2, am_n3, am_n4, am_t0, am_t1, am_t2, am_t3, am_t4, am_tm1, am_nS, am_nP, am_nM, Int.ofNat_lt, Int.ofNat_le, Option.toList_some, Option.toList_none, List.cons_append, List.nil_append, List.append_nil, hs, y1, y2, y3, y4, y5, nI_add]
  iterate 1 refine ⟨by omega, ?_⟩
  refine am_callK [.ref X, .int _] [] (d' := 1) (lim' := (am_tp σ, am_us σ)) rfl (by omega) (Nat.le_of_eq htp) (Nat.le_of_eq hus) rfl (Nat.le_of_ble_eq_true rfl) (am_recv h0.1.1.1) ?_
  refine o_xlabel h0.1 (fun a D1 σ1 hO1 hx1 f1 t1 u1 => ?_)
  obtain ⟨g1, g2, g3, g4⟩ := h0.x f1
  simp (disch := omega) only [ax_const, ax_iload, ax_lload, ax_aload, ax_istore, ax_astore, ax_iinc, ax_i2, ax_i2n, ax_l2, ax_lsh, ax_ii, ax_il, ax_li, ax_pop, ax_dup, ax_dup2, ax_if, ax_cmp, ax_acmp, ax_goto, ax_getI, ax_getR, ax_putI, ax_putR, ax_gets, ax_getsT, ax_aldI, ax_aldR, ax_astI, ax_astR, ax_alen, ax_ret, ax_aret, ax_vret, am_st, am_kl, List.getElem?_cons_zero, List.getElem?_cons_succ, List.set_cons_zero, List.set_cons_succ, Value.category, true_and, and_true, if_true, if_false, reduceCtorEq, Bool.false_eq_true, false_implies, forall_const, Option.some.injEq, exists_eq_left', exists_eq_left, Sum.inl.injEq, Sum.inr.injEq, Prod.mk.injEq, nI_toInt, nI_clamp, am_ix_nI, am_ix_0, am_ix_1, am_ix_2, am_ix_3, am_n0, am_n1, am_n2, am_n3, am_n4, am_t0, am_t1, am_t2, am_t3, am_t4, am_tm1, am_nS, am_nP, am_nM, Int.ofNat_lt, Int.ofNat_le, Option.toList_some, Option.toList_none, List.cons_append, List.nil_append, List.append_nil, g3, g4, y1, y2, y3, y4, y5, nI_add]
  iterate 1 refine ⟨by omega, ?_⟩
  refine am_callK [.ref (X + 719), .int _] [.int a] (d' := 1) (lim' := (am_tp σ1, am_us σ1)) rfl (by omega) (Nat.le_of_eq (t1.trans htp)) (Nat.le_of_eq (u1.trans hus)) rfl (Nat.le_of_ble_eq_true rfl) (am_recv g1.1.1) ?_
  refine o_ylabel g1 g2 hG (fun a' D2 σ2 hO2 hy2 hq2 f2 t2 u2 => ?_)
  obtain ⟨e1, e2⟩ := oS.one oQ.one hO1 hO2
  subst e1 e2
  have k := hK σ2 D1 (h0.y f1 hx1 hy2 hq2 (oS.G hG (oQ.G hG) hO1) f2) (t2.trans (t1.trans htp)) (u2.trans (u1.trans hus))
  simp (disch := omega) only [ax_const, ax_iload, ax_lload, ax_aload, ax_istore, ax_astore, ax_iinc, ax_i2, ax_i2n, ax_l2, ax_lsh, ax_ii, ax_il, ax_li, ax_pop, ax_dup, ax_dup2, ax_if, ax_cmp, ax_acmp, ax_goto, ax_getI, ax_getR, ax_putI, ax_putR, ax_gets, ax_getsT, ax_aldI, ax_aldR, ax_astI, ax_astR, ax_alen, ax_ret, ax_aret, ax_vret, am_st, am_kl, List.getElem?_cons_zero, List.getElem?_cons_succ, List.set_cons_zero, List.set_cons_succ, Value.category, true_and, and_true, if_true, if_false, reduceCtorEq, Bool.false_eq_true, false_implies, forall_const, Option.some.injEq, exists_eq_left', exists_eq_left, Sum.inl.injEq, Sum.inr.injEq, Prod.mk.injEq, nI_toInt, nI_clamp, am_ix_nI, am_ix_0, am_ix_1, am_ix_2, am_ix_3, am_n0, am_n1, am_n2, am_n3, am_n4, am_t0, am_t1, am_t2, am_t3, am_t4, am_tm1, am_nS, am_nP, am_nM, Int.ofNat_lt, Int.ofNat_le, Option.toList_some, Option.toList_none, List.cons_append, List.nil_append, List.append_nil, hs, y1, y2, y3, y4, y5, nI_add]
  exact ⟨k, fun z => absurd trivial z⟩
theorem lwc_busy {nm : String} {cc : ByteArray} {g : am_G} {l : Launch} {σ : am_S} {X b L i d : Nat} {xs : Nat → Int32} {D : xx_D} {lim : Nat × Nat} {Q : Option Value → am_S → Prop} (hc : cc = code) (h0 : lwI g σ X b L xs D) (hL : L ≤ 324) (hi : i + 4 < L) (hd : 40 ≤ d) (htp : am_tp σ = lim.1) (hus : am_us σ = lim.2)
    (hK : ∀ σ' D', lwI g σ' X b L xs D' → am_tp σ' = lim.1 → am_us σ' = lim.2 → am_W g l (mL_lawN nm cc) d lim Q 58 [some (.ref b), some (.ref X), some (.ref (X + 719)), some (.int (nI (i + 5)))] [] σ') : am_W g l (mL_lawN nm cc) d lim Q 397 [some (.ref b), some (.ref X), some (.ref (X + 719)), some (.int (nI i))] [] σ := by
  have hs := h0.2.2.2.2.1.1
  have hG := h0.2.2.2.1
  have hl8 : ∀ i, i < 4 → D.1 i < 8 := fun i hi => (h0.1.2.2.1 i hi).2.1
  have y1 : (1 : Int32) = nI 1 := rfl
  have y2 : (2 : Int32) = nI 2 := rfl
  have y3 : (3 : Int32) = nI 3 := rfl
  have y4 : (4 : Int32) = nI 4 := rfl
  have y5 : (5 : Int32) = nI 5 := rfl
  refine kL_law_397 hc ?_
  simp (disch := omega) only [ax_const, ax_iload, ax_lload, ax_aload, ax_istore, ax_astore, ax_iinc, ax_i2, ax_i2n, ax_l2, ax_lsh, ax_ii, ax_il, ax_li, ax_pop, ax_dup, ax_dup2, ax_if, ax_cmp, ax_acmp, ax_goto, ax_getI, ax_getR, ax_putI, ax_putR, ax_gets, ax_getsT, ax_aldI, ax_aldR, ax_astI, ax_astR, ax_alen, ax_ret, ax_aret, ax_vret, am_st, am_kl, List.getElem?_cons_zero, List.getElem?_cons_succ, List.set_cons_zero, List.set_cons_succ, Value.category, true_and, and_true, if_true, if_false, reduceCtorEq, Bool.false_eq_true, false_implies, forall_const, Option.some.injEq, exists_eq_left', exists_eq_left, Sum.inl.injEq, Sum.inr.injEq, Prod.mk.injEq, nI_toInt, nI_clamp, am_ix_nI, am_ix_0, am_ix_1, am_ix_2, am_ix_3, am_n0, am_n1, am_n2, am_n3, am_n4, am_t0, am_t1, am_t2, am_t3, am_t4, am_tm1, am_nS, am_nP, am_nM, Int.ofNat_lt, Int.ofNat_le, Option.toList_some, Option.toList_none, List.cons_append, List.nil_append, List.append_nil, hs, y1, y2, y3, y4, y5, nI_add]
  iterate 1 refine ⟨by omega, ?_⟩
  refine am_callK [.ref X, .int _] [] (d' := 1) (lim' := (am_tp σ, am_us σ)) rfl (by omega) (Nat.le_of_eq htp) (Nat.le_of_eq hus) rfl (Nat.le_of_ble_eq_true rfl) (am_recv h0.1.1.1) ?_
  refine o_xbusy h0.1 (fun a D1 σ1 hO1 hx1 f1 t1 u1 => ?_)
  obtain ⟨g1, g2, g3, g4⟩ := h0.x f1
  simp (disch := omega) only [ax_const, ax_iload, ax_lload, ax_aload, ax_istore, ax_astore, ax_iinc, ax_i2, ax_i2n, ax_l2, ax_lsh, ax_ii, ax_il, ax_li, ax_pop, ax_dup, ax_dup2, ax_if, ax_cmp, ax_acmp, ax_goto, ax_getI, ax_getR, ax_putI, ax_putR, ax_gets, ax_getsT, ax_aldI, ax_aldR, ax_astI, ax_astR, ax_alen, ax_ret, ax_aret, ax_vret, am_st, am_kl, List.getElem?_cons_zero, List.getElem?_cons_succ, List.set_cons_zero, List.set_cons_succ, Value.category, true_and, and_true, if_true, if_false, reduceCtorEq, Bool.false_eq_true, false_implies, forall_const, Option.some.injEq, exists_eq_left', exists_eq_left, Sum.inl.injEq, Sum.inr.injEq, Prod.mk.injEq, nI_toInt, nI_clamp, am_ix_nI, am_ix_0, am_ix_1, am_ix_2, am_ix_3, am_n0, am_n1, am_n2, am_n3, am_n4, am_t0, am_t1, am_t2, am_t3, am_t4, am_tm1, am_nS, am_nP, am_nM, Int.ofNat_lt, Int.ofNat_le, Option.toList_some, Option.toList_none, List.cons_append, List.nil_append, List.append_nil, g3, g4, y1, y2, y3, y4, y5, nI_add]
  iterate 1 refine ⟨by omega, ?_⟩
  refine am_callK [.ref (X + 719), .int _] [.int a] (d' := 1) (lim' := (am_tp σ1, am_us σ1)) rfl (by omega) (Nat.le_of_eq (t1.trans htp)) (Nat.le_of_eq (u1.trans hus)) rfl (Nat.le_of_ble_eq_true rfl) (am_recv g1.1.1) ?_
  refine o_ybusy g1 g2 hG (fun a' D2 σ2 hO2 hy2 hq2 f2 t2 u2 => ?_)
  obtain ⟨e1, e2⟩ := oS.one oQ.one hO1 hO2
  subst e1 e2
  have k := hK σ2 D1 (h0.y f1 hx1 hy2 hq2 (oS.G hG (oQ.G hG) hO1) f2) (t2.trans (t1.trans htp)) (u2.trans (u1.trans hus))
  simp (disch := omega) only [ax_const, ax_iload, ax_lload, ax_aload, ax_istore, ax_astore, ax_iinc, ax_i2, ax_i2n, ax_l2, ax_lsh, ax_ii, ax_il, ax_li, ax_pop, ax_dup, ax_dup2, ax_if, ax_cmp, ax_acmp, ax_goto, ax_getI, ax_getR, ax_putI, ax_putR, ax_gets, ax_getsT, ax_aldI, ax_aldR, ax_astI, ax_astR, ax_alen, ax_ret, ax_aret, ax_vret, am_st, am_kl, List.getElem?_cons_zero, List.getElem?_cons_succ, List.set_cons_zero, List.set_cons_succ, Value.category, true_and, and_true, if_true, if_false, reduceCtorEq, Bool.false_eq_true, false_implies, forall_const, Option.some.injEq, exists_eq_left', exists_eq_left, Sum.inl.injEq, Sum.inr.injEq, Prod.mk.injEq, nI_toInt, nI_clamp, am_ix_nI, am_ix_0, am_ix_1, am_ix_2, am_ix_3, am_n0, am_n1, am_n2, am_n3, am_n4, am_t0, am_t1, am_t2, am_t3, am_t4, am_tm1, am_nS, am_nP, am_nM, Int.ofNat_lt, Int.ofNat_le, Option.toList_some, Option.toList_none, List.cons_append, List.nil_append, List.append_nil, hs, y1, y2, y3, y4, y5, nI_add]
  exact ⟨k, fun z => absurd trivial z⟩
theorem lwc_log {nm : String} {cc : ByteArray} {g : am_G} {l : Launch} {σ : am_S} {X b L i d : Nat} {xs : Nat → Int32} {D : xx_D} {lim : Nat × Nat} {Q : Option Value → am_S → Prop} (hc : cc = code) (h0 : lwI g σ X b L xs D) (hL : L ≤ 324) (hi : i + 4 < L) (hd : 40 ≤ d) (htp : am_tp σ = lim.1) (hus : am_us σ = lim.2)
    (hK : ∀ σ' D', lwI g σ' X b L xs D' → am_tp σ' = lim.1 → am_us σ' = lim.2 → am_W g l (mL_lawN nm cc) d lim Q 58 [some (.ref b), some (.ref X), some (.ref (X + 719)), some (.int (nI (i + 5)))] [] σ') : am_W g l (mL_lawN nm cc) d lim Q 420 [some (.ref b), some (.ref X), some (.ref (X + 719)), some (.int (nI i))] [] σ := by
  have hs := h0.2.2.2.2.1.1
  have hG := h0.2.2.2.1
  have hl8 : ∀ i, i < 4 → D.1 i < 8 := fun i hi => (h0.1.2.2.1 i hi).2.1
  have y1 : (1 : Int32) = nI 1 := rfl
  have y2 : (2 : Int32) = nI 2 := rfl
  have y3 : (3 : Int32) = nI 3 := rfl
  have y4 : (4 : Int32) = nI 4 := rfl
  have y5 : (5 : Int32) = nI 5 := rfl
  refine kL_law_420 hc ?_
  simp (disch := omega) only [ax_const, ax_iload, ax_lload, ax_aload, ax_istore, ax_astore, ax_iinc, ax_i2, ax_i2n, ax_l2, ax_lsh, ax_ii, ax_il, ax_li, ax_pop, ax_dup, ax_dup2, ax_if, ax_cmp, ax_acmp, ax_goto, ax_getI, ax_getR, ax_putI, ax_putR, ax_gets, ax_getsT, ax_aldI, ax_aldR, ax_astI, ax_astR, ax_alen, ax_ret, ax_aret, ax_vret, am_st, am_kl, List.getElem?_cons_zero, List.getElem?_cons_succ, List.set_cons_zero, List.set_cons_succ, Value.category, true_and, and_true, if_true, if_false, reduceCtorEq, Bool.false_eq_true, false_implies, forall_const, Option.some.injEq, exists_eq_left', exists_eq_left, Sum.inl.injEq, Sum.inr.injEq, Prod.mk.injEq, nI_toInt, nI_clamp, am_ix_nI, am_ix_0, am_ix_1, am_ix_2, am_ix_3, am_n0, am_n1, am_n2, am_n3, am_n4, am_t0, am_t1, am_t2, am_t3, am_t4, am_tm1, am_nS, am_nP, am_nM, Int.ofNat_lt, Int.ofNat_le, Option.toList_some, Option.toList_none, List.cons_append, List.nil_append, List.append_nil, hs, y1, y2, y3, y4, y5, nI_add]
  iterate 1 refine ⟨by omega, ?_⟩
  refine am_callK [.ref X, .int _] [] (d' := 1) (lim' := (am_tp σ, am_us σ)) rfl (by omega) (Nat.le_of_eq htp) (Nat.le_of_eq hus) rfl (Nat.le_of_ble_eq_true rfl) (am_recv h0.1.1.1) ?_
  refine o_xlog h0.1 (fun a D1 σ1 hO1 hx1 f1 t1 u1 => ?_)
  obtain ⟨g1, g2, g3, g4⟩ := h0.x f1
  simp (disch := omega) only [ax_const, ax_iload, ax_lload, ax_aload, ax_istore, ax_astore, ax_iinc, ax_i2, ax_i2n, ax_l2, ax_lsh, ax_ii, ax_il, ax_li, ax_pop, ax_dup, ax_dup2, ax_if, ax_cmp, ax_acmp, ax_goto, ax_getI, ax_getR, ax_putI, ax_putR, ax_gets, ax_getsT, ax_aldI, ax_aldR, ax_astI, ax_astR, ax_alen, ax_ret, ax_aret, ax_vret, am_st, am_kl, List.getElem?_cons_zero, List.getElem?_cons_succ, List.set_cons_zero, List.set_cons_succ, Value.category, true_and, and_true, if_true, if_false, reduceCtorEq, Bool.false_eq_true, false_implies, forall_const, Option.some.injEq, exists_eq_left', exists_eq_left, Sum.inl.injEq, Sum.inr.injEq, Prod.mk.injEq, nI_toInt, nI_clamp, am_ix_nI, am_ix_0, am_ix_1, am_ix_2, am_ix_3, am_n0, am_n1, am_n2, am_n3, am_n4, am_t0, am_t1, am_t2, am_t3, am_t4, am_tm1, am_nS, am_nP, am_nM, Int.ofNat_lt, Int.ofNat_le, Option.toList_some, Option.toList_none, List.cons_append, List.nil_append, List.append_nil, g3, g4, y1, y2, y3, y4, y5, nI_add]
  iterate 1 refine ⟨by omega, ?_⟩
  refine am_callK [.ref (X + 719), .int _] [.int a] (d' := 1) (lim' := (am_tp σ1, am_us σ1)) rfl (by omega) (Nat.le_of_eq (t1.trans htp)) (Nat.le_of_eq (u1.trans hus)) rfl (Nat.le_of_ble_eq_true rfl) (am_recv g1.1.1) ?_
  refine o_ylog g1 g2 hG (fun a' D2 σ2 hO2 hy2 hq2 f2 t2 u2 => ?_)
  obtain ⟨e1, e2⟩ := oS.one oQ.one hO1 hO2
  subst e1 e2
  have k := hK σ2 D1 (h0.y f1 hx1 hy2 hq2 (oS.G hG (oQ.G hG) hO1) f2) (t2.trans (t1.trans htp)) (u2.trans (u1.trans hus))
  simp (disch := omega) only [ax_const, ax_iload, ax_lload, ax_aload, ax_istore, ax_astore, ax_iinc, ax_i2, ax_i2n, ax_l2, ax_lsh, ax_ii, ax_il, ax_li, ax_pop, ax_dup, ax_dup2, ax_if, ax_cmp, ax_acmp, ax_goto, ax_getI, ax_getR, ax_putI, ax_putR, ax_gets, ax_getsT, ax_aldI, ax_aldR, ax_astI, ax_astR, ax_alen, ax_ret, ax_aret, ax_vret, am_st, am_kl, List.getElem?_cons_zero, List.getElem?_cons_succ, List.set_cons_zero, List.set_cons_succ, Value.category, true_and, and_true, if_true, if_false, reduceCtorEq, Bool.false_eq_true, false_implies, forall_const, Option.some.injEq, exists_eq_left', exists_eq_left, Sum.inl.injEq, Sum.inr.injEq, Prod.mk.injEq, nI_toInt, nI_clamp, am_ix_nI, am_ix_0, am_ix_1, am_ix_2, am_ix_3, am_n0, am_n1, am_n2, am_n3, am_n4, am_t0, am_t1, am_t2, am_t3, am_t4, am_tm1, am_nS, am_nP, am_nM, Int.ofNat_lt, Int.ofNat_le, Option.toList_some, Option.toList_none, List.cons_append, List.nil_append, List.append_nil, hs, y1, y2, y3, y4, y5, nI_add]
  exact ⟨k, fun z => absurd trivial z⟩
theorem lwc_results {nm : String} {cc : ByteArray} {g : am_G} {l : Launch} {σ : am_S} {X b L i d : Nat} {xs : Nat → Int32} {D : xx_D} {lim : Nat × Nat} {Q : Option Value → am_S → Prop} (hc : cc = code) (h0 : lwI g σ X b L xs D) (hL : L ≤ 324) (hi : i + 4 < L) (hd : 40 ≤ d) (htp : am_tp σ = lim.1) (hus : am_us σ = lim.2)
    (hK : ∀ σ' D', lwI g σ' X b L xs D' → am_tp σ' = lim.1 → am_us σ' = lim.2 → am_W g l (mL_lawN nm cc) d lim Q 58 [some (.ref b), some (.ref X), some (.ref (X + 719)), some (.int (nI (i + 5)))] [] σ') : am_W g l (mL_lawN nm cc) d lim Q 529 [some (.ref b), some (.ref X), some (.ref (X + 719)), some (.int (nI i))] [] σ := by
  have hs := h0.2.2.2.2.1.1
  have hG := h0.2.2.2.1
  have hl8 : ∀ i, i < 4 → D.1 i < 8 := fun i hi => (h0.1.2.2.1 i hi).2.1
  have y1 : (1 : Int32) = nI 1 := rfl
  have y2 : (2 : Int32) = nI 2 := rfl
  have y3 : (3 : Int32) = nI 3 := rfl
  have y4 : (4 : Int32) = nI 4 := rfl
  have y5 : (5 : Int32) = nI 5 := rfl
  refine kL_law_529 hc ?_
  simp (disch := omega) only [ax_const, ax_iload, ax_lload, ax_aload, ax_istore, ax_astore, ax_iinc, ax_i2, ax_i2n, ax_l2, ax_lsh, ax_ii, ax_il, ax_li, ax_pop, ax_dup, ax_dup2, ax_if, ax_cmp, ax_acmp, ax_goto, ax_getI, ax_getR, ax_putI, ax_putR, ax_gets, ax_getsT, ax_aldI, ax_aldR, ax_astI, ax_astR, ax_alen, ax_ret, ax_aret, ax_vret, am_st, am_kl, List.getElem?_cons_zero, List.getElem?_cons_succ, List.set_cons_zero, List.set_cons_succ, Value.category, true_and, and_true, if_true, if_false, reduceCtorEq, Bool.false_eq_true, false_implies, forall_const, Option.some.injEq, exists_eq_left', exists_eq_left, Sum.inl.injEq, Sum.inr.injEq, Prod.mk.injEq, nI_toInt, nI_clamp, am_ix_nI, am_ix_0, am_ix_1, am_ix_2, am_ix_3, am_n0, am_n1, am_n2, am_n3, am_n4, am_t0, am_t1, am_t2, am_t3, am_t4, am_tm1, am_nS, am_nP, am_nM, Int.ofNat_lt, Int.ofNat_le, Option.toList_some, Option.toList_none, List.cons_append, List.nil_append, List.append_nil, hs, y1, y2, y3, y4, y5, nI_add]
  iterate 1 refine ⟨by omega, ?_⟩
  refine am_callK [.ref X, .int _] [] (d' := 1) (lim' := (am_tp σ, am_us σ)) rfl (by omega) (Nat.le_of_eq htp) (Nat.le_of_eq hus) rfl (Nat.le_of_ble_eq_true rfl) (am_recv h0.1.1.1) ?_
  refine o_xresults h0.1 (fun a D1 σ1 hO1 hx1 f1 t1 u1 => ?_)
  obtain ⟨g1, g2, g3, g4⟩ := h0.x f1
  simp (disch := omega) only [ax_const, ax_iload, ax_lload, ax_aload, ax_istore, ax_astore, ax_iinc, ax_i2, ax_i2n, ax_l2, ax_lsh, ax_ii, ax_il, ax_li, ax_pop, ax_dup, ax_dup2, ax_if, ax_cmp, ax_acmp, ax_goto, ax_getI, ax_getR, ax_putI, ax_putR, ax_gets, ax_getsT, ax_aldI, ax_aldR, ax_astI, ax_astR, ax_alen, ax_ret, ax_aret, ax_vret, am_st, am_kl, List.getElem?_cons_zero, List.getElem?_cons_succ, List.set_cons_zero, List.set_cons_succ, Value.category, true_and, and_true, if_true, if_false, reduceCtorEq, Bool.false_eq_true, false_implies, forall_const, Option.some.injEq, exists_eq_left', exists_eq_left, Sum.inl.injEq, Sum.inr.injEq, Prod.mk.injEq, nI_toInt, nI_clamp, am_ix_nI, am_ix_0, am_ix_1, am_ix_2, am_ix_3, am_n0, am_n1, am_n2, am_n3, am_n4, am_t0, am_t1, am_t2, am_t3, am_t4, am_tm1, am_nS, am_nP, am_nM, Int.ofNat_lt, Int.ofNat_le, Option.toList_some, Option.toList_none, List.cons_append, List.nil_append, List.append_nil, g3, g4, y1, y2, y3, y4, y5, nI_add]
  iterate 1 refine ⟨by omega, ?_⟩
  refine am_callK [.ref (X + 719), .int _] [.int a] (d' := 1) (lim' := (am_tp σ1, am_us σ1)) rfl (by omega) (Nat.le_of_eq (t1.trans htp)) (Nat.le_of_eq (u1.trans hus)) rfl (Nat.le_of_ble_eq_true rfl) (am_recv g1.1.1) ?_
  refine o_yresults g1 g2 hG (fun a' D2 σ2 hO2 hy2 hq2 f2 t2 u2 => ?_)
  obtain ⟨e1, e2⟩ := oS.one oQ.one hO1 hO2
  subst e1 e2
  have k := hK σ2 D1 (h0.y f1 hx1 hy2 hq2 (oS.G hG (oQ.G hG) hO1) f2) (t2.trans (t1.trans htp)) (u2.trans (u1.trans hus))
  simp (disch := omega) only [ax_const, ax_iload, ax_lload, ax_aload, ax_istore, ax_astore, ax_iinc, ax_i2, ax_i2n, ax_l2, ax_lsh, ax_ii, ax_il, ax_li, ax_pop, ax_dup, ax_dup2, ax_if, ax_cmp, ax_acmp, ax_goto, ax_getI, ax_getR, ax_putI, ax_putR, ax_gets, ax_getsT, ax_aldI, ax_aldR, ax_astI, ax_astR, ax_alen, ax_ret, ax_aret, ax_vret, am_st, am_kl, List.getElem?_cons_zero, List.getElem?_cons_succ, List.set_cons_zero, List.set_cons_succ, Value.category, true_and, and_true, if_true, if_false, reduceCtorEq, Bool.false_eq_true, false_implies, forall_const, Option.some.injEq, exists_eq_left', exists_eq_left, Sum.inl.injEq, Sum.inr.injEq, Prod.mk.injEq, nI_toInt, nI_clamp, am_ix_nI, am_ix_0, am_ix_1, am_ix_2, am_ix_3, am_n0, am_n1, am_n2, am_n3, am_n4, am_t0, am_t1, am_t2, am_t3, am_t4, am_tm1, am_nS, am_nP, am_nM, Int.ofNat_lt, Int.ofNat_le, Option.toList_some, Option.toList_none, List.cons_append, List.nil_append, List.append_nil, hs, y1, y2, y3, y4, y5, nI_add]
  exact ⟨k, fun z => absurd trivial z⟩
theorem lwc_draft {nm : String} {cc : ByteArray} {g : am_G} {l : Launch} {σ : am_S} {X b L i d : Nat} {xs : Nat → Int32} {D : xx_D} {lim : Nat × Nat} {Q : Option Value → am_S → Prop} (hc : cc = code) (h0 : lwI g σ X b L xs D) (hL : L ≤ 324) (hi : i + 4 < L) (hd : 40 ≤ d) (htp : am_tp σ = lim.1) (hus : am_us σ = lim.2)
    (hK : ∀ σ' D', lwI g σ' X b L xs D' → am_tp σ' = lim.1 → am_us σ' = lim.2 → am_W g l (mL_lawN nm cc) d lim Q 58 [some (.ref b), some (.ref X), some (.ref (X + 719)), some (.int (nI (i + 5)))] [] σ') : am_W g l (mL_lawN nm cc) d lim Q 595 [some (.ref b), some (.ref X), some (.ref (X + 719)), some (.int (nI i))] [] σ := by
  have hs := h0.2.2.2.2.1.1
  have hG := h0.2.2.2.1
  have hl8 : ∀ i, i < 4 → D.1 i < 8 := fun i hi => (h0.1.2.2.1 i hi).2.1
  have y1 : (1 : Int32) = nI 1 := rfl
  have y2 : (2 : Int32) = nI 2 := rfl
  have y3 : (3 : Int32) = nI 3 := rfl
  have y4 : (4 : Int32) = nI 4 := rfl
  have y5 : (5 : Int32) = nI 5 := rfl
  refine kL_law_595 hc ?_
  simp (disch := omega) only [ax_const, ax_iload, ax_lload, ax_aload, ax_istore, ax_astore, ax_iinc, ax_i2, ax_i2n, ax_l2, ax_lsh, ax_ii, ax_il, ax_li, ax_pop, ax_dup, ax_dup2, ax_if, ax_cmp, ax_acmp, ax_goto, ax_getI, ax_getR, ax_putI, ax_putR, ax_gets, ax_getsT, ax_aldI, ax_aldR, ax_astI, ax_astR, ax_alen, ax_ret, ax_aret, ax_vret, am_st, am_kl, List.getElem?_cons_zero, List.getElem?_cons_succ, List.set_cons_zero, List.set_cons_succ, Value.category, true_and, and_true, if_true, if_false, reduceCtorEq, Bool.false_eq_true, false_implies, forall_const, Option.some.injEq, exists_eq_left', exists_eq_left, Sum.inl.injEq, Sum.inr.injEq, Prod.mk.injEq, nI_toInt, nI_clamp, am_ix_nI, am_ix_0, am_ix_1, am_ix_2, am_ix_3, am_n0, am_n1, am_n2, am_n3, am_n4, am_t0, am_t1, am_t2, am_t3, am_t4, am_tm1, am_nS, am_nP, am_nM, Int.ofNat_lt, Int.ofNat_le, Option.toList_some, Option.toList_none, List.cons_append, List.nil_append, List.append_nil, hs, y1, y2, y3, y4, y5, nI_add]
  iterate 1 refine ⟨by omega, ?_⟩
  refine am_callK [.ref X, .int _] [] (d' := 1) (lim' := (am_tp σ, am_us σ)) rfl (by omega) (Nat.le_of_eq htp) (Nat.le_of_eq hus) rfl (Nat.le_of_ble_eq_true rfl) (am_recv h0.1.1.1) ?_
  refine o_xdraft h0.1 (fun a D1 σ1 hO1 hx1 f1 t1 u1 => ?_)
  obtain ⟨g1, g2, g3, g4⟩ := h0.x f1
  simp (disch := omega) only [ax_const, ax_iload, ax_lload, ax_aload, ax_istore, ax_astore, ax_iinc, ax_i2, ax_i2n, ax_l2, ax_lsh, ax_ii, ax_il, ax_li, ax_pop, ax_dup, ax_dup2, ax_if, ax_cmp, ax_acmp, ax_goto, ax_getI, ax_getR, ax_putI, ax_putR, ax_gets, ax_getsT, ax_aldI, ax_aldR, ax_astI, ax_astR, ax_alen, ax_ret, ax_aret, ax_vret, am_st, am_kl, List.getElem?_cons_zero, List.getElem?_cons_succ, List.set_cons_zero, List.set_cons_succ, Value.category, true_and, and_true, if_true, if_false, reduceCtorEq, Bool.false_eq_true, false_implies, forall_const, Option.some.injEq, exists_eq_left', exists_eq_left, Sum.inl.injEq, Sum.inr.injEq, Prod.mk.injEq, nI_toInt, nI_clamp, am_ix_nI, am_ix_0, am_ix_1, am_ix_2, am_ix_3, am_n0, am_n1, am_n2, am_n3, am_n4, am_t0, am_t1, am_t2, am_t3, am_t4, am_tm1, am_nS, am_nP, am_nM, Int.ofNat_lt, Int.ofNat_le, Option.toList_some, Option.toList_none, List.cons_append, List.nil_append, List.append_nil, g3, g4, y1, y2, y3, y4, y5, nI_add]
  iterate 1 refine ⟨by omega, ?_⟩
  refine am_callK [.ref (X + 719), .int _] [.int a] (d' := 1) (lim' := (am_tp σ1, am_us σ1)) rfl (by omega) (Nat.le_of_eq (t1.trans htp)) (Nat.le_of_eq (u1.trans hus)) rfl (Nat.le_of_ble_eq_true rfl) (am_recv g1.1.1) ?_
  refine o_ydraft g1 g2 hG (fun a' D2 σ2 hO2 hy2 hq2 f2 t2 u2 => ?_)
  obtain ⟨e1, e2⟩ := oS.one oQ.one hO1 hO2
  subst e1 e2
  have k := hK σ2 D1 (h0.y f1 hx1 hy2 hq2 (oS.G hG (oQ.G hG) hO1) f2) (t2.trans (t1.trans htp)) (u2.trans (u1.trans hus))
  simp (disch := omega) only [ax_const, ax_iload, ax_lload, ax_aload, ax_istore, ax_astore, ax_iinc, ax_i2, ax_i2n, ax_l2, ax_lsh, ax_ii, ax_il, ax_li, ax_pop, ax_dup, ax_dup2, ax_if, ax_cmp, ax_acmp, ax_goto, ax_getI, ax_getR, ax_putI, ax_putR, ax_gets, ax_getsT, ax_aldI, ax_aldR, ax_astI, ax_astR, ax_alen, ax_ret, ax_aret, ax_vret, am_st, am_kl, List.getElem?_cons_zero, List.getElem?_cons_succ, List.set_cons_zero, List.set_cons_succ, Value.category, true_and, and_true, if_true, if_false, reduceCtorEq, Bool.false_eq_true, false_implies, forall_const, Option.some.injEq, exists_eq_left', exists_eq_left, Sum.inl.injEq, Sum.inr.injEq, Prod.mk.injEq, nI_toInt, nI_clamp, am_ix_nI, am_ix_0, am_ix_1, am_ix_2, am_ix_3, am_n0, am_n1, am_n2, am_n3, am_n4, am_t0, am_t1, am_t2, am_t3, am_t4, am_tm1, am_nS, am_nP, am_nM, Int.ofNat_lt, Int.ofNat_le, Option.toList_some, Option.toList_none, List.cons_append, List.nil_append, List.append_nil, hs, y1, y2, y3, y4, y5, nI_add]
  exact ⟨k, fun z => absurd trivial z⟩
theorem lwc_begin {nm : String} {cc : ByteArray} {g : am_G} {l : Launch} {σ : am_S} {X b L i d : Nat} {xs : Nat → Int32} {D : xx_D} {lim : Nat × Nat} {Q : Option Value → am_S → Prop} (hc : cc = code) (h0 : lwI g σ X b L xs D) (hL : L ≤ 324) (hi : i + 4 < L) (hd : 40 ≤ d) (htp : am_tp σ = lim.1) (hus : am_us σ = lim.2)
    (hK : ∀ σ' D', lwI g σ' X b L xs D' → am_tp σ' = lim.1 → am_us σ' = lim.2 → am_W g l (mL_lawN nm cc) d lim Q 58 [some (.ref b), some (.ref X), some (.ref (X + 719)), some (.int (nI (i + 5)))] [] σ') : am_W g l (mL_lawN nm cc) d lim Q 238 [some (.ref b), some (.ref X), some (.ref (X + 719)), some (.int (nI i))] [] σ := by
  have hs := h0.2.2.2.2.1.1
  have hG := h0.2.2.2.1
  have hl8 : ∀ i, i < 4 → D.1 i < 8 := fun i hi => (h0.1.2.2.1 i hi).2.1
  have y1 : (1 : Int32) = nI 1 := rfl
  have y2 : (2 : Int32) = nI 2 := rfl
  have y3 : (3 : Int32) = nI 3 := rfl
  have y4 : (4 : Int32) = nI 4 := rfl
  have y5 : (5 : Int32) = nI 5 := rfl
  refine kL_law_238 hc ?_
  simp (disch := omega) only [ax_const, ax_iload, ax_lload, ax_aload, ax_istore, ax_astore, ax_iinc, ax_i2, ax_i2n, ax_l2, ax_lsh, ax_ii, ax_il, ax_li, ax_pop, ax_dup, ax_dup2, ax_if, ax_cmp, ax_acmp, ax_goto, ax_getI, ax_getR, ax_putI, ax_putR, ax_gets, ax_getsT, ax_aldI, ax_aldR, ax_astI, ax_astR, ax_alen, ax_ret, ax_aret, ax_vret, am_st, am_kl, List.getElem?_cons_zero, List.getElem?_cons_succ, List.set_cons_zero, List.set_cons_succ, Value.category, true_and, and_true, if_true, if_false, reduceCtorEq, Bool.false_eq_true, false_implies, forall_const, Option.some.injEq, exists_eq_left', exists_eq_left, Sum.inl.injEq, Sum.inr.injEq, Prod.mk.injEq, nI_toInt, nI_clamp, am_ix_nI, am_ix_0, am_ix_1, am_ix_2, am_ix_3, am_n0, am_n1, am_n2, am_n3, am_n4, am_t0, am_t1, am_t2, am_t3, am_t4, am_tm1, am_nS, am_nP, am_nM, Int.ofNat_lt, Int.ofNat_le, Option.toList_some, Option.toList_none, List.cons_append, List.nil_append, List.append_nil, hs, y1, y2, y3, y4, y5, nI_add]
  iterate 1 refine ⟨by omega, ?_⟩
  refine am_callK [.ref X, .int _] [] (d' := 1) (lim' := (am_tp σ, am_us σ)) rfl (by omega) (Nat.le_of_eq htp) (Nat.le_of_eq hus) rfl (Nat.le_of_ble_eq_true rfl) (am_recv h0.1.1.1) ?_
  refine o_xbegin h0.1 hG (fun a D1 σ1 hO1 hx1 f1 t1 u1 => ?_)
  obtain ⟨g1, g2, g3, g4⟩ := h0.x f1
  simp (disch := omega) only [ax_const, ax_iload, ax_lload, ax_aload, ax_istore, ax_astore, ax_iinc, ax_i2, ax_i2n, ax_l2, ax_lsh, ax_ii, ax_il, ax_li, ax_pop, ax_dup, ax_dup2, ax_if, ax_cmp, ax_acmp, ax_goto, ax_getI, ax_getR, ax_putI, ax_putR, ax_gets, ax_getsT, ax_aldI, ax_aldR, ax_astI, ax_astR, ax_alen, ax_ret, ax_aret, ax_vret, am_st, am_kl, List.getElem?_cons_zero, List.getElem?_cons_succ, List.set_cons_zero, List.set_cons_succ, Value.category, true_and, and_true, if_true, if_false, reduceCtorEq, Bool.false_eq_true, false_implies, forall_const, Option.some.injEq, exists_eq_left', exists_eq_left, Sum.inl.injEq, Sum.inr.injEq, Prod.mk.injEq, nI_toInt, nI_clamp, am_ix_nI, am_ix_0, am_ix_1, am_ix_2, am_ix_3, am_n0, am_n1, am_n2, am_n3, am_n4, am_t0, am_t1, am_t2, am_t3, am_t4, am_tm1, am_nS, am_nP, am_nM, Int.ofNat_lt, Int.ofNat_le, Option.toList_some, Option.toList_none, List.cons_append, List.nil_append, List.append_nil, g3, g4, y1, y2, y3, y4, y5, nI_add]
  iterate 1 refine ⟨by omega, ?_⟩
  refine am_callK [.ref (X + 719), .int _] [.int a] (d' := 3) (lim' := (am_tp σ1, am_us σ1)) rfl (by omega) (Nat.le_of_eq (t1.trans htp)) (Nat.le_of_eq (u1.trans hus)) rfl (Nat.le_of_ble_eq_true rfl) (am_recv g1.1.1) ?_
  refine o_ybegin g1 g2 hG (fun a' D2 σ2 hO2 hy2 hq2 f2 t2 u2 => ?_)
  obtain ⟨e1, e2⟩ := oS.one oBegin.one hO1 hO2
  subst e1 e2
  have k := hK σ2 D1 (h0.y f1 hx1 hy2 hq2 (oS.G hG (oBegin.G hG hl8) hO1) f2) (t2.trans (t1.trans htp)) (u2.trans (u1.trans hus))
  simp (disch := omega) only [ax_const, ax_iload, ax_lload, ax_aload, ax_istore, ax_astore, ax_iinc, ax_i2, ax_i2n, ax_l2, ax_lsh, ax_ii, ax_il, ax_li, ax_pop, ax_dup, ax_dup2, ax_if, ax_cmp, ax_acmp, ax_goto, ax_getI, ax_getR, ax_putI, ax_putR, ax_gets, ax_getsT, ax_aldI, ax_aldR, ax_astI, ax_astR, ax_alen, ax_ret, ax_aret, ax_vret, am_st, am_kl, List.getElem?_cons_zero, List.getElem?_cons_succ, List.set_cons_zero, List.set_cons_succ, Value.category, true_and, and_true, if_true, if_false, reduceCtorEq, Bool.false_eq_true, false_implies, forall_const, Option.some.injEq, exists_eq_left', exists_eq_left, Sum.inl.injEq, Sum.inr.injEq, Prod.mk.injEq, nI_toInt, nI_clamp, am_ix_nI, am_ix_0, am_ix_1, am_ix_2, am_ix_3, am_n0, am_n1, am_n2, am_n3, am_n4, am_t0, am_t1, am_t2, am_t3, am_t4, am_tm1, am_nS, am_nP, am_nM, Int.ofNat_lt, Int.ofNat_le, Option.toList_some, Option.toList_none, List.cons_append, List.nil_append, List.append_nil, hs, y1, y2, y3, y4, y5, nI_add]
  exact ⟨k, fun z => absurd trivial z⟩
theorem lwc_commit {nm : String} {cc : ByteArray} {g : am_G} {l : Launch} {σ : am_S} {X b L i d : Nat} {xs : Nat → Int32} {D : xx_D} {lim : Nat × Nat} {Q : Option Value → am_S → Prop} (hc : cc = code) (h0 : lwI g σ X b L xs D) (hL : L ≤ 324) (hi : i + 4 < L) (hd : 40 ≤ d) (htp : am_tp σ = lim.1) (hus : am_us σ = lim.2)
    (hK : ∀ σ' D', lwI g σ' X b L xs D' → am_tp σ' = lim.1 → am_us σ' = lim.2 → am_W g l (mL_lawN nm cc) d lim Q 58 [some (.ref b), some (.ref X), some (.ref (X + 719)), some (.int (nI (i + 5)))] [] σ') : am_W g l (mL_lawN nm cc) d lim Q 261 [some (.ref b), some (.ref X), some (.ref (X + 719)), some (.int (nI i))] [] σ := by
  have hs := h0.2.2.2.2.1.1
  have hG := h0.2.2.2.1
  have hl8 : ∀ i, i < 4 → D.1 i < 8 := fun i hi => (h0.1.2.2.1 i hi).2.1
  have y1 : (1 : Int32) = nI 1 := rfl
  have y2 : (2 : Int32) = nI 2 := rfl
  have y3 : (3 : Int32) = nI 3 := rfl
  have y4 : (4 : Int32) = nI 4 := rfl
  have y5 : (5 : Int32) = nI 5 := rfl
  refine kL_law_261 hc ?_
  simp (disch := omega) only [ax_const, ax_iload, ax_lload, ax_aload, ax_istore, ax_astore, ax_iinc, ax_i2, ax_i2n, ax_l2, ax_lsh, ax_ii, ax_il, ax_li, ax_pop, ax_dup, ax_dup2, ax_if, ax_cmp, ax_acmp, ax_goto, ax_getI, ax_getR, ax_putI, ax_putR, ax_gets, ax_getsT, ax_aldI, ax_aldR, ax_astI, ax_astR, ax_alen, ax_ret, ax_aret, ax_vret, am_st, am_kl, List.getElem?_cons_zero, List.getElem?_cons_succ, List.set_cons_zero, List.set_cons_succ, Value.category, true_and, and_true, if_true, if_false, reduceCtorEq, Bool.false_eq_true, false_implies, forall_const, Option.some.injEq, exists_eq_left', exists_eq_left, Sum.inl.injEq, Sum.inr.injEq, Prod.mk.injEq, nI_toInt, nI_clamp, am_ix_nI, am_ix_0, am_ix_1, am_ix_2, am_ix_3, am_n0, am_n1, am_n2, am_n3, am_n4, am_t0, am_t1, am_t2, am_t3, am_t4, am_tm1, am_nS, am_nP, am_nM, Int.ofNat_lt, Int.ofNat_le, Option.toList_some, Option.toList_none, List.cons_append, List.nil_append, List.append_nil, hs, y1, y2, y3, y4, y5, nI_add]
  iterate 1 refine ⟨by omega, ?_⟩
  refine am_callK [.ref X, .int _] [] (d' := 5) (lim' := (am_tp σ, am_us σ)) rfl (by omega) (Nat.le_of_eq htp) (Nat.le_of_eq hus) rfl (Nat.le_of_ble_eq_true rfl) (am_recv h0.1.1.1) ?_
  refine o_xcommit h0.1 (fun a D1 σ1 hO1 hx1 f1 t1 u1 => ?_)
  obtain ⟨g1, g2, g3, g4⟩ := h0.x f1
  simp (disch := omega) only [ax_const, ax_iload, ax_lload, ax_aload, ax_istore, ax_astore, ax_iinc, ax_i2, ax_i2n, ax_l2, ax_lsh, ax_ii, ax_il, ax_li, ax_pop, ax_dup, ax_dup2, ax_if, ax_cmp, ax_acmp, ax_goto, ax_getI, ax_getR, ax_putI, ax_putR, ax_gets, ax_getsT, ax_aldI, ax_aldR, ax_astI, ax_astR, ax_alen, ax_ret, ax_aret, ax_vret, am_st, am_kl, List.getElem?_cons_zero, List.getElem?_cons_succ, List.set_cons_zero, List.set_cons_succ, Value.category, true_and, and_true, if_true, if_false, reduceCtorEq, Bool.false_eq_true, false_implies, forall_const, Option.some.injEq, exists_eq_left', exists_eq_left, Sum.inl.injEq, Sum.inr.injEq, Prod.mk.injEq, nI_toInt, nI_clamp, am_ix_nI, am_ix_0, am_ix_1, am_ix_2, am_ix_3, am_n0, am_n1, am_n2, am_n3, am_n4, am_t0, am_t1, am_t2, am_t3, am_t4, am_tm1, am_nS, am_nP, am_nM, Int.ofNat_lt, Int.ofNat_le, Option.toList_some, Option.toList_none, List.cons_append, List.nil_append, List.append_nil, g3, g4, y1, y2, y3, y4, y5, nI_add]
  iterate 1 refine ⟨by omega, ?_⟩
  refine am_callK [.ref (X + 719), .int _] [.int a] (d' := 2) (lim' := (am_tp σ1, am_us σ1)) rfl (by omega) (Nat.le_of_eq (t1.trans htp)) (Nat.le_of_eq (u1.trans hus)) rfl (Nat.le_of_ble_eq_true rfl) (am_recv g1.1.1) ?_
  refine o_ycommit g1 g2 hG (fun a' D2 σ2 hO2 hy2 hq2 f2 t2 u2 => ?_)
  obtain ⟨e1, e2⟩ := oS.one oCommit.one hO1 hO2
  subst e1 e2
  have k := hK σ2 D1 (h0.y f1 hx1 hy2 hq2 (oS.G hG (oCommit.G hG hl8) hO1) f2) (t2.trans (t1.trans htp)) (u2.trans (u1.trans hus))
  simp (disch := omega) only [ax_const, ax_iload, ax_lload, ax_aload, ax_istore, ax_astore, ax_iinc, ax_i2, ax_i2n, ax_l2, ax_lsh, ax_ii, ax_il, ax_li, ax_pop, ax_dup, ax_dup2, ax_if, ax_cmp, ax_acmp, ax_goto, ax_getI, ax_getR, ax_putI, ax_putR, ax_gets, ax_getsT, ax_aldI, ax_aldR, ax_astI, ax_astR, ax_alen, ax_ret, ax_aret, ax_vret, am_st, am_kl, List.getElem?_cons_zero, List.getElem?_cons_succ, List.set_cons_zero, List.set_cons_succ, Value.category, true_and, and_true, if_true, if_false, reduceCtorEq, Bool.false_eq_true, false_implies, forall_const, Option.some.injEq, exists_eq_left', exists_eq_left, Sum.inl.injEq, Sum.inr.injEq, Prod.mk.injEq, nI_toInt, nI_clamp, am_ix_nI, am_ix_0, am_ix_1, am_ix_2, am_ix_3, am_n0, am_n1, am_n2, am_n3, am_n4, am_t0, am_t1, am_t2, am_t3, am_t4, am_tm1, am_nS, am_nP, am_nM, Int.ofNat_lt, Int.ofNat_le, Option.toList_some, Option.toList_none, List.cons_append, List.nil_append, List.append_nil, hs, y1, y2, y3, y4, y5, nI_add]
  exact ⟨k, fun z => absurd trivial z⟩
theorem lwc_abort {nm : String} {cc : ByteArray} {g : am_G} {l : Launch} {σ : am_S} {X b L i d : Nat} {xs : Nat → Int32} {D : xx_D} {lim : Nat × Nat} {Q : Option Value → am_S → Prop} (hc : cc = code) (h0 : lwI g σ X b L xs D) (hL : L ≤ 324) (hi : i + 4 < L) (hd : 40 ≤ d) (htp : am_tp σ = lim.1) (hus : am_us σ = lim.2)
    (hK : ∀ σ' D', lwI g σ' X b L xs D' → am_tp σ' = lim.1 → am_us σ' = lim.2 → am_W g l (mL_lawN nm cc) d lim Q 58 [some (.ref b), some (.ref X), some (.ref (X + 719)), some (.int (nI (i + 5)))] [] σ') : am_W g l (mL_lawN nm cc) d lim Q 284 [some (.ref b), some (.ref X), some (.ref (X + 719)), some (.int (nI i))] [] σ := by
  have hs := h0.2.2.2.2.1.1
  have hG := h0.2.2.2.1
  have hl8 : ∀ i, i < 4 → D.1 i < 8 := fun i hi => (h0.1.2.2.1 i hi).2.1
  have y1 : (1 : Int32) = nI 1 := rfl
  have y2 : (2 : Int32) = nI 2 := rfl
  have y3 : (3 : Int32) = nI 3 := rfl
  have y4 : (4 : Int32) = nI 4 := rfl
  have y5 : (5 : Int32) = nI 5 := rfl
  refine kL_law_284 hc ?_
  simp (disch := omega) only [ax_const, ax_iload, ax_lload, ax_aload, ax_istore, ax_astore, ax_iinc, ax_i2, ax_i2n, ax_l2, ax_lsh, ax_ii, ax_il, ax_li, ax_pop, ax_dup, ax_dup2, ax_if, ax_cmp, ax_acmp, ax_goto, ax_getI, ax_getR, ax_putI, ax_putR, ax_gets, ax_getsT, ax_aldI, ax_aldR, ax_astI, ax_astR, ax_alen, ax_ret, ax_aret, ax_vret, am_st, am_kl, List.getElem?_cons_zero, List.getElem?_cons_succ, List.set_cons_zero, List.set_cons_succ, Value.category, true_and, and_true, if_true, if_false, reduceCtorEq, Bool.false_eq_true, false_implies, forall_const, Option.some.injEq, exists_eq_left', exists_eq_left, Sum.inl.injEq, Sum.inr.injEq, Prod.mk.injEq, nI_toInt, nI_clamp, am_ix_nI, am_ix_0, am_ix_1, am_ix_2, am_ix_3, am_n0, am_n1, am_n2, am_n3, am_n4, am_t0, am_t1, am_t2, am_t3, am_t4, am_tm1, am_nS, am_nP, am_nM, Int.ofNat_lt, Int.ofNat_le, Option.toList_some, Option.toList_none, List.cons_append, List.nil_append, List.append_nil, hs, y1, y2, y3, y4, y5, nI_add]
  iterate 1 refine ⟨by omega, ?_⟩
  refine am_callK [.ref X, .int _] [] (d' := 5) (lim' := (am_tp σ, am_us σ)) rfl (by omega) (Nat.le_of_eq htp) (Nat.le_of_eq hus) rfl (Nat.le_of_ble_eq_true rfl) (am_recv h0.1.1.1) ?_
  refine o_xabort h0.1 (fun a D1 σ1 hO1 hx1 f1 t1 u1 => ?_)
  obtain ⟨g1, g2, g3, g4⟩ := h0.x f1
  simp (disch := omega) only [ax_const, ax_iload, ax_lload, ax_aload, ax_istore, ax_astore, ax_iinc, ax_i2, ax_i2n, ax_l2, ax_lsh, ax_ii, ax_il, ax_li, ax_pop, ax_dup, ax_dup2, ax_if, ax_cmp, ax_acmp, ax_goto, ax_getI, ax_getR, ax_putI, ax_putR, ax_gets, ax_getsT, ax_aldI, ax_aldR, ax_astI, ax_astR, ax_alen, ax_ret, ax_aret, ax_vret, am_st, am_kl, List.getElem?_cons_zero, List.getElem?_cons_succ, List.set_cons_zero, List.set_cons_succ, Value.category, true_and, and_true, if_true, if_false, reduceCtorEq, Bool.false_eq_true, false_implies, forall_const, Option.some.injEq, exists_eq_left', exists_eq_left, Sum.inl.injEq, Sum.inr.injEq, Prod.mk.injEq, nI_toInt, nI_clamp, am_ix_nI, am_ix_0, am_ix_1, am_ix_2, am_ix_3, am_n0, am_n1, am_n2, am_n3, am_n4, am_t0, am_t1, am_t2, am_t3, am_t4, am_tm1, am_nS, am_nP, am_nM, Int.ofNat_lt, Int.ofNat_le, Option.toList_some, Option.toList_none, List.cons_append, List.nil_append, List.append_nil, g3, g4, y1, y2, y3, y4, y5, nI_add]
  iterate 1 refine ⟨by omega, ?_⟩
  refine am_callK [.ref (X + 719), .int _] [.int a] (d' := 1) (lim' := (am_tp σ1, am_us σ1)) rfl (by omega) (Nat.le_of_eq (t1.trans htp)) (Nat.le_of_eq (u1.trans hus)) rfl (Nat.le_of_ble_eq_true rfl) (am_recv g1.1.1) ?_
  refine o_yabort g1 g2 hG (fun a' D2 σ2 hO2 hy2 hq2 f2 t2 u2 => ?_)
  obtain ⟨e1, e2⟩ := oS.one oAbort.one hO1 hO2
  subst e1 e2
  have k := hK σ2 D1 (h0.y f1 hx1 hy2 hq2 (oS.G hG (oAbort.G hG hl8) hO1) f2) (t2.trans (t1.trans htp)) (u2.trans (u1.trans hus))
  simp (disch := omega) only [ax_const, ax_iload, ax_lload, ax_aload, ax_istore, ax_astore, ax_iinc, ax_i2, ax_i2n, ax_l2, ax_lsh, ax_ii, ax_il, ax_li, ax_pop, ax_dup, ax_dup2, ax_if, ax_cmp, ax_acmp, ax_goto, ax_getI, ax_getR, ax_putI, ax_putR, ax_gets, ax_getsT, ax_aldI, ax_aldR, ax_astI, ax_astR, ax_alen, ax_ret, ax_aret, ax_vret, am_st, am_kl, List.getElem?_cons_zero, List.getElem?_cons_succ, List.set_cons_zero, List.set_cons_succ, Value.category, true_and, and_true, if_true, if_false, reduceCtorEq, Bool.false_eq_true, false_implies, forall_const, Option.some.injEq, exists_eq_left', exists_eq_left, Sum.inl.injEq, Sum.inr.injEq, Prod.mk.injEq, nI_toInt, nI_clamp, am_ix_nI, am_ix_0, am_ix_1, am_ix_2, am_ix_3, am_n0, am_n1, am_n2, am_n3, am_n4, am_t0, am_t1, am_t2, am_t3, am_t4, am_tm1, am_nS, am_nP, am_nM, Int.ofNat_lt, Int.ofNat_le, Option.toList_some, Option.toList_none, List.cons_append, List.nil_append, List.append_nil, hs, y1, y2, y3, y4, y5, nI_add]
  exact ⟨k, fun z => absurd trivial z⟩
theorem lwc_checkpoint {nm : String} {cc : ByteArray} {g : am_G} {l : Launch} {σ : am_S} {X b L i d : Nat} {xs : Nat → Int32} {D : xx_D} {lim : Nat × Nat} {Q : Option Value → am_S → Prop} (hc : cc = code) (h0 : lwI g σ X b L xs D) (hL : L ≤ 324) (hi : i + 4 < L) (hd : 40 ≤ d) (htp : am_tp σ = lim.1) (hus : am_us σ = lim.2)
    (hK : ∀ σ' D', lwI g σ' X b L xs D' → am_tp σ' = lim.1 → am_us σ' = lim.2 → am_W g l (mL_lawN nm cc) d lim Q 58 [some (.ref b), some (.ref X), some (.ref (X + 719)), some (.int (nI (i + 5)))] [] σ') : am_W g l (mL_lawN nm cc) d lim Q 307 [some (.ref b), some (.ref X), some (.ref (X + 719)), some (.int (nI i))] [] σ := by
  have hs := h0.2.2.2.2.1.1
  have hG := h0.2.2.2.1
  have hl8 : ∀ i, i < 4 → D.1 i < 8 := fun i hi => (h0.1.2.2.1 i hi).2.1
  have y1 : (1 : Int32) = nI 1 := rfl
  have y2 : (2 : Int32) = nI 2 := rfl
  have y3 : (3 : Int32) = nI 3 := rfl
  have y4 : (4 : Int32) = nI 4 := rfl
  have y5 : (5 : Int32) = nI 5 := rfl
  refine kL_law_307 hc ?_
  simp (disch := omega) only [ax_const, ax_iload, ax_lload, ax_aload, ax_istore, ax_astore, ax_iinc, ax_i2, ax_i2n, ax_l2, ax_lsh, ax_ii, ax_il, ax_li, ax_pop, ax_dup, ax_dup2, ax_if, ax_cmp, ax_acmp, ax_goto, ax_getI, ax_getR, ax_putI, ax_putR, ax_gets, ax_getsT, ax_aldI, ax_aldR, ax_astI, ax_astR, ax_alen, ax_ret, ax_aret, ax_vret, am_st, am_kl, List.getElem?_cons_zero, List.getElem?_cons_succ, List.set_cons_zero, List.set_cons_succ, Value.category, true_and, and_true, if_true, if_false, reduceCtorEq, Bool.false_eq_true, false_implies, forall_const, Option.some.injEq, exists_eq_left', exists_eq_left, Sum.inl.injEq, Sum.inr.injEq, Prod.mk.injEq, nI_toInt, nI_clamp, am_ix_nI, am_ix_0, am_ix_1, am_ix_2, am_ix_3, am_n0, am_n1, am_n2, am_n3, am_n4, am_t0, am_t1, am_t2, am_t3, am_t4, am_tm1, am_nS, am_nP, am_nM, Int.ofNat_lt, Int.ofNat_le, Option.toList_some, Option.toList_none, List.cons_append, List.nil_append, List.append_nil, hs, y1, y2, y3, y4, y5, nI_add]
  iterate 1 refine ⟨by omega, ?_⟩
  refine am_callK [.ref X, .int _] [] (d' := 2) (lim' := (am_tp σ, am_us σ)) rfl (by omega) (Nat.le_of_eq htp) (Nat.le_of_eq hus) rfl (Nat.le_of_ble_eq_true rfl) (am_recv h0.1.1.1) ?_
  refine o_xcheckpoint h0.1 (fun a D1 σ1 hO1 hx1 f1 t1 u1 => ?_)
  obtain ⟨g1, g2, g3, g4⟩ := h0.x f1
  simp (disch := omega) only [ax_const, ax_iload, ax_lload, ax_aload, ax_istore, ax_astore, ax_iinc, ax_i2, ax_i2n, ax_l2, ax_lsh, ax_ii, ax_il, ax_li, ax_pop, ax_dup, ax_dup2, ax_if, ax_cmp, ax_acmp, ax_goto, ax_getI, ax_getR, ax_putI, ax_putR, ax_gets, ax_getsT, ax_aldI, ax_aldR, ax_astI, ax_astR, ax_alen, ax_ret, ax_aret, ax_vret, am_st, am_kl, List.getElem?_cons_zero, List.getElem?_cons_succ, List.set_cons_zero, List.set_cons_succ, Value.category, true_and, and_true, if_true, if_false, reduceCtorEq, Bool.false_eq_true, false_implies, forall_const, Option.some.injEq, exists_eq_left', exists_eq_left, Sum.inl.injEq, Sum.inr.injEq, Prod.mk.injEq, nI_toInt, nI_clamp, am_ix_nI, am_ix_0, am_ix_1, am_ix_2, am_ix_3, am_n0, am_n1, am_n2, am_n3, am_n4, am_t0, am_t1, am_t2, am_t3, am_t4, am_tm1, am_nS, am_nP, am_nM, Int.ofNat_lt, Int.ofNat_le, Option.toList_some, Option.toList_none, List.cons_append, List.nil_append, List.append_nil, g3, g4, y1, y2, y3, y4, y5, nI_add]
  iterate 1 refine ⟨by omega, ?_⟩
  refine am_callK [.ref (X + 719), .int _] [.int a] (d' := 1) (lim' := (am_tp σ1, am_us σ1)) rfl (by omega) (Nat.le_of_eq (t1.trans htp)) (Nat.le_of_eq (u1.trans hus)) rfl (Nat.le_of_ble_eq_true rfl) (am_recv g1.1.1) ?_
  refine o_ycheckpoint g1 g2 hG (fun a' D2 σ2 hO2 hy2 hq2 f2 t2 u2 => ?_)
  obtain ⟨e1, e2⟩ := oS.one oChk.one hO1 hO2
  subst e1 e2
  have k := hK σ2 D1 (h0.y f1 hx1 hy2 hq2 (oS.G hG (oChk.G hG hl8) hO1) f2) (t2.trans (t1.trans htp)) (u2.trans (u1.trans hus))
  simp (disch := omega) only [ax_const, ax_iload, ax_lload, ax_aload, ax_istore, ax_astore, ax_iinc, ax_i2, ax_i2n, ax_l2, ax_lsh, ax_ii, ax_il, ax_li, ax_pop, ax_dup, ax_dup2, ax_if, ax_cmp, ax_acmp, ax_goto, ax_getI, ax_getR, ax_putI, ax_putR, ax_gets, ax_getsT, ax_aldI, ax_aldR, ax_astI, ax_astR, ax_alen, ax_ret, ax_aret, ax_vret, am_st, am_kl, List.getElem?_cons_zero, List.getElem?_cons_succ, List.set_cons_zero, List.set_cons_succ, Value.category, true_and, and_true, if_true, if_false, reduceCtorEq, Bool.false_eq_true, false_implies, forall_const, Option.some.injEq, exists_eq_left', exists_eq_left, Sum.inl.injEq, Sum.inr.injEq, Prod.mk.injEq, nI_toInt, nI_clamp, am_ix_nI, am_ix_0, am_ix_1, am_ix_2, am_ix_3, am_n0, am_n1, am_n2, am_n3, am_n4, am_t0, am_t1, am_t2, am_t3, am_t4, am_tm1, am_nS, am_nP, am_nM, Int.ofNat_lt, Int.ofNat_le, Option.toList_some, Option.toList_none, List.cons_append, List.nil_append, List.append_nil, hs, y1, y2, y3, y4, y5, nI_add]
  exact ⟨k, fun z => absurd trivial z⟩
theorem lwc_rows {nm : String} {cc : ByteArray} {g : am_G} {l : Launch} {σ : am_S} {X b L i d : Nat} {xs : Nat → Int32} {D : xx_D} {lim : Nat × Nat} {Q : Option Value → am_S → Prop} (hc : cc = code) (h0 : lwI g σ X b L xs D) (hL : L ≤ 324) (hi : i + 4 < L) (hd : 40 ≤ d) (htp : am_tp σ = lim.1) (hus : am_us σ = lim.2)
    (hK : ∀ σ' D', lwI g σ' X b L xs D' → am_tp σ' = lim.1 → am_us σ' = lim.2 → am_W g l (mL_lawN nm cc) d lim Q 58 [some (.ref b), some (.ref X), some (.ref (X + 719)), some (.int (nI (i + 5)))] [] σ') : am_W g l (mL_lawN nm cc) d lim Q 443 [some (.ref b), some (.ref X), some (.ref (X + 719)), some (.int (nI i))] [] σ := by
  have hs := h0.2.2.2.2.1.1
  have hG := h0.2.2.2.1
  have hl8 : ∀ i, i < 4 → D.1 i < 8 := fun i hi => (h0.1.2.2.1 i hi).2.1
  have y1 : (1 : Int32) = nI 1 := rfl
  have y2 : (2 : Int32) = nI 2 := rfl
  have y3 : (3 : Int32) = nI 3 := rfl
  have y4 : (4 : Int32) = nI 4 := rfl
  have y5 : (5 : Int32) = nI 5 := rfl
  refine kL_law_443 hc ?_
  simp (disch := omega) only [ax_const, ax_iload, ax_lload, ax_aload, ax_istore, ax_astore, ax_iinc, ax_i2, ax_i2n, ax_l2, ax_lsh, ax_ii, ax_il, ax_li, ax_pop, ax_dup, ax_dup2, ax_if, ax_cmp, ax_acmp, ax_goto, ax_getI, ax_getR, ax_putI, ax_putR, ax_gets, ax_getsT, ax_aldI, ax_aldR, ax_astI, ax_astR, ax_alen, ax_ret, ax_aret, ax_vret, am_st, am_kl, List.getElem?_cons_zero, List.getElem?_cons_succ, List.set_cons_zero, List.set_cons_succ, Value.category, true_and, and_true, if_true, if_false, reduceCtorEq, Bool.false_eq_true, false_implies, forall_const, Option.some.injEq, exists_eq_left', exists_eq_left, Sum.inl.injEq, Sum.inr.injEq, Prod.mk.injEq, nI_toInt, nI_clamp, am_ix_nI, am_ix_0, am_ix_1, am_ix_2, am_ix_3, am_n0, am_n1, am_n2, am_n3, am_n4, am_t0, am_t1, am_t2, am_t3, am_t4, am_tm1, am_nS, am_nP, am_nM, Int.ofNat_lt, Int.ofNat_le, Option.toList_some, Option.toList_none, List.cons_append, List.nil_append, List.append_nil, hs, y1, y2, y3, y4, y5, nI_add]
  iterate 2 refine ⟨by omega, ?_⟩
  refine am_callK [.ref X, .int _, .int _] [] (d' := 4) (lim' := (am_tp σ, am_us σ)) rfl (by omega) (Nat.le_of_eq htp) (Nat.le_of_eq hus) rfl (Nat.le_of_ble_eq_true rfl) (am_recv h0.1.1.1) ?_
  refine o_xrows h0.1 (fun a D1 σ1 hO1 hx1 f1 t1 u1 => ?_)
  obtain ⟨g1, g2, g3, g4⟩ := h0.x f1
  simp (disch := omega) only [ax_const, ax_iload, ax_lload, ax_aload, ax_istore, ax_astore, ax_iinc, ax_i2, ax_i2n, ax_l2, ax_lsh, ax_ii, ax_il, ax_li, ax_pop, ax_dup, ax_dup2, ax_if, ax_cmp, ax_acmp, ax_goto, ax_getI, ax_getR, ax_putI, ax_putR, ax_gets, ax_getsT, ax_aldI, ax_aldR, ax_astI, ax_astR, ax_alen, ax_ret, ax_aret, ax_vret, am_st, am_kl, List.getElem?_cons_zero, List.getElem?_cons_succ, List.set_cons_zero, List.set_cons_succ, Value.category, true_and, and_true, if_true, if_false, reduceCtorEq, Bool.false_eq_true, false_implies, forall_const, Option.some.injEq, exists_eq_left', exists_eq_left, Sum.inl.injEq, Sum.inr.injEq, Prod.mk.injEq, nI_toInt, nI_clamp, am_ix_nI, am_ix_0, am_ix_1, am_ix_2, am_ix_3, am_n0, am_n1, am_n2, am_n3, am_n4, am_t0, am_t1, am_t2, am_t3, am_t4, am_tm1, am_nS, am_nP, am_nM, Int.ofNat_lt, Int.ofNat_le, Option.toList_some, Option.toList_none, List.cons_append, List.nil_append, List.append_nil, g3, g4, y1, y2, y3, y4, y5, nI_add]
  iterate 2 refine ⟨by omega, ?_⟩
  refine kL_law_468 hc ?_
  refine am_callK [.ref (X + 719), .int _, .int _] [.int a] (d' := 2) (lim' := (am_tp σ1, am_us σ1)) rfl (by omega) (Nat.le_of_eq (t1.trans htp)) (Nat.le_of_eq (u1.trans hus)) rfl (Nat.le_of_ble_eq_true rfl) (am_recv g1.1.1) ?_
  refine o_yrows g1 g2 hG (fun a' D2 σ2 hO2 hy2 hq2 f2 t2 u2 => ?_)
  obtain ⟨e1, e2⟩ := oS.one oRows.one hO1 hO2
  subst e1 e2
  have k := hK σ2 D1 (h0.y f1 hx1 hy2 hq2 (oS.G hG (oRows.G hG) hO1) f2) (t2.trans (t1.trans htp)) (u2.trans (u1.trans hus))
  simp (disch := omega) only [ax_const, ax_iload, ax_lload, ax_aload, ax_istore, ax_astore, ax_iinc, ax_i2, ax_i2n, ax_l2, ax_lsh, ax_ii, ax_il, ax_li, ax_pop, ax_dup, ax_dup2, ax_if, ax_cmp, ax_acmp, ax_goto, ax_getI, ax_getR, ax_putI, ax_putR, ax_gets, ax_getsT, ax_aldI, ax_aldR, ax_astI, ax_astR, ax_alen, ax_ret, ax_aret, ax_vret, am_st, am_kl, List.getElem?_cons_zero, List.getElem?_cons_succ, List.set_cons_zero, List.set_cons_succ, Value.category, true_and, and_true, if_true, if_false, reduceCtorEq, Bool.false_eq_true, false_implies, forall_const, Option.some.injEq, exists_eq_left', exists_eq_left, Sum.inl.injEq, Sum.inr.injEq, Prod.mk.injEq, nI_toInt, nI_clamp, am_ix_nI, am_ix_0, am_ix_1, am_ix_2, am_ix_3, am_n0, am_n1, am_n2, am_n3, am_n4, am_t0, am_t1, am_t2, am_t3, am_t4, am_tm1, am_nS, am_nP, am_nM, Int.ofNat_lt, Int.ofNat_le, Option.toList_some, Option.toList_none, List.cons_append, List.nil_append, List.append_nil, hs, y1, y2, y3, y4, y5, nI_add]
  exact ⟨k, fun z => absurd trivial z⟩
theorem lwc_cut {nm : String} {cc : ByteArray} {g : am_G} {l : Launch} {σ : am_S} {X b L i d : Nat} {xs : Nat → Int32} {D : xx_D} {lim : Nat × Nat} {Q : Option Value → am_S → Prop} (hc : cc = code) (h0 : lwI g σ X b L xs D) (hL : L ≤ 324) (hi : i + 4 < L) (hd : 40 ≤ d) (htp : am_tp σ = lim.1) (hus : am_us σ = lim.2)
    (hK : ∀ σ' D', lwI g σ' X b L xs D' → am_tp σ' = lim.1 → am_us σ' = lim.2 → am_W g l (mL_lawN nm cc) d lim Q 58 [some (.ref b), some (.ref X), some (.ref (X + 719)), some (.int (nI (i + 5)))] [] σ') : am_W g l (mL_lawN nm cc) d lim Q 330 [some (.ref b), some (.ref X), some (.ref (X + 719)), some (.int (nI i))] [] σ := by
  have hs := h0.2.2.2.2.1.1
  have hG := h0.2.2.2.1
  have hl8 : ∀ i, i < 4 → D.1 i < 8 := fun i hi => (h0.1.2.2.1 i hi).2.1
  have y1 : (1 : Int32) = nI 1 := rfl
  have y2 : (2 : Int32) = nI 2 := rfl
  have y3 : (3 : Int32) = nI 3 := rfl
  have y4 : (4 : Int32) = nI 4 := rfl
  have y5 : (5 : Int32) = nI 5 := rfl
  refine kL_law_330 hc ?_
  simp (disch := omega) only [ax_const, ax_iload, ax_lload, ax_aload, ax_istore, ax_astore, ax_iinc, ax_i2, ax_i2n, ax_l2, ax_lsh, ax_ii, ax_il, ax_li, ax_pop, ax_dup, ax_dup2, ax_if, ax_cmp, ax_acmp, ax_goto, ax_getI, ax_getR, ax_putI, ax_putR, ax_gets, ax_getsT, ax_aldI, ax_aldR, ax_astI, ax_astR, ax_alen, ax_ret, ax_aret, ax_vret, am_st, am_kl, List.getElem?_cons_zero, List.getElem?_cons_succ, List.set_cons_zero, List.set_cons_succ, Value.category, true_and, and_true, if_true, if_false, reduceCtorEq, Bool.false_eq_true, false_implies, forall_const, Option.some.injEq, exists_eq_left', exists_eq_left, Sum.inl.injEq, Sum.inr.injEq, Prod.mk.injEq, nI_toInt, nI_clamp, am_ix_nI, am_ix_0, am_ix_1, am_ix_2, am_ix_3, am_n0, am_n1, am_n2, am_n3, am_n4, am_t0, am_t1, am_t2, am_t3, am_t4, am_tm1, am_nS, am_nP, am_nM, Int.ofNat_lt, Int.ofNat_le, Option.toList_some, Option.toList_none, List.cons_append, List.nil_append, List.append_nil, hs, y1, y2, y3, y4, y5, nI_add]
  iterate 2 refine ⟨by omega, ?_⟩
  refine am_callK [.ref X, .int _, .int _] [] (d' := 6) (lim' := (am_tp σ, am_us σ)) rfl (by omega) (Nat.le_of_eq htp) (Nat.le_of_eq hus) rfl (Nat.le_of_ble_eq_true rfl) (am_recv h0.1.1.1) ?_
  refine o_xcut h0.1 (fun a D1 σ1 hO1 hx1 f1 t1 u1 => ?_)
  obtain ⟨g1, g2, g3, g4⟩ := h0.x f1
  simp (disch := omega) only [ax_const, ax_iload, ax_lload, ax_aload, ax_istore, ax_astore, ax_iinc, ax_i2, ax_i2n, ax_l2, ax_lsh, ax_ii, ax_il, ax_li, ax_pop, ax_dup, ax_dup2, ax_if, ax_cmp, ax_acmp, ax_goto, ax_getI, ax_getR, ax_putI, ax_putR, ax_gets, ax_getsT, ax_aldI, ax_aldR, ax_astI, ax_astR, ax_alen, ax_ret, ax_aret, ax_vret, am_st, am_kl, List.getElem?_cons_zero, List.getElem?_cons_succ, List.set_cons_zero, List.set_cons_succ, Value.category, true_and, and_true, if_true, if_false, reduceCtorEq, Bool.false_eq_true, false_implies, forall_const, Option.some.injEq, exists_eq_left', exists_eq_left, Sum.inl.injEq, Sum.inr.injEq, Prod.mk.injEq, nI_toInt, nI_clamp, am_ix_nI, am_ix_0, am_ix_1, am_ix_2, am_ix_3, am_n0, am_n1, am_n2, am_n3, am_n4, am_t0, am_t1, am_t2, am_t3, am_t4, am_tm1, am_nS, am_nP, am_nM, Int.ofNat_lt, Int.ofNat_le, Option.toList_some, Option.toList_none, List.cons_append, List.nil_append, List.append_nil, g3, g4, y1, y2, y3, y4, y5, nI_add]
  iterate 2 refine ⟨by omega, ?_⟩
  refine kL_law_355 hc ?_
  refine am_callK [.ref (X + 719), .int _, .int _] [.int a] (d' := 2) (lim' := (am_tp σ1, am_us σ1)) rfl (by omega) (Nat.le_of_eq (t1.trans htp)) (Nat.le_of_eq (u1.trans hus)) rfl (Nat.le_of_ble_eq_true rfl) (am_recv g1.1.1) ?_
  refine o_ycut g1 g2 hG (fun a' D2 σ2 hO2 hy2 hq2 f2 t2 u2 => ?_)
  obtain ⟨e1, e2⟩ := oS.one oCut.one hO1 hO2
  subst e1 e2
  have k := hK σ2 D1 (h0.y f1 hx1 hy2 hq2 (oS.G hG (oCut.G hG hl8) hO1) f2) (t2.trans (t1.trans htp)) (u2.trans (u1.trans hus))
  simp (disch := omega) only [ax_const, ax_iload, ax_lload, ax_aload, ax_istore, ax_astore, ax_iinc, ax_i2, ax_i2n, ax_l2, ax_lsh, ax_ii, ax_il, ax_li, ax_pop, ax_dup, ax_dup2, ax_if, ax_cmp, ax_acmp, ax_goto, ax_getI, ax_getR, ax_putI, ax_putR, ax_gets, ax_getsT, ax_aldI, ax_aldR, ax_astI, ax_astR, ax_alen, ax_ret, ax_aret, ax_vret, am_st, am_kl, List.getElem?_cons_zero, List.getElem?_cons_succ, List.set_cons_zero, List.set_cons_succ, Value.category, true_and, and_true, if_true, if_false, reduceCtorEq, Bool.false_eq_true, false_implies, forall_const, Option.some.injEq, exists_eq_left', exists_eq_left, Sum.inl.injEq, Sum.inr.injEq, Prod.mk.injEq, nI_toInt, nI_clamp, am_ix_nI, am_ix_0, am_ix_1, am_ix_2, am_ix_3, am_n0, am_n1, am_n2, am_n3, am_n4, am_t0, am_t1, am_t2, am_t3, am_t4, am_tm1, am_nS, am_nP, am_nM, Int.ofNat_lt, Int.ofNat_le, Option.toList_some, Option.toList_none, List.cons_append, List.nil_append, List.append_nil, hs, y1, y2, y3, y4, y5, nI_add]
  exact ⟨k, fun z => absurd trivial z⟩
theorem lwc_value {nm : String} {cc : ByteArray} {g : am_G} {l : Launch} {σ : am_S} {X b L i d : Nat} {xs : Nat → Int32} {D : xx_D} {lim : Nat × Nat} {Q : Option Value → am_S → Prop} (hc : cc = code) (h0 : lwI g σ X b L xs D) (hL : L ≤ 324) (hi : i + 4 < L) (hd : 40 ≤ d) (htp : am_tp σ = lim.1) (hus : am_us σ = lim.2)
    (hK : ∀ σ' D', lwI g σ' X b L xs D' → am_tp σ' = lim.1 → am_us σ' = lim.2 → am_W g l (mL_lawN nm cc) d lim Q 58 [some (.ref b), some (.ref X), some (.ref (X + 719)), some (.int (nI (i + 5)))] [] σ') : am_W g l (mL_lawN nm cc) d lim Q 552 [some (.ref b), some (.ref X), some (.ref (X + 719)), some (.int (nI i))] [] σ := by
  have hs := h0.2.2.2.2.1.1
  have hG := h0.2.2.2.1
  have hl8 : ∀ i, i < 4 → D.1 i < 8 := fun i hi => (h0.1.2.2.1 i hi).2.1
  have y1 : (1 : Int32) = nI 1 := rfl
  have y2 : (2 : Int32) = nI 2 := rfl
  have y3 : (3 : Int32) = nI 3 := rfl
  have y4 : (4 : Int32) = nI 4 := rfl
  have y5 : (5 : Int32) = nI 5 := rfl
  refine kL_law_552 hc ?_
  simp (disch := omega) only [ax_const, ax_iload, ax_lload, ax_aload, ax_istore, ax_astore, ax_iinc, ax_i2, ax_i2n, ax_l2, ax_lsh, ax_ii, ax_il, ax_li, ax_pop, ax_dup, ax_dup2, ax_if, ax_cmp, ax_acmp, ax_goto, ax_getI, ax_getR, ax_putI, ax_putR, ax_gets, ax_getsT, ax_aldI, ax_aldR, ax_astI, ax_astR, ax_alen, ax_ret, ax_aret, ax_vret, am_st, am_kl, List.getElem?_cons_zero, List.getElem?_cons_succ, List.set_cons_zero, List.set_cons_succ, Value.category, true_and, and_true, if_true, if_false, reduceCtorEq, Bool.false_eq_true, false_implies, forall_const, Option.some.injEq, exists_eq_left', exists_eq_left, Sum.inl.injEq, Sum.inr.injEq, Prod.mk.injEq, nI_toInt, nI_clamp, am_ix_nI, am_ix_0, am_ix_1, am_ix_2, am_ix_3, am_n0, am_n1, am_n2, am_n3, am_n4, am_t0, am_t1, am_t2, am_t3, am_t4, am_tm1, am_nS, am_nP, am_nM, Int.ofNat_lt, Int.ofNat_le, Option.toList_some, Option.toList_none, List.cons_append, List.nil_append, List.append_nil, hs, y1, y2, y3, y4, y5, nI_add]
  iterate 3 refine ⟨by omega, ?_⟩
  refine am_callK [.ref X, .int _, .int _, .int _] [] (d' := 1) (lim' := (am_tp σ, am_us σ)) rfl (by omega) (Nat.le_of_eq htp) (Nat.le_of_eq hus) rfl (Nat.le_of_ble_eq_true rfl) (am_recv h0.1.1.1) ?_
  refine o_xvalue h0.1 (fun a D1 σ1 hO1 hx1 f1 t1 u1 => ?_)
  obtain ⟨g1, g2, g3, g4⟩ := h0.x f1
  simp (disch := omega) only [ax_const, ax_iload, ax_lload, ax_aload, ax_istore, ax_astore, ax_iinc, ax_i2, ax_i2n, ax_l2, ax_lsh, ax_ii, ax_il, ax_li, ax_pop, ax_dup, ax_dup2, ax_if, ax_cmp, ax_acmp, ax_goto, ax_getI, ax_getR, ax_putI, ax_putR, ax_gets, ax_getsT, ax_aldI, ax_aldR, ax_astI, ax_astR, ax_alen, ax_ret, ax_aret, ax_vret, am_st, am_kl, List.getElem?_cons_zero, List.getElem?_cons_succ, List.set_cons_zero, List.set_cons_succ, Value.category, true_and, and_true, if_true, if_false, reduceCtorEq, Bool.false_eq_true, false_implies, forall_const, Option.some.injEq, exists_eq_left', exists_eq_left, Sum.inl.injEq, Sum.inr.injEq, Prod.mk.injEq, nI_toInt, nI_clamp, am_ix_nI, am_ix_0, am_ix_1, am_ix_2, am_ix_3, am_n0, am_n1, am_n2, am_n3, am_n4, am_t0, am_t1, am_t2, am_t3, am_t4, am_tm1, am_nS, am_nP, am_nM, Int.ofNat_lt, Int.ofNat_le, Option.toList_some, Option.toList_none, List.cons_append, List.nil_append, List.append_nil, g3, g4, y1, y2, y3, y4, y5, nI_add]
  iterate 1 refine ⟨by omega, ?_⟩
  refine kL_law_577 hc ?_
  simp (disch := omega) only [ax_const, ax_iload, ax_lload, ax_aload, ax_istore, ax_astore, ax_iinc, ax_i2, ax_i2n, ax_l2, ax_lsh, ax_ii, ax_il, ax_li, ax_pop, ax_dup, ax_dup2, ax_if, ax_cmp, ax_acmp, ax_goto, ax_getI, ax_getR, ax_putI, ax_putR, ax_gets, ax_getsT, ax_aldI, ax_aldR, ax_astI, ax_astR, ax_alen, ax_ret, ax_aret, ax_vret, am_st, am_kl, List.getElem?_cons_zero, List.getElem?_cons_succ, List.set_cons_zero, List.set_cons_succ, Value.category, true_and, and_true, if_true, if_false, reduceCtorEq, Bool.false_eq_true, false_implies, forall_const, Option.some.injEq, exists_eq_left', exists_eq_left, Sum.inl.injEq, Sum.inr.injEq, Prod.mk.injEq, nI_toInt, nI_clamp, am_ix_nI, am_ix_0, am_ix_1, am_ix_2, am_ix_3, am_n0, am_n1, am_n2, am_n3, am_n4, am_t0, am_t1, am_t2, am_t3, am_t4, am_tm1, am_nS, am_nP, am_nM, Int.ofNat_lt, Int.ofNat_le, Option.toList_some, Option.toList_none, List.cons_append, List.nil_append, List.append_nil, g3, g4, y1, y2, y3, y4, y5, nI_add]
  iterate 2 refine ⟨by omega, ?_⟩
  refine am_callK [.ref (X + 719), .int _, .int _, .int _] [.int a] (d' := 1) (lim' := (am_tp σ1, am_us σ1)) rfl (by omega) (Nat.le_of_eq (t1.trans htp)) (Nat.le_of_eq (u1.trans hus)) rfl (Nat.le_of_ble_eq_true rfl) (am_recv g1.1.1) ?_
  refine o_yvalue g1 g2 hG (fun a' D2 σ2 hO2 hy2 hq2 f2 t2 u2 => ?_)
  obtain ⟨e1, e2⟩ := oS.one oQ.one hO1 hO2
  subst e1 e2
  have k := hK σ2 D1 (h0.y f1 hx1 hy2 hq2 (oS.G hG (oQ.G hG) hO1) f2) (t2.trans (t1.trans htp)) (u2.trans (u1.trans hus))
  simp (disch := omega) only [ax_const, ax_iload, ax_lload, ax_aload, ax_istore, ax_astore, ax_iinc, ax_i2, ax_i2n, ax_l2, ax_lsh, ax_ii, ax_il, ax_li, ax_pop, ax_dup, ax_dup2, ax_if, ax_cmp, ax_acmp, ax_goto, ax_getI, ax_getR, ax_putI, ax_putR, ax_gets, ax_getsT, ax_aldI, ax_aldR, ax_astI, ax_astR, ax_alen, ax_ret, ax_aret, ax_vret, am_st, am_kl, List.getElem?_cons_zero, List.getElem?_cons_succ, List.set_cons_zero, List.set_cons_succ, Value.category, true_and, and_true, if_true, if_false, reduceCtorEq, Bool.false_eq_true, false_implies, forall_const, Option.some.injEq, exists_eq_left', exists_eq_left, Sum.inl.injEq, Sum.inr.injEq, Prod.mk.injEq, nI_toInt, nI_clamp, am_ix_nI, am_ix_0, am_ix_1, am_ix_2, am_ix_3, am_n0, am_n1, am_n2, am_n3, am_n4, am_t0, am_t1, am_t2, am_t3, am_t4, am_tm1, am_nS, am_nP, am_nM, Int.ofNat_lt, Int.ofNat_le, Option.toList_some, Option.toList_none, List.cons_append, List.nil_append, List.append_nil, hs, y1, y2, y3, y4, y5, nI_add]
  exact ⟨k, fun z => absurd trivial z⟩
theorem lwc_cell {nm : String} {cc : ByteArray} {g : am_G} {l : Launch} {σ : am_S} {X b L i d : Nat} {xs : Nat → Int32} {D : xx_D} {lim : Nat × Nat} {Q : Option Value → am_S → Prop} (hc : cc = code) (h0 : lwI g σ X b L xs D) (hL : L ≤ 324) (hi : i + 4 < L) (hd : 40 ≤ d) (htp : am_tp σ = lim.1) (hus : am_us σ = lim.2)
    (hK : ∀ σ' D', lwI g σ' X b L xs D' → am_tp σ' = lim.1 → am_us σ' = lim.2 → am_W g l (mL_lawN nm cc) d lim Q 58 [some (.ref b), some (.ref X), some (.ref (X + 719)), some (.int (nI (i + 5)))] [] σ') : am_W g l (mL_lawN nm cc) d lim Q 476 [some (.ref b), some (.ref X), some (.ref (X + 719)), some (.int (nI i))] [] σ := by
  have hs := h0.2.2.2.2.1.1
  have hG := h0.2.2.2.1
  have hl8 : ∀ i, i < 4 → D.1 i < 8 := fun i hi => (h0.1.2.2.1 i hi).2.1
  have y1 : (1 : Int32) = nI 1 := rfl
  have y2 : (2 : Int32) = nI 2 := rfl
  have y3 : (3 : Int32) = nI 3 := rfl
  have y4 : (4 : Int32) = nI 4 := rfl
  have y5 : (5 : Int32) = nI 5 := rfl
  refine kL_law_476 hc ?_
  simp (disch := omega) only [ax_const, ax_iload, ax_lload, ax_aload, ax_istore, ax_astore, ax_iinc, ax_i2, ax_i2n, ax_l2, ax_lsh, ax_ii, ax_il, ax_li, ax_pop, ax_dup, ax_dup2, ax_if, ax_cmp, ax_acmp, ax_goto, ax_getI, ax_getR, ax_putI, ax_putR, ax_gets, ax_getsT, ax_aldI, ax_aldR, ax_astI, ax_astR, ax_alen, ax_ret, ax_aret, ax_vret, am_st, am_kl, List.getElem?_cons_zero, List.getElem?_cons_succ, List.set_cons_zero, List.set_cons_succ, Value.category, true_and, and_true, if_true, if_false, reduceCtorEq, Bool.false_eq_true, false_implies, forall_const, Option.some.injEq, exists_eq_left', exists_eq_left, Sum.inl.injEq, Sum.inr.injEq, Prod.mk.injEq, nI_toInt, nI_clamp, am_ix_nI, am_ix_0, am_ix_1, am_ix_2, am_ix_3, am_n0, am_n1, am_n2, am_n3, am_n4, am_t0, am_t1, am_t2, am_t3, am_t4, am_tm1, am_nS, am_nP, am_nM, Int.ofNat_lt, Int.ofNat_le, Option.toList_some, Option.toList_none, List.cons_append, List.nil_append, List.append_nil, hs, y1, y2, y3, y4, y5, nI_add]
  iterate 4 refine ⟨by omega, ?_⟩
  refine am_callK [.ref X, .int _, .int _, .int _, .int _] [] (d' := 4) (lim' := (am_tp σ, am_us σ)) rfl (by omega) (Nat.le_of_eq htp) (Nat.le_of_eq hus) rfl (Nat.le_of_ble_eq_true rfl) (am_recv h0.1.1.1) ?_
  refine o_xcell h0.1 (fun a D1 σ1 hO1 hx1 f1 t1 u1 => ?_)
  obtain ⟨g1, g2, g3, g4⟩ := h0.x f1
  simp (disch := omega) only [ax_const, ax_iload, ax_lload, ax_aload, ax_istore, ax_astore, ax_iinc, ax_i2, ax_i2n, ax_l2, ax_lsh, ax_ii, ax_il, ax_li, ax_pop, ax_dup, ax_dup2, ax_if, ax_cmp, ax_acmp, ax_goto, ax_getI, ax_getR, ax_putI, ax_putR, ax_gets, ax_getsT, ax_aldI, ax_aldR, ax_astI, ax_astR, ax_alen, ax_ret, ax_aret, ax_vret, am_st, am_kl, List.getElem?_cons_zero, List.getElem?_cons_succ, List.set_cons_zero, List.set_cons_succ, Value.category, true_and, and_true, if_true, if_false, reduceCtorEq, Bool.false_eq_true, false_implies, forall_const, Option.some.injEq, exists_eq_left', exists_eq_left, Sum.inl.injEq, Sum.inr.injEq, Prod.mk.injEq, nI_toInt, nI_clamp, am_ix_nI, am_ix_0, am_ix_1, am_ix_2, am_ix_3, am_n0, am_n1, am_n2, am_n3, am_n4, am_t0, am_t1, am_t2, am_t3, am_t4, am_tm1, am_nS, am_nP, am_nM, Int.ofNat_lt, Int.ofNat_le, Option.toList_some, Option.toList_none, List.cons_append, List.nil_append, List.append_nil, g3, g4, y1, y2, y3, y4, y5, nI_add]
  refine kL_law_501 hc ?_
  simp (disch := omega) only [ax_const, ax_iload, ax_lload, ax_aload, ax_istore, ax_astore, ax_iinc, ax_i2, ax_i2n, ax_l2, ax_lsh, ax_ii, ax_il, ax_li, ax_pop, ax_dup, ax_dup2, ax_if, ax_cmp, ax_acmp, ax_goto, ax_getI, ax_getR, ax_putI, ax_putR, ax_gets, ax_getsT, ax_aldI, ax_aldR, ax_astI, ax_astR, ax_alen, ax_ret, ax_aret, ax_vret, am_st, am_kl, List.getElem?_cons_zero, List.getElem?_cons_succ, List.set_cons_zero, List.set_cons_succ, Value.category, true_and, and_true, if_true, if_false, reduceCtorEq, Bool.false_eq_true, false_implies, forall_const, Option.some.injEq, exists_eq_left', exists_eq_left, Sum.inl.injEq, Sum.inr.injEq, Prod.mk.injEq, nI_toInt, nI_clamp, am_ix_nI, am_ix_0, am_ix_1, am_ix_2, am_ix_3, am_n0, am_n1, am_n2, am_n3, am_n4, am_t0, am_t1, am_t2, am_t3, am_t4, am_tm1, am_nS, am_nP, am_nM, Int.ofNat_lt, Int.ofNat_le, Option.toList_some, Option.toList_none, List.cons_append, List.nil_append, List.append_nil, g3, g4, y1, y2, y3, y4, y5, nI_add]
  iterate 4 refine ⟨by omega, ?_⟩
  refine am_callK [.ref (X + 719), .int _, .int _, .int _, .int _] [.int a] (d' := 2) (lim' := (am_tp σ1, am_us σ1)) rfl (by omega) (Nat.le_of_eq (t1.trans htp)) (Nat.le_of_eq (u1.trans hus)) rfl (Nat.le_of_ble_eq_true rfl) (am_recv g1.1.1) ?_
  refine o_ycell g1 g2 hG (fun a' D2 σ2 hO2 hy2 hq2 f2 t2 u2 => ?_)
  obtain ⟨e1, e2⟩ := oS.one oCell.one hO1 hO2
  subst e1 e2
  have k := hK σ2 D1 (h0.y f1 hx1 hy2 hq2 (oS.G hG (oCell.G hG) hO1) f2) (t2.trans (t1.trans htp)) (u2.trans (u1.trans hus))
  simp (disch := omega) only [ax_const, ax_iload, ax_lload, ax_aload, ax_istore, ax_astore, ax_iinc, ax_i2, ax_i2n, ax_l2, ax_lsh, ax_ii, ax_il, ax_li, ax_pop, ax_dup, ax_dup2, ax_if, ax_cmp, ax_acmp, ax_goto, ax_getI, ax_getR, ax_putI, ax_putR, ax_gets, ax_getsT, ax_aldI, ax_aldR, ax_astI, ax_astR, ax_alen, ax_ret, ax_aret, ax_vret, am_st, am_kl, List.getElem?_cons_zero, List.getElem?_cons_succ, List.set_cons_zero, List.set_cons_succ, Value.category, true_and, and_true, if_true, if_false, reduceCtorEq, Bool.false_eq_true, false_implies, forall_const, Option.some.injEq, exists_eq_left', exists_eq_left, Sum.inl.injEq, Sum.inr.injEq, Prod.mk.injEq, nI_toInt, nI_clamp, am_ix_nI, am_ix_0, am_ix_1, am_ix_2, am_ix_3, am_n0, am_n1, am_n2, am_n3, am_n4, am_t0, am_t1, am_t2, am_t3, am_t4, am_tm1, am_nS, am_nP, am_nM, Int.ofNat_lt, Int.ofNat_le, Option.toList_some, Option.toList_none, List.cons_append, List.nil_append, List.append_nil, hs, y1, y2, y3, y4, y5, nI_add]
  exact ⟨k, fun z => absurd trivial z⟩
theorem lwc_write {nm : String} {cc : ByteArray} {g : am_G} {l : Launch} {σ : am_S} {X b L i d : Nat} {xs : Nat → Int32} {D : xx_D} {lim : Nat × Nat} {Q : Option Value → am_S → Prop} (hc : cc = code) (h0 : lwI g σ X b L xs D) (hL : L ≤ 324) (hi : i + 4 < L) (hd : 40 ≤ d) (htp : am_tp σ = lim.1) (hus : am_us σ = lim.2)
    (hK : ∀ σ' D', lwI g σ' X b L xs D' → am_tp σ' = lim.1 → am_us σ' = lim.2 → am_W g l (mL_lawN nm cc) d lim Q 58 [some (.ref b), some (.ref X), some (.ref (X + 719)), some (.int (nI (i + 5)))] [] σ') : am_W g l (mL_lawN nm cc) d lim Q 152 [some (.ref b), some (.ref X), some (.ref (X + 719)), some (.int (nI i))] [] σ := by
  have hs := h0.2.2.2.2.1.1
  have hG := h0.2.2.2.1
  have hl8 : ∀ i, i < 4 → D.1 i < 8 := fun i hi => (h0.1.2.2.1 i hi).2.1
  have y1 : (1 : Int32) = nI 1 := rfl
  have y2 : (2 : Int32) = nI 2 := rfl
  have y3 : (3 : Int32) = nI 3 := rfl
  have y4 : (4 : Int32) = nI 4 := rfl
  have y5 : (5 : Int32) = nI 5 := rfl
  refine kL_law_152 hc ?_
  simp (disch := omega) only [ax_const, ax_iload, ax_lload, ax_aload, ax_istore, ax_astore, ax_iinc, ax_i2, ax_i2n, ax_l2, ax_lsh, ax_ii, ax_il, ax_li, ax_pop, ax_dup, ax_dup2, ax_if, ax_cmp, ax_acmp, ax_goto, ax_getI, ax_getR, ax_putI, ax_putR, ax_gets, ax_getsT, ax_aldI, ax_aldR, ax_astI, ax_astR, ax_alen, ax_ret, ax_aret, ax_vret, am_st, am_kl, List.getElem?_cons_zero, List.getElem?_cons_succ, List.set_cons_zero, List.set_cons_succ, Value.category, true_and, and_true, if_true, if_false, reduceCtorEq, Bool.false_eq_true, false_implies, forall_const, Option.some.injEq, exists_eq_left', exists_eq_left, Sum.inl.injEq, Sum.inr.injEq, Prod.mk.injEq, nI_toInt, nI_clamp, am_ix_nI, am_ix_0, am_ix_1, am_ix_2, am_ix_3, am_n0, am_n1, am_n2, am_n3, am_n4, am_t0, am_t1, am_t2, am_t3, am_t4, am_tm1, am_nS, am_nP, am_nM, Int.ofNat_lt, Int.ofNat_le, Option.toList_some, Option.toList_none, List.cons_append, List.nil_append, List.append_nil, hs, y1, y2, y3, y4, y5, nI_add]
  iterate 3 refine ⟨by omega, ?_⟩
  refine kL_law_178 hc ?_
  refine am_callK [.ref X, .int _, .long _] [] (d' := 1) (lim' := (am_tp σ, am_us σ)) rfl (by omega) (Nat.le_of_eq htp) (Nat.le_of_eq hus) rfl (Nat.le_of_ble_eq_true rfl) (am_recv h0.1.1.1) ?_
  refine o_xwrite h0.1 (fun a D1 σ1 hO1 hx1 f1 t1 u1 => ?_)
  obtain ⟨g1, g2, g3, g4⟩ := h0.x f1
  simp (disch := omega) only [ax_const, ax_iload, ax_lload, ax_aload, ax_istore, ax_astore, ax_iinc, ax_i2, ax_i2n, ax_l2, ax_lsh, ax_ii, ax_il, ax_li, ax_pop, ax_dup, ax_dup2, ax_if, ax_cmp, ax_acmp, ax_goto, ax_getI, ax_getR, ax_putI, ax_putR, ax_gets, ax_getsT, ax_aldI, ax_aldR, ax_astI, ax_astR, ax_alen, ax_ret, ax_aret, ax_vret, am_st, am_kl, List.getElem?_cons_zero, List.getElem?_cons_succ, List.set_cons_zero, List.set_cons_succ, Value.category, true_and, and_true, if_true, if_false, reduceCtorEq, Bool.false_eq_true, false_implies, forall_const, Option.some.injEq, exists_eq_left', exists_eq_left, Sum.inl.injEq, Sum.inr.injEq, Prod.mk.injEq, nI_toInt, nI_clamp, am_ix_nI, am_ix_0, am_ix_1, am_ix_2, am_ix_3, am_n0, am_n1, am_n2, am_n3, am_n4, am_t0, am_t1, am_t2, am_t3, am_t4, am_tm1, am_nS, am_nP, am_nM, Int.ofNat_lt, Int.ofNat_le, Option.toList_some, Option.toList_none, List.cons_append, List.nil_append, List.append_nil, g3, g4, y1, y2, y3, y4, y5, nI_add]
  iterate 3 refine ⟨by omega, ?_⟩
  refine kL_law_206 hc ?_
  simp only [ax_l2]
  refine am_callK [.ref (X + 719), .int _, .long _] [.int a] (d' := 1) (lim' := (am_tp σ1, am_us σ1)) rfl (by omega) (Nat.le_of_eq (t1.trans htp)) (Nat.le_of_eq (u1.trans hus)) rfl (Nat.le_of_ble_eq_true rfl) (am_recv g1.1.1) ?_
  refine o_ywrite g1 g2 hG (fun a' D2 σ2 hO2 hy2 hq2 f2 t2 u2 => ?_)
  obtain ⟨e1, e2⟩ := oS.one oWrite.one hO1 hO2
  subst e1 e2
  have k := hK σ2 D1 (h0.y f1 hx1 hy2 hq2 (oS.G hG (oWrite.G hG) hO1) f2) (t2.trans (t1.trans htp)) (u2.trans (u1.trans hus))
  simp (disch := omega) only [ax_const, ax_iload, ax_lload, ax_aload, ax_istore, ax_astore, ax_iinc, ax_i2, ax_i2n, ax_l2, ax_lsh, ax_ii, ax_il, ax_li, ax_pop, ax_dup, ax_dup2, ax_if, ax_cmp, ax_acmp, ax_goto, ax_getI, ax_getR, ax_putI, ax_putR, ax_gets, ax_getsT, ax_aldI, ax_aldR, ax_astI, ax_astR, ax_alen, ax_ret, ax_aret, ax_vret, am_st, am_kl, List.getElem?_cons_zero, List.getElem?_cons_succ, List.set_cons_zero, List.set_cons_succ, Value.category, true_and, and_true, if_true, if_false, reduceCtorEq, Bool.false_eq_true, false_implies, forall_const, Option.some.injEq, exists_eq_left', exists_eq_left, Sum.inl.injEq, Sum.inr.injEq, Prod.mk.injEq, nI_toInt, nI_clamp, am_ix_nI, am_ix_0, am_ix_1, am_ix_2, am_ix_3, am_n0, am_n1, am_n2, am_n3, am_n4, am_t0, am_t1, am_t2, am_t3, am_t4, am_tm1, am_nS, am_nP, am_nM, Int.ofNat_lt, Int.ofNat_le, Option.toList_some, Option.toList_none, List.cons_append, List.nil_append, List.append_nil, hs, y1, y2, y3, y4, y5, nI_add]
  exact ⟨k, fun z => absurd trivial z⟩
theorem lwc_crash {nm : String} {cc : ByteArray} {g : am_G} {l : Launch} {σ : am_S} {X b L i d : Nat} {xs : Nat → Int32} {D : xx_D} {lim : Nat × Nat} {Q : Option Value → am_S → Prop} (hc : cc = code) (h0 : lwI g σ X b L xs D) (hL : L ≤ 324) (hi : i + 4 < L) (hd : 40 ≤ d) (htp : am_tp σ = lim.1) (hus : am_us σ = lim.2)
    (hK : ∀ σ' D', lwI g σ' X b L xs D' → am_tp σ' = lim.1 → am_us σ' = lim.2 → am_W g l (mL_lawN nm cc) d lim Q 58 [some (.ref b), some (.ref X), some (.ref (X + 719)), some (.int (nI (i + 5)))] [] σ') : am_W g l (mL_lawN nm cc) d lim Q 363 [some (.ref b), some (.ref X), some (.ref (X + 719)), some (.int (nI i))] [] σ := by
  have hs := h0.2.2.2.2.1.1
  have hG := h0.2.2.2.1
  have hl8 : ∀ i, i < 4 → D.1 i < 8 := fun i hi => (h0.1.2.2.1 i hi).2.1
  have y1 : (1 : Int32) = nI 1 := rfl
  have y2 : (2 : Int32) = nI 2 := rfl
  have y3 : (3 : Int32) = nI 3 := rfl
  have y4 : (4 : Int32) = nI 4 := rfl
  have y5 : (5 : Int32) = nI 5 := rfl
  refine kL_law_363 hc ?_
  simp (disch := omega) only [ax_const, ax_iload, ax_lload, ax_aload, ax_istore, ax_astore, ax_iinc, ax_i2, ax_i2n, ax_l2, ax_lsh, ax_ii, ax_il, ax_li, ax_pop, ax_dup, ax_dup2, ax_if, ax_cmp, ax_acmp, ax_goto, ax_getI, ax_getR, ax_putI, ax_putR, ax_gets, ax_getsT, ax_aldI, ax_aldR, ax_astI, ax_astR, ax_alen, ax_ret, ax_aret, ax_vret, am_st, am_kl, List.getElem?_cons_zero, List.getElem?_cons_succ, List.set_cons_zero, List.set_cons_succ, Value.category, true_and, and_true, if_true, if_false, reduceCtorEq, Bool.false_eq_true, false_implies, forall_const, Option.some.injEq, exists_eq_left', exists_eq_left, Sum.inl.injEq, Sum.inr.injEq, Prod.mk.injEq, nI_toInt, nI_clamp, am_ix_nI, am_ix_0, am_ix_1, am_ix_2, am_ix_3, am_n0, am_n1, am_n2, am_n3, am_n4, am_t0, am_t1, am_t2, am_t3, am_t4, am_tm1, am_nS, am_nP, am_nM, Int.ofNat_lt, Int.ofNat_le, Option.toList_some, Option.toList_none, List.cons_append, List.nil_append, List.append_nil, hs, y1, y2, y3, y4, y5, nI_add]
  refine am_callK [.ref X] [] (d' := 5) (lim' := (am_tp σ, am_us σ)) rfl (by omega) (Nat.le_of_eq htp) (Nat.le_of_eq hus) rfl (Nat.le_of_ble_eq_true rfl) (am_recv h0.1.1.1) ?_
  refine c_xcrash h0.1 (fun σ1 hx1 f1 t1 u1 => ?_)
  obtain ⟨g1, g2, g3, g4⟩ := h0.x f1
  simp (disch := omega) only [ax_const, ax_iload, ax_lload, ax_aload, ax_istore, ax_astore, ax_iinc, ax_i2, ax_i2n, ax_l2, ax_lsh, ax_ii, ax_il, ax_li, ax_pop, ax_dup, ax_dup2, ax_if, ax_cmp, ax_acmp, ax_goto, ax_getI, ax_getR, ax_putI, ax_putR, ax_gets, ax_getsT, ax_aldI, ax_aldR, ax_astI, ax_astR, ax_alen, ax_ret, ax_aret, ax_vret, am_st, am_kl, List.getElem?_cons_zero, List.getElem?_cons_succ, List.set_cons_zero, List.set_cons_succ, Value.category, true_and, and_true, if_true, if_false, reduceCtorEq, Bool.false_eq_true, false_implies, forall_const, Option.some.injEq, exists_eq_left', exists_eq_left, Sum.inl.injEq, Sum.inr.injEq, Prod.mk.injEq, nI_toInt, nI_clamp, am_ix_nI, am_ix_0, am_ix_1, am_ix_2, am_ix_3, am_n0, am_n1, am_n2, am_n3, am_n4, am_t0, am_t1, am_t2, am_t3, am_t4, am_tm1, am_nS, am_nP, am_nM, Int.ofNat_lt, Int.ofNat_le, Option.toList_some, Option.toList_none, List.cons_append, List.nil_append, List.append_nil, g3, g4, y1, y2, y3, y4, y5, nI_add]
  refine am_callK [.ref (X + 719)] [] (d' := 0) (lim' := (am_tp σ1, am_us σ1)) rfl (by omega) (Nat.le_of_eq (t1.trans htp)) (Nat.le_of_eq (u1.trans hus)) rfl (Nat.le_of_ble_eq_true rfl) (am_recv g1.1.1) ?_
  refine c_ycrash g1 (fun σ2 hy2 f2 t2 u2 => ?_)
  have k := hK σ2 (xx_cr D) (h0.y f1 hx1 hy2 (yFR.q f2 g2) hG.cr (ym_f.mono f2 (fun b x => by omega))) (t2.trans (t1.trans htp)) (u2.trans (u1.trans hus))
  simp (disch := omega) only [ax_const, ax_iload, ax_lload, ax_aload, ax_istore, ax_astore, ax_iinc, ax_i2, ax_i2n, ax_l2, ax_lsh, ax_ii, ax_il, ax_li, ax_pop, ax_dup, ax_dup2, ax_if, ax_cmp, ax_acmp, ax_goto, ax_getI, ax_getR, ax_putI, ax_putR, ax_gets, ax_getsT, ax_aldI, ax_aldR, ax_astI, ax_astR, ax_alen, ax_ret, ax_aret, ax_vret, am_st, am_kl, List.getElem?_cons_zero, List.getElem?_cons_succ, List.set_cons_zero, List.set_cons_succ, Value.category, true_and, and_true, if_true, if_false, reduceCtorEq, Bool.false_eq_true, false_implies, forall_const, Option.some.injEq, exists_eq_left', exists_eq_left, Sum.inl.injEq, Sum.inr.injEq, Prod.mk.injEq, nI_toInt, nI_clamp, am_ix_nI, am_ix_0, am_ix_1, am_ix_2, am_ix_3, am_n0, am_n1, am_n2, am_n3, am_n4, am_t0, am_t1, am_t2, am_t3, am_t4, am_tm1, am_nS, am_nP, am_nM, Int.ofNat_lt, Int.ofNat_le, Option.toList_some, Option.toList_none, List.cons_append, List.nil_append, List.append_nil, hs, y1, y2, y3, y4, y5, nI_add]
  exact k
theorem lwc_run {nm : String} {cc : ByteArray} {g : am_G} {l : Launch} {σ : am_S} {X b L i d : Nat} {xs : Nat → Int32} {D : xx_D} {lim : Nat × Nat} {Q : Option Value → am_S → Prop} (hc : cc = code) (h0 : lwI g σ X b L xs D) (hL : L ≤ 324) (hi : i + 4 < L) (hd : 40 ≤ d) (htp : am_tp σ = lim.1) (hus : am_us σ = lim.2)
    (hK : ∀ σ' D', lwI g σ' X b L xs D' → am_tp σ' = lim.1 → am_us σ' = lim.2 → am_W g l (mL_lawN nm cc) d lim Q 58 [some (.ref b), some (.ref X), some (.ref (X + 719)), some (.int (nI (i + 5)))] [] σ') : am_W g l (mL_lawN nm cc) d lim Q 215 [some (.ref b), some (.ref X), some (.ref (X + 719)), some (.int (nI i))] [] σ := by
  have hs := h0.2.2.2.2.1.1
  have hG := h0.2.2.2.1
  have hl8 : ∀ i, i < 4 → D.1 i < 8 := fun i hi => (h0.1.2.2.1 i hi).2.1
  have y1 : (1 : Int32) = nI 1 := rfl
  have y2 : (2 : Int32) = nI 2 := rfl
  have y3 : (3 : Int32) = nI 3 := rfl
  have y4 : (4 : Int32) = nI 4 := rfl
  have y5 : (5 : Int32) = nI 5 := rfl
  refine kL_law_215 hc ?_
  simp (disch := omega) only [ax_const, ax_iload, ax_lload, ax_aload, ax_istore, ax_astore, ax_iinc, ax_i2, ax_i2n, ax_l2, ax_lsh, ax_ii, ax_il, ax_li, ax_pop, ax_dup, ax_dup2, ax_if, ax_cmp, ax_acmp, ax_goto, ax_getI, ax_getR, ax_putI, ax_putR, ax_gets, ax_getsT, ax_aldI, ax_aldR, ax_astI, ax_astR, ax_alen, ax_ret, ax_aret, ax_vret, am_st, am_kl, List.getElem?_cons_zero, List.getElem?_cons_succ, List.set_cons_zero, List.set_cons_succ, Value.category, true_and, and_true, if_true, if_false, reduceCtorEq, Bool.false_eq_true, false_implies, forall_const, Option.some.injEq, exists_eq_left', exists_eq_left, Sum.inl.injEq, Sum.inr.injEq, Prod.mk.injEq, nI_toInt, nI_clamp, am_ix_nI, am_ix_0, am_ix_1, am_ix_2, am_ix_3, am_n0, am_n1, am_n2, am_n3, am_n4, am_t0, am_t1, am_t2, am_t3, am_t4, am_tm1, am_nS, am_nP, am_nM, Int.ofNat_lt, Int.ofNat_le, Option.toList_some, Option.toList_none, List.cons_append, List.nil_append, List.append_nil, hs, y1, y2, y3, y4, y5, nI_add]
  iterate 1 refine ⟨by omega, ?_⟩
  refine am_callK [.ref X, .int _] [] (d' := 29) (lim' := (am_tp σ, am_us σ)) rfl (by omega) (Nat.le_of_eq htp) (Nat.le_of_eq hus) rfl (Nat.le_of_ble_eq_true rfl) (am_recv h0.1.1.1) ?_
  have fin : ∀ (a : Int32) (D1 : xx_D) (σ1 : am_S), xx_O g σ1 X D1 → xx_fr X σ σ1 → am_tp σ1 = am_tp σ → am_us σ1 = am_us σ → GD D1 → (∀ Q', (∀ σ2, ym_O σ2 (X + 719) D1 → ym_q σ2 (X + 719) → ym_f (fun b => X + 719 ≤ b ∧ b ≤ X + 719 + 31) σ1 σ2 → Q' (some (.int a)) σ2) → am_C g l mX10_run 10 (am_tp σ1, am_us σ1) [.ref (X + 719), .int (am_i σ b (i + 1))] σ1 Q') → (ax_aload 2 (ax_aload 0 (ax_iload 3 (ax_const (.int 1) (ax_i2 (fun x y => x + y) (ax_aldI 11 (ax_call g l d lim mX10_run (some 10) 2 (ax_cmp (fun x y => x = y) (ax_iinc 3 (5) (ax_goto (am_W g l (mL_lawN nm cc) d lim Q 58))) (ax_const (.int 0) (ax_ret lim true Q)))))))))) [some (.ref b), some (.ref X), some (.ref (X + 719)), some (.int (nI i))] ((some (Value.int a)).toList ++ []) σ1 := by
    intro a D1 σ1 hx1 f1 t1 u1 hG1 hC
    obtain ⟨g1, g2, g3, g4⟩ := h0.x f1
    simp (disch := omega) only [ax_const, ax_iload, ax_lload, ax_aload, ax_istore, ax_astore, ax_iinc, ax_i2, ax_i2n, ax_l2, ax_lsh, ax_ii, ax_il, ax_li, ax_pop, ax_dup, ax_dup2, ax_if, ax_cmp, ax_acmp, ax_goto, ax_getI, ax_getR, ax_putI, ax_putR, ax_gets, ax_getsT, ax_aldI, ax_aldR, ax_astI, ax_astR, ax_alen, ax_ret, ax_aret, ax_vret, am_st, am_kl, List.getElem?_cons_zero, List.getElem?_cons_succ, List.set_cons_zero, List.set_cons_succ, Value.category, true_and, and_true, if_true, if_false, reduceCtorEq, Bool.false_eq_true, false_implies, forall_const, Option.some.injEq, exists_eq_left', exists_eq_left, Sum.inl.injEq, Sum.inr.injEq, Prod.mk.injEq, nI_toInt, nI_clamp, am_ix_nI, am_ix_0, am_ix_1, am_ix_2, am_ix_3, am_n0, am_n1, am_n2, am_n3, am_n4, am_t0, am_t1, am_t2, am_t3, am_t4, am_tm1, am_nS, am_nP, am_nM, Int.ofNat_lt, Int.ofNat_le, Option.toList_some, Option.toList_none, List.cons_append, List.nil_append, List.append_nil, g3, g4, y1, y2, y3, y4, y5, nI_add]
    iterate 1 refine ⟨by omega, ?_⟩
    refine am_callK [.ref (X + 719), .int _] [.int a] (d' := 10) (lim' := (am_tp σ1, am_us σ1)) rfl (by omega) (Nat.le_of_eq (t1.trans htp)) (Nat.le_of_eq (u1.trans hus)) rfl (Nat.le_of_ble_eq_true rfl) (am_recv g1.1.1) ?_
    refine hC _ (fun σ2 hy2 hq2 f2 t2 u2 => ?_)
    have k := hK σ2 D1 (h0.y f1 hx1 hy2 hq2 hG1 f2) (t2.trans (t1.trans htp)) (u2.trans (u1.trans hus))
    simp (disch := omega) only [ax_const, ax_iload, ax_lload, ax_aload, ax_istore, ax_astore, ax_iinc, ax_i2, ax_i2n, ax_l2, ax_lsh, ax_ii, ax_il, ax_li, ax_pop, ax_dup, ax_dup2, ax_if, ax_cmp, ax_acmp, ax_goto, ax_getI, ax_getR, ax_putI, ax_putR, ax_gets, ax_getsT, ax_aldI, ax_aldR, ax_astI, ax_astR, ax_alen, ax_ret, ax_aret, ax_vret, am_st, am_kl, List.getElem?_cons_zero, List.getElem?_cons_succ, List.set_cons_zero, List.set_cons_succ, Value.category, true_and, and_true, if_true, if_false, reduceCtorEq, Bool.false_eq_true, false_implies, forall_const, Option.some.injEq, exists_eq_left', exists_eq_left, Sum.inl.injEq, Sum.inr.injEq, Prod.mk.injEq, nI_toInt, nI_clamp, am_ix_nI, am_ix_0, am_ix_1, am_ix_2, am_ix_3, am_n0, am_n1, am_n2, am_n3, am_n4, am_t0, am_t1, am_t2, am_t3, am_t4, am_tm1, am_nS, am_nP, am_nM, Int.ofNat_lt, Int.ofNat_le, Option.toList_some, Option.toList_none, List.cons_append, List.nil_append, List.append_nil, hs, y1, y2, y3, y4, y5, nI_add]
    exact ⟨k, fun z => absurd trivial z⟩
  have hss : ∀ lb, lb < 8 → ∀ t, t < 2 → xo_ss (D.2.1 lb t) ∧ xo_ss (D.2.2.1 lb t) := fun lb hlb t ht => ((h0.1.2.1 lb hlb).2.2.2.2.2.2.2 t ht).2.2
  refine c_xRun (by decide) h0.1 hG.1 hG.2 (fun hno t1 u1 => ?_) (fun j hj hs2 f a D1 σ1 hf hR hx1 f1 t1 u1 => ?_)
  · exact fin (-1) D σ h0.1 .rf rfl rfl hG (fun Q' hQ' => c_yRun (f := fun _ _ => -1) (Nat.le_refl _) h0.2.1 hG.1 h0.2.2.1 hG.2 hss (fun _ => rfl) (fun _ => hQ' σ h0.2.1 h0.2.2.1 .rf) (fun j hj hs2 => absurd (hs2 ▸ xx_in_nI hj) hno))
  · obtain ⟨g1, g2, g3, g4⟩ := h0.x f1
    exact fin a D1 σ1 hx1 f1 t1 u1 (hR.G hG hl8 hj) (fun Q' hQ' => c_yRun (f := fun _ => f) (Nat.le_refl _) g1 hG.1 g2 hG.2 hss (fun _ => hf) (fun hno => absurd (hs2 ▸ xx_in_nI hj) hno) (fun j' hj' hs3 a' D2 σ2 hR2 hy2 hq2 f2 => by
      have e : j = j' := (nI_inj (by omega) (by omega)).mp (hs2.symm.trans hs3)
      subst e
      obtain ⟨e1, e2⟩ := hR.one hj hR2
      subst e1 e2
      exact hQ' σ2 hy2 hq2 f2))
