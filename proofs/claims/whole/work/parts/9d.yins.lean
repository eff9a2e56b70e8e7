/-! changed: insert -/
theorem c_ychI {g : am_G} {l : Launch} {σ : am_S} {m i t : Nat} {T : Nat → Nat} {o : yp_O} {D : xx_D} {cv : Nat → yp_O} {v : Nat → Int32} {Q : Option Value → am_S → Prop} (h : yCh σ m i t T o D) (h24 : am_i σ m 24 = yw_c (xt_w 0)) (hno : ∀ p, p < 12 → ((2 : Nat), nI p) ∉ o) (hv : ∀ j, j < 3 → yz o (T (9 + j)) (T (13 + j)) (cv j) ∧ ∀ env, ym_run env (cv j) [] = some [v j])
    (hQ : ∀ σ' Bz L', xo_ins (D.2.2.1 (D.1 i) t) (v 0, v 1, v 2, nI (D.1 i)) = (Bz, L') → ym_O σ' m (yD' D (D.1 i) t L') → ygF m σ σ' → Q (some (.int Bz)) σ') :
    am_C g l mX10_changed 5 (am_tp σ, am_us σ) [.ref m, .int (nI i), .int (nI (D.1 i)), .int (nI t)] σ Q := by
  obtain ⟨hO, hi, ht, hne, hB, hss, hR, hI, ho, hk, hc⟩ := h
  have hH := hO.1
  have hlab := (hO.2.1 i hi).2
  obtain ⟨a1, a2, ⟨P, a3, a4⟩, a5, a6⟩ := id hO
  have hpt : ym_pt 1 (D.1 i) t < 32 := by unfold ym_pt; omega
  have hPp : P (ym_pt 1 (D.1 i) t) = D.2.2.1 (D.1 i) t := (a4 _ hlab t ht).2 hne
  have hE : ∀ σ', ykE σ' m T o (fun _ => 0) := fun σ' p hp hm => absurd hm (hno p hp)
  have y1 : (1 : Int32) = nI 1 := rfl
  refine am_C.go [some (.ref m), some (.int (nI i)), some (.int (nI (D.1 i))), some (.int (nI t)), none, none, none, none] (by decide +kernel) (Nat.le_of_ble_eq_true rfl) rfl (kX10_changed_0 ?_)
  simp (disch := omega) only [ax_const, ax_iload, ax_lload, ax_aload, ax_istore, ax_astore, ax_iinc, ax_i2, ax_i2n, ax_l2, ax_lsh, ax_ii, ax_il, ax_li, ax_pop, ax_dup, ax_dup2, ax_if, ax_cmp, ax_acmp, ax_goto, ax_getI, ax_getR, ax_putI, ax_putR, ax_gets, ax_getsT, ax_aldI, ax_aldR, ax_astI, ax_astR, ax_alen, ax_ret, ax_aret, ax_vret, am_st, am_kl, List.getElem?_cons_zero, List.getElem?_cons_succ, List.set_cons_zero, List.set_cons_succ, Value.category, true_and, and_true, if_true, if_false, reduceCtorEq, Bool.false_eq_true, false_implies, forall_const, Option.some.injEq, exists_eq_left', exists_eq_left, Sum.inl.injEq, Sum.inr.injEq, Prod.mk.injEq, y1]
  refine am_callK [.int (nI 1), .int (nI (D.1 i)), .int (nI t)] [] (d' := 0) (lim' := (am_tp σ, am_us σ)) rfl (by decide) (Nat.le_refl _) (Nat.le_refl _) rfl (Nat.le_of_ble_eq_true rfl) am_stat ?_
  refine c_ypart (fun _ _ => ?_)
  simp (disch := omega) only [ax_const, ax_iload, ax_lload, ax_aload, ax_istore, ax_astore, ax_iinc, ax_i2, ax_i2n, ax_l2, ax_lsh, ax_ii, ax_il, ax_li, ax_pop, ax_dup, ax_dup2, ax_if, ax_cmp, ax_acmp, ax_goto, ax_getI, ax_getR, ax_putI, ax_putR, ax_gets, ax_getsT, ax_aldI, ax_aldR, ax_astI, ax_astR, ax_alen, ax_ret, ax_aret, ax_vret, am_st, am_kl, List.getElem?_cons_zero, List.getElem?_cons_succ, List.set_cons_zero, List.set_cons_succ, Value.category, true_and, and_true, if_true, if_false, reduceCtorEq, Bool.false_eq_true, false_implies, forall_const, Option.some.injEq, exists_eq_left', exists_eq_left, Sum.inl.injEq, Sum.inr.injEq, Prod.mk.injEq, Option.toList_some, Option.toList_none, List.cons_append, List.nil_append, List.append_nil, hH.1]
  refine am_callK [.int 105, .int 110, .int 115, .int 101, .int 114, .int 116] [.int (am_i σ m 24)] (d' := 0) (lim' := (am_tp σ, am_us σ)) rfl (by decide) (Nat.le_refl _) (Nat.le_refl _) rfl (Nat.le_of_ble_eq_true rfl) am_stat ?_
  refine c_yword (fun _ _ => ?_)
  rw [yw_insert]
  obtain ⟨r01, r02, r03⟩ := hR.2.2.2.2.1 0 (by decide)
  obtain ⟨r11, r12, r13⟩ := hR.2.2.2.2.1 1 (by decide)
  obtain ⟨r21, r22, r23⟩ := hR.2.2.2.2.1 2 (by decide)
  have hv0 := hv 0 (by decide)
  have hv1 := hv 1 (by decide)
  have hv2 := hv 2 (by decide)
  simp (disch := omega) only [ax_const, ax_iload, ax_lload, ax_aload, ax_istore, ax_astore, ax_iinc, ax_i2, ax_i2n, ax_l2, ax_lsh, ax_ii, ax_il, ax_li, ax_pop, ax_dup, ax_dup2, ax_if, ax_cmp, ax_acmp, ax_goto, ax_getI, ax_getR, ax_putI, ax_putR, ax_gets, ax_getsT, ax_aldI, ax_aldR, ax_astI, ax_astR, ax_alen, ax_ret, ax_aret, ax_vret, am_st, am_kl, List.getElem?_cons_zero, List.getElem?_cons_succ, List.set_cons_zero, List.set_cons_succ, Value.category, true_and, and_true, if_true, if_false, reduceCtorEq, Bool.false_eq_true, false_implies, forall_const, Option.some.injEq, exists_eq_left', exists_eq_left, Sum.inl.injEq, Sum.inr.injEq, Prod.mk.injEq, Option.toList_some, Option.toList_none, List.cons_append, List.nil_append, List.append_nil, nI_toInt, nI_clamp, am_ix_nI, am_ix_0, am_ix_1, am_ix_2, am_ix_3, am_n0, am_n1, am_n2, am_n3, am_n4, am_t0, am_t1, am_t2, am_t3, am_t4, am_tm1, am_nS, am_nP, am_nM, Int.ofNat_lt, Int.ofNat_le, h24, hH.1, hH.r30, hH.s30, hH.r31, hH.s31, r02, r03]
  refine ⟨⟨by decide, by decide, ?_⟩, fun z => absurd trivial z⟩
  refine am_callK [.ref m, .int (nI (T (9 + 0))), .int (nI (T (13 + 0)))] [] (d' := 1) (lim' := (am_tp σ, am_us σ)) rfl (by decide) (Nat.le_refl _) (Nat.le_refl _) rfl (Nat.le_of_ble_eq_true rfl) (am_recv hH.1) ?_
  refine c_ywork hH ho hI hk hc (hE σ) hv0.1 (hv0.2 _) (fun σ1 f1 t1 u1 => ?_)
  have hH1 := hH.f f1
  have g1 : ygF m σ σ1 := f1.mono (fun b x => by omega)
  have s12 : am_i σ1 (m + 18) 1 = nI (T (9 + 1)) := by rw [f1.i (a := m + 18) (by omega)]; exact r12
  have s13 : am_i σ1 (m + 19) 1 = nI (T (13 + 1)) := by rw [f1.i (a := m + 19) (by omega)]; exact r13
  simp (disch := omega) only [ax_const, ax_iload, ax_lload, ax_aload, ax_istore, ax_astore, ax_iinc, ax_i2, ax_i2n, ax_l2, ax_lsh, ax_ii, ax_il, ax_li, ax_pop, ax_dup, ax_dup2, ax_if, ax_cmp, ax_acmp, ax_goto, ax_getI, ax_getR, ax_putI, ax_putR, ax_gets, ax_getsT, ax_aldI, ax_aldR, ax_astI, ax_astR, ax_alen, ax_ret, ax_aret, ax_vret, am_st, am_kl, List.getElem?_cons_zero, List.getElem?_cons_succ, List.set_cons_zero, List.set_cons_succ, Value.category, true_and, and_true, if_true, if_false, reduceCtorEq, Bool.false_eq_true, false_implies, forall_const, Option.some.injEq, exists_eq_left', exists_eq_left, Sum.inl.injEq, Sum.inr.injEq, Prod.mk.injEq, Option.toList_some, Option.toList_none, List.cons_append, List.nil_append, List.append_nil, nI_toInt, nI_clamp, am_ix_nI, am_ix_0, am_ix_1, am_ix_2, am_ix_3, am_n0, am_n1, am_n2, am_n3, am_n4, am_t0, am_t1, am_t2, am_t3, am_t4, am_tm1, am_nS, am_nP, am_nM, Int.ofNat_lt, Int.ofNat_le, hH1.1, hH1.r30, hH1.s30, hH1.r31, hH1.s31, ← y1, am_n1, am_ix_1, s12, s13]
  refine ⟨by decide, by decide, ?_⟩
  refine am_callK [.ref m, .int (nI (T (9 + 1))), .int (nI (T (13 + 1)))] [] (d' := 1) (lim' := (am_tp σ1, am_us σ1)) rfl (by decide) (Nat.le_of_eq g1.tp) (Nat.le_of_eq g1.us) rfl (Nat.le_of_ble_eq_true rfl) (am_recv hH1.1) ?_
  refine c_ywork hH1 ho (hI.gF g1) hk hc (hE σ1) hv1.1 (hv1.2 _) (fun σ2 f2 t2 u2 => ?_)
  have hH2 := hH1.f f2
  have g2 : ygF m σ σ2 := ym_f.tr g1 (f2.mono (fun b x => by omega))
  have s22 : am_i σ2 (m + 18) 2 = nI (T (9 + 2)) := by rw [g2.i (a := m + 18) (by omega)]; exact r22
  have s23 : am_i σ2 (m + 19) 2 = nI (T (13 + 2)) := by rw [g2.i (a := m + 19) (by omega)]; exact r23
  simp (disch := omega) only [ax_const, ax_iload, ax_lload, ax_aload, ax_istore, ax_astore, ax_iinc, ax_i2, ax_i2n, ax_l2, ax_lsh, ax_ii, ax_il, ax_li, ax_pop, ax_dup, ax_dup2, ax_if, ax_cmp, ax_acmp, ax_goto, ax_getI, ax_getR, ax_putI, ax_putR, ax_gets, ax_getsT, ax_aldI, ax_aldR, ax_astI, ax_astR, ax_alen, ax_ret, ax_aret, ax_vret, am_st, am_kl, List.getElem?_cons_zero, List.getElem?_cons_succ, List.set_cons_zero, List.set_cons_succ, Value.category, true_and, and_true, if_true, if_false, reduceCtorEq, Bool.false_eq_true, false_implies, forall_const, Option.some.injEq, exists_eq_left', exists_eq_left, Sum.inl.injEq, Sum.inr.injEq, Prod.mk.injEq, Option.toList_some, Option.toList_none, List.cons_append, List.nil_append, List.append_nil, nI_toInt, nI_clamp, am_ix_nI, am_ix_0, am_ix_1, am_ix_2, am_ix_3, am_n0, am_n1, am_n2, am_n3, am_n4, am_t0, am_t1, am_t2, am_t3, am_t4, am_tm1, am_nS, am_nP, am_nM, Int.ofNat_lt, Int.ofNat_le]
  refine kX10_changed_67 ?_
  simp (disch := omega) only [ax_const, ax_iload, ax_lload, ax_aload, ax_istore, ax_astore, ax_iinc, ax_i2, ax_i2n, ax_l2, ax_lsh, ax_ii, ax_il, ax_li, ax_pop, ax_dup, ax_dup2, ax_if, ax_cmp, ax_acmp, ax_goto, ax_getI, ax_getR, ax_putI, ax_putR, ax_gets, ax_getsT, ax_aldI, ax_aldR, ax_astI, ax_astR, ax_alen, ax_ret, ax_aret, ax_vret, am_st, am_kl, List.getElem?_cons_zero, List.getElem?_cons_succ, List.set_cons_zero, List.set_cons_succ, Value.category, true_and, and_true, if_true, if_false, reduceCtorEq, Bool.false_eq_true, false_implies, forall_const, Option.some.injEq, exists_eq_left', exists_eq_left, Sum.inl.injEq, Sum.inr.injEq, Prod.mk.injEq, Option.toList_some, Option.toList_none, List.cons_append, List.nil_append, List.append_nil, nI_toInt, nI_clamp, am_ix_nI, am_ix_0, am_ix_1, am_ix_2, am_ix_3, am_n0, am_n1, am_n2, am_n3, am_n4, am_t0, am_t1, am_t2, am_t3, am_t4, am_tm1, am_nS, am_nP, am_nM, Int.ofNat_lt, Int.ofNat_le, hH2.1, hH2.r30, hH2.s30, hH2.r31, hH2.s31, s22, s23]
  refine ⟨by decide, by decide, ?_⟩
  refine am_callK [.ref m, .int (nI (T (9 + 2))), .int (nI (T (13 + 2)))] [] (d' := 1) (lim' := (am_tp σ2, am_us σ2)) rfl (by decide) (Nat.le_of_eq g2.tp) (Nat.le_of_eq g2.us) rfl (Nat.le_of_ble_eq_true rfl) (am_recv hH2.1) ?_
  refine c_ywork hH2 ho (hI.gF g2) hk hc (hE σ2) hv2.1 (hv2.2 _) (fun σ3 f3 t3 u3 => ?_)
  have hH3 := hH2.f f3
  have g3 : ygF m σ σ3 := ym_f.tr g2 (f3.mono (fun b x => by omega))
  have hP3 : ym_P σ3 m P := a3.f (ym_f.tr (ym_f.tr f1 f2) f3) (by omega) (by omega) (by omega) (by omega)
  have same : ym_P σ3 m (fun q => if q = ym_pt 1 (D.1 i) t then D.2.2.1 (D.1 i) t else P q) := hP3.ext (fun q => by
    split
    · rename_i e; rw [e, hPp]
    · rfl)
  obtain ⟨n1, n2, n3⟩ := hP3 _ hpt
  rw [hPp] at n1 n2
  simp (disch := omega) only [ax_const, ax_iload, ax_lload, ax_aload, ax_istore, ax_astore, ax_iinc, ax_i2, ax_i2n, ax_l2, ax_lsh, ax_ii, ax_il, ax_li, ax_pop, ax_dup, ax_dup2, ax_if, ax_cmp, ax_acmp, ax_goto, ax_getI, ax_getR, ax_putI, ax_putR, ax_gets, ax_getsT, ax_aldI, ax_aldR, ax_astI, ax_astR, ax_alen, ax_ret, ax_aret, ax_vret, am_st, am_kl, List.getElem?_cons_zero, List.getElem?_cons_succ, List.set_cons_zero, List.set_cons_succ, Value.category, true_and, and_true, if_true, if_false, reduceCtorEq, Bool.false_eq_true, false_implies, forall_const, Option.some.injEq, exists_eq_left', exists_eq_left, Sum.inl.injEq, Sum.inr.injEq, Prod.mk.injEq, Option.toList_some, Option.toList_none, List.cons_append, List.nil_append, List.append_nil, nI_toInt, nI_clamp, am_ix_nI, am_ix_0, am_ix_1, am_ix_2, am_ix_3, am_n0, am_n1, am_n2, am_n3, am_n4, am_t0, am_t1, am_t2, am_t3, am_t4, am_tm1, am_nS, am_nP, am_nM, Int.ofNat_lt, Int.ofNat_le]
  refine am_callK [.ref m, .int (nI (ym_pt 1 (D.1 i) t)), .int (v 0)] [] (d' := 0) (lim' := (am_tp σ3, am_us σ3)) rfl (by decide) (Nat.le_of_eq g3.tp) (Nat.le_of_eq g3.us) rfl (Nat.le_of_ble_eq_true rfl) (am_recv hH3.1) ?_
  refine c_yfind hH3 hP3 hpt (fun _ _ => ?_)
  rw [hPp]
  have hbnd : 6 * ym_pt 1 (D.1 i) t + (D.2.2.1 (D.1 i) t).length < 2 ^ 31 := by omega
  unfold xo_ins at hQ
  dsimp only at hQ
  rcases xr_find_spec (v 0) (D.2.2.1 (D.1 i) t) (6 * ym_pt 1 (D.1 i) t) hbnd with ⟨e1, e2⟩ | ⟨j, f, e0, e1, e2⟩
  · rw [e1] at hQ
    rw [e2]
    have em : (Int32.toInt (-1) < 0) = True := eq_true (by decide)
    have o6 : (6 : Int32) = nI 6 := rfl
    simp (disch := omega) only [ax_const, ax_iload, ax_lload, ax_aload, ax_istore, ax_astore, ax_iinc, ax_i2, ax_i2n, ax_l2, ax_lsh, ax_ii, ax_il, ax_li, ax_pop, ax_dup, ax_dup2, ax_if, ax_cmp, ax_acmp, ax_goto, ax_getI, ax_getR, ax_putI, ax_putR, ax_gets, ax_getsT, ax_aldI, ax_aldR, ax_astI, ax_astR, ax_alen, ax_ret, ax_aret, ax_vret, am_st, am_kl, List.getElem?_cons_zero, List.getElem?_cons_succ, List.set_cons_zero, List.set_cons_succ, Value.category, true_and, and_true, if_true, if_false, reduceCtorEq, Bool.false_eq_true, false_implies, forall_const, Option.some.injEq, exists_eq_left', exists_eq_left, Sum.inl.injEq, Sum.inr.injEq, Prod.mk.injEq, Option.toList_some, Option.toList_none, List.cons_append, List.nil_append, List.append_nil, nI_toInt, nI_clamp, am_ix_nI, am_ix_0, am_ix_1, am_ix_2, am_ix_3, am_n0, am_n1, am_n2, am_n3, am_n4, am_t0, am_t1, am_t2, am_t3, am_t4, am_tm1, am_nS, am_nP, am_nM, Int.ofNat_lt, Int.ofNat_le, em, hH3.1, hH3.r1, hH3.s1, n1, o6, yl_eq]
    refine ⟨fun _ => ⟨hpt, fun c6 => ⟨g3.tp, g3.us, hQ σ3 (-5) _ ?_ (hO.work a4 hlab ht hne g3.O same) g3⟩, fun c6 => ?_⟩, fun z => absurd (by decide) z⟩
    · rw [if_neg (by decide), if_pos c6]
    · refine am_callK [.ref m, .int (nI (ym_pt 1 (D.1 i) t)), .int (v 0), .int (v 1), .int (v 2)] [] (d' := 0) (lim' := (am_tp σ3, am_us σ3)) rfl (by decide) (Nat.le_of_eq g3.tp) (Nat.le_of_eq g3.us) rfl (Nat.le_of_ble_eq_true rfl) (am_recv hH3.1) ?_
      refine c_yinsert (e := (v 0, v 1, v 2, nI (D.1 i))) hH3 hP3 hpt (by rw [hPp]; omega) (fun σ4 hP4 f4 t4 u4 => ?_)
      rw [hPp] at hP4
      have g4 : ygF m σ σ4 := ym_f.tr g3 (f4.mono (fun b x => Or.inl x))
      simp (disch := omega) only [ax_const, ax_iload, ax_lload, ax_aload, ax_istore, ax_astore, ax_iinc, ax_i2, ax_i2n, ax_l2, ax_lsh, ax_ii, ax_il, ax_li, ax_pop, ax_dup, ax_dup2, ax_if, ax_cmp, ax_acmp, ax_goto, ax_getI, ax_getR, ax_putI, ax_putR, ax_gets, ax_getsT, ax_aldI, ax_aldR, ax_astI, ax_astR, ax_alen, ax_ret, ax_aret, ax_vret, am_st, am_kl, List.getElem?_cons_zero, List.getElem?_cons_succ, List.set_cons_zero, List.set_cons_succ, Value.category, true_and, and_true, if_true, if_false, reduceCtorEq, Bool.false_eq_true, false_implies, forall_const, Option.some.injEq, exists_eq_left', exists_eq_left, Sum.inl.injEq, Sum.inr.injEq, Prod.mk.injEq, Option.toList_some, Option.toList_none, List.cons_append, List.nil_append, List.append_nil]
      exact ⟨g4.tp, g4.us, hQ σ4 1 _ (by rw [if_neg (by decide), if_neg c6]) (hO.work a4 hlab ht hne g4.O hP4) g4⟩
  · rw [e1] at hQ
    rw [e2]
    have hj := (List.getElem?_eq_some_iff.mp e0).1
    simp (disch := omega) only [ax_const, ax_iload, ax_lload, ax_aload, ax_istore, ax_astore, ax_iinc, ax_i2, ax_i2n, ax_l2, ax_lsh, ax_ii, ax_il, ax_li, ax_pop, ax_dup, ax_dup2, ax_if, ax_cmp, ax_acmp, ax_goto, ax_getI, ax_getR, ax_putI, ax_putR, ax_gets, ax_getsT, ax_aldI, ax_aldR, ax_astI, ax_astR, ax_alen, ax_ret, ax_aret, ax_vret, am_st, am_kl, List.getElem?_cons_zero, List.getElem?_cons_succ, List.set_cons_zero, List.set_cons_succ, Value.category, true_and, and_true, if_true, if_false, reduceCtorEq, Bool.false_eq_true, false_implies, forall_const, Option.some.injEq, exists_eq_left', exists_eq_left, Sum.inl.injEq, Sum.inr.injEq, Prod.mk.injEq, Option.toList_some, Option.toList_none, List.cons_append, List.nil_append, List.append_nil, nI_toInt, nI_clamp, am_ix_nI, am_ix_0, am_ix_1, am_ix_2, am_ix_3, am_n0, am_n1, am_n2, am_n3, am_n4, am_t0, am_t1, am_t2, am_t3, am_t4, am_tm1, am_nS, am_nP, am_nM, Int.ofNat_lt, Int.ofNat_le, yl_tn, false_implies, true_and, not_false_eq_true, true_implies]
    exact ⟨fun z => by omega, fun _ => ⟨g3.tp, g3.us, hQ σ3 (-4) _ (by rw [if_pos (by rfl)]) (hO.work a4 hlab ht hne g3.O same) g3⟩⟩
