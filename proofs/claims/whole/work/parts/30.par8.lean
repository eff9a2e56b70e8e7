/-! readInsert, readUpdate -/
theorem xp_Z.fc {g : am_G} {σ : am_S} {pa v : Nat} {ts : List (Nat × Int32)} {W : xp_W} (h : xp_Z g σ pa ts W v) : am_sh σ pa = some (.inl 1) ∧ am_r σ pa 0 = some (pa + 1) ∧ am_sh σ (pa + 1) = some (.inl 6) ∧ am_r σ (pa + 1) 7 = some (pa + 1 + 1) ∧ am_sh σ (pa + 1 + 1) = some (.inr (7, 3)) ∧ (∀ i, i < 3 → am_r σ (pa + 1 + 1) i = some (xs_ca (pa + 1) i)) ∧ am_r σ (pa + 1) 8 = some (xs_ca (pa + 1) 3) ∧ am_r σ (pa + 1) 9 = some (xs_ca (pa + 1) 4) ∧ am_r σ (pa + 1) 10 = some (xs_ca (pa + 1) 5) ∧ W.2.2.2.1 ≤ ts.length := by
  obtain ⟨⟨g1, g2, g3, g4, g5, g6, g7, g8, g9, g10, g11, g12, g13⟩, h2, h3⟩ := h
  obtain ⟨a1, a2, a3, a4, a5, a6, a7, a8, a9, a10, a11, a12⟩ := g9
  refine ⟨g2, g3, a1, a2, a8, fun i hi => ?_, a3, a4, a5, g13⟩
  have := xs_ca_in (pa + 1) i (by omega)
  rw [a9 i hi]
  congr 1
  omega
theorem xp_need_mono (ts : List (Nat × Int32)) (t : Nat) (m : xp_M) : m.1 ≤ (xp_need ts t m).1 := by
  unfold xp_need
  split
  · exact Nat.le_succ _
  · exact Nat.le_refl _
theorem xp_tbl_mono (ts : List (Nat × Int32)) (m : xp_M) : m.1 ≤ (xp_tbl ts m).2.1 := by
  unfold xp_tbl
  split
  · exact Nat.le_succ _
  · exact xp_need_mono ..
def xp_oT (ts : List (Nat × Int32)) (i : Nat) (W : xp_W) : xp_W := xp_sf i (nI (xp_tbl ts W.2.2.2).1) (xp_om (fun m => (xp_tbl ts m).2) W)
theorem xp_fr.wi {pa i : Nat} {x : Int32} {σ σ' : am_S} (h : xp_fr pa σ σ') : xp_fr pa σ (am_wi σ' (pa + 1) i x) := am_fm.wi h ⟨by omega, by omega⟩
theorem xp_oE_at {ts : List (Nat × Int32)} {j : Nat} {W : xp_W} (h : W.2.2.2.1 ≤ ts.length) : W.2.2.2.1 ≤ (xp_oE ts j W).2.2.2.1 := (xp_Gr.E ts 6 (xp_cin j W) h).1
theorem xp_Xm_G {ts : List (Nat × Int32)} {m : xp_M} (h : m.1 ≤ ts.length) : xp_G ts.length 0 m (xp_Xm ts m).2 := by
  unfold xp_Xm
  split
  · rename_i q
    exact ⟨Nat.le_succ _, xp_hd_lt q (by decide), by show m.2.2.1.length + 2 * m.1 ≤ m.2.2.1.length + 2 * (m.1 + 1) + 0; omega⟩
  · split
    · rename_i q
      have hlt := xp_hd_lt q (by decide)
      have g1 : xp_G ts.length 0 m (xp_need ts 23 (xp_adv m)) := xp_G.need (by decide) ⟨Nat.le_succ _, hlt, by show m.2.2.1.length + 2 * m.1 ≤ m.2.2.1.length + 2 * (m.1 + 1) + 0; omega⟩
      refine xp_G.need (by decide) ?_
      obtain ⟨a1, a2, a3⟩ := xp_Gr.E ts 6 _ g1.2.1
      obtain ⟨b1, b2, b3⟩ := g1
      exact ⟨by omega, a2, by omega⟩
    · exact xp_Gr.E ts 6 m h
theorem xp_oX_at {ts : List (Nat × Int32)} {j : Nat} {W : xp_W} (h : W.2.2.2.1 ≤ ts.length) : W.2.2.2.1 ≤ (xp_oX ts j W).2.2.2.1 := (xp_Xm_G (m := xp_cin j W) h).1
def xp_rI (ts : List (Nat × Int32)) (W : xp_W) : xp_W := xp_oE ts 2 (xp_om (xp_need ts 22) (xp_oE ts 1 (xp_om (xp_need ts 22) (xp_oE ts 0 (xp_oT ts 3 W)))))
theorem c_pinsert {g : am_G} {l : Launch} {σ : am_S} {pa v : Nat} {ts : List (Nat × Int32)} {W : xp_W} {Q : Option Value → am_S → Prop} (h : xp_Z g σ pa ts W v) (ha : 1 ≤ W.2.2.2.1) (hs : ∀ j, j < 6 → W.2.2.1 j = [])
    (hQ : ∀ σ', xp_Z g σ' pa ts (xp_rI ts W) v → xp_fr pa σ σ' → Q none σ') : am_C g l mX1_readInsert 24 (am_tp σ, am_us σ) [.ref pa] σ Q := by
  obtain ⟨f1, f2, f3, f4, f5, f6, f7, f8, f9, f10⟩ := h.fc
  refine am_C.go [some (.ref pa)] (by decide +kernel) (Nat.le_of_ble_eq_true rfl) rfl (kX1_readInsert_0 ?_)
  simp (disch := omega) only [ax_const, ax_iload, ax_lload, ax_aload, ax_istore, ax_astore, ax_iinc, ax_i2, ax_i2n, ax_l2, ax_lsh, ax_ii, ax_il, ax_li, ax_pop, ax_dup, ax_dup2, ax_if, ax_cmp, ax_acmp, ax_goto, ax_getI, ax_getR, ax_putI, ax_putR, ax_gets, ax_getsT, ax_aldI, ax_aldR, ax_astI, ax_astR, ax_alen, ax_ret, ax_aret, ax_vret, am_st, am_kl, List.getElem?_cons_zero, List.getElem?_cons_succ, List.set_cons_zero, List.set_cons_succ, Value.category, true_and, and_true, if_true, if_false, reduceCtorEq, Bool.false_eq_true, false_implies, forall_const, Option.some.injEq, exists_eq_left', exists_eq_left, Sum.inl.injEq, Sum.inr.injEq, Prod.mk.injEq, nI_toInt, nI_clamp, am_ix_nI, am_ix_0, am_ix_1, am_ix_2, am_ix_3, am_n0, am_n1, am_n2, am_n3, am_n4, am_t0, am_t1, am_t2, am_t3, am_t4, am_tm1, am_nS, am_nP, am_nM, Int.ofNat_lt, Int.ofNat_le, f1, f2]
  refine z_table h (by decide) rfl rfl (Nat.le_of_ble_eq_true rfl) (fun σ1 h1 fr1 t1 u1 => ?_)
  obtain ⟨p1, p2, p3, p4, p5, p6, p7, p8, p9, p10⟩ := h1.fc
  have h2 := h1.sf (i := 3) (x := nI (xp_tbl ts W.2.2.2).1)
  obtain ⟨r1, r2, r3, r4, r5, r6, r7, r8, r9, r10⟩ := h2.fc
  simp (disch := omega) only [ax_const, ax_iload, ax_lload, ax_aload, ax_istore, ax_astore, ax_iinc, ax_i2, ax_i2n, ax_l2, ax_lsh, ax_ii, ax_il, ax_li, ax_pop, ax_dup, ax_dup2, ax_if, ax_cmp, ax_acmp, ax_goto, ax_getI, ax_getR, ax_putI, ax_putR, ax_gets, ax_getsT, ax_aldI, ax_aldR, ax_astI, ax_astR, ax_alen, ax_ret, ax_aret, ax_vret, am_st, am_kl, List.getElem?_cons_zero, List.getElem?_cons_succ, List.set_cons_zero, List.set_cons_succ, Value.category, true_and, and_true, if_true, if_false, reduceCtorEq, Bool.false_eq_true, false_implies, forall_const, Option.some.injEq, exists_eq_left', exists_eq_left, Sum.inl.injEq, Sum.inr.injEq, Prod.mk.injEq, nI_toInt, nI_clamp, am_ix_nI, am_ix_0, am_ix_1, am_ix_2, am_ix_3, am_n0, am_n1, am_n2, am_n3, am_n4, am_t0, am_t1, am_t2, am_t3, am_t4, am_tm1, am_nS, am_nP, am_nM, Int.ofNat_lt, Int.ofNat_le, am_sh_wi, am_sh_wr, am_r_wi, am_i_wr, am_tp_wi, am_tp_wr, am_us_wi, am_us_wr, am_i_wi, am_r_wr, p1, p2, p3, p4, p5, p6 0 (by decide)]
  refine ⟨by decide, ?_⟩
  have m1 : 1 ≤ (xp_oT ts 3 W).2.2.2.1 := Nat.le_trans ha (xp_tbl_mono ts W.2.2.2)
  refine z_E (W := xp_oT ts 3 W) h2 (by decide) (by show (W.2.2.1 0).length + 2 ≤ 2 * (xp_oT ts 3 W).2.2.2.1; rw [hs 0 (by decide)]; show 0 + 2 ≤ _; omega) (by decide) t1 u1 (fun σ2 h3 fr3 t3 u3 => ?_)
  obtain ⟨p1, p2, p3, p4, p5, p6, p7, p8, p9, p10⟩ := h3.fc
  have m2 : 1 ≤ (xp_oE ts 0 (xp_oT ts 3 W)).2.2.2.1 := Nat.le_trans m1 (xp_oE_at r10)
  simp (disch := omega) only [ax_const, ax_iload, ax_lload, ax_aload, ax_istore, ax_astore, ax_iinc, ax_i2, ax_i2n, ax_l2, ax_lsh, ax_ii, ax_il, ax_li, ax_pop, ax_dup, ax_dup2, ax_if, ax_cmp, ax_acmp, ax_goto, ax_getI, ax_getR, ax_putI, ax_putR, ax_gets, ax_getsT, ax_aldI, ax_aldR, ax_astI, ax_astR, ax_alen, ax_ret, ax_aret, ax_vret, am_st, am_kl, List.getElem?_cons_zero, List.getElem?_cons_succ, List.set_cons_zero, List.set_cons_succ, Value.category, true_and, and_true, if_true, if_false, reduceCtorEq, Bool.false_eq_true, false_implies, forall_const, Option.some.injEq, exists_eq_left', exists_eq_left, Sum.inl.injEq, Sum.inr.injEq, Prod.mk.injEq, nI_toInt, nI_clamp, am_ix_nI, am_ix_0, am_ix_1, am_ix_2, am_ix_3, am_n0, am_n1, am_n2, am_n3, am_n4, am_t0, am_t1, am_t2, am_t3, am_t4, am_tm1, am_nS, am_nP, am_nM, Int.ofNat_lt, Int.ofNat_le]
  refine z_need h3 (by decide) (by decide) t3 u3 (by decide) (fun σ3 h4 fr4 t4 u4 => ?_)
  obtain ⟨q1, q2, q3, q4, q5, q6, q7, q8, q9, q10⟩ := h4.fc
  have m3 : 1 ≤ (xp_om (xp_need ts 22) (xp_oE ts 0 (xp_oT ts 3 W))).2.2.2.1 := Nat.le_trans m2 (xp_need_mono ..)
  simp (disch := omega) only [ax_const, ax_iload, ax_lload, ax_aload, ax_istore, ax_astore, ax_iinc, ax_i2, ax_i2n, ax_l2, ax_lsh, ax_ii, ax_il, ax_li, ax_pop, ax_dup, ax_dup2, ax_if, ax_cmp, ax_acmp, ax_goto, ax_getI, ax_getR, ax_putI, ax_putR, ax_gets, ax_getsT, ax_aldI, ax_aldR, ax_astI, ax_astR, ax_alen, ax_ret, ax_aret, ax_vret, am_st, am_kl, List.getElem?_cons_zero, List.getElem?_cons_succ, List.set_cons_zero, List.set_cons_succ, Value.category, true_and, and_true, if_true, if_false, reduceCtorEq, Bool.false_eq_true, false_implies, forall_const, Option.some.injEq, exists_eq_left', exists_eq_left, Sum.inl.injEq, Sum.inr.injEq, Prod.mk.injEq, nI_toInt, nI_clamp, am_ix_nI, am_ix_0, am_ix_1, am_ix_2, am_ix_3, am_n0, am_n1, am_n2, am_n3, am_n4, am_t0, am_t1, am_t2, am_t3, am_t4, am_tm1, am_nS, am_nP, am_nM, Int.ofNat_lt, Int.ofNat_le, q1, q2, q3, q4, q5, q6 1 (by decide)]
  refine ⟨by decide, ?_⟩
  refine kX1_readInsert_43 ?_
  refine z_E (j := 1) h4 (by decide) (by show (W.2.2.1 1).length + 2 ≤ 2 * _; rw [hs 1 (by decide)]; show 0 + 2 ≤ _; omega) (by decide) t4 u4 (fun σ4 h5 fr5 t5 u5 => ?_)
  have m4 : 1 ≤ (xp_oE ts 1 (xp_om (xp_need ts 22) (xp_oE ts 0 (xp_oT ts 3 W)))).2.2.2.1 := Nat.le_trans m3 (xp_oE_at q10)
  simp (disch := omega) only [ax_const, ax_iload, ax_lload, ax_aload, ax_istore, ax_astore, ax_iinc, ax_i2, ax_i2n, ax_l2, ax_lsh, ax_ii, ax_il, ax_li, ax_pop, ax_dup, ax_dup2, ax_if, ax_cmp, ax_acmp, ax_goto, ax_getI, ax_getR, ax_putI, ax_putR, ax_gets, ax_getsT, ax_aldI, ax_aldR, ax_astI, ax_astR, ax_alen, ax_ret, ax_aret, ax_vret, am_st, am_kl, List.getElem?_cons_zero, List.getElem?_cons_succ, List.set_cons_zero, List.set_cons_succ, Value.category, true_and, and_true, if_true, if_false, reduceCtorEq, Bool.false_eq_true, false_implies, forall_const, Option.some.injEq, exists_eq_left', exists_eq_left, Sum.inl.injEq, Sum.inr.injEq, Prod.mk.injEq, nI_toInt, nI_clamp, am_ix_nI, am_ix_0, am_ix_1, am_ix_2, am_ix_3, am_n0, am_n1, am_n2, am_n3, am_n4, am_t0, am_t1, am_t2, am_t3, am_t4, am_tm1, am_nS, am_nP, am_nM, Int.ofNat_lt, Int.ofNat_le]
  refine z_need h5 (by decide) (by decide) t5 u5 (by decide) (fun σ5 h6 fr6 t6 u6 => ?_)
  obtain ⟨q1, q2, q3, q4, q5, q6, q7, q8, q9, q10⟩ := h6.fc
  have m5 : 1 ≤ (xp_om (xp_need ts 22) (xp_oE ts 1 (xp_om (xp_need ts 22) (xp_oE ts 0 (xp_oT ts 3 W))))).2.2.2.1 := Nat.le_trans m4 (xp_need_mono ..)
  simp (disch := omega) only [ax_const, ax_iload, ax_lload, ax_aload, ax_istore, ax_astore, ax_iinc, ax_i2, ax_i2n, ax_l2, ax_lsh, ax_ii, ax_il, ax_li, ax_pop, ax_dup, ax_dup2, ax_if, ax_cmp, ax_acmp, ax_goto, ax_getI, ax_getR, ax_putI, ax_putR, ax_gets, ax_getsT, ax_aldI, ax_aldR, ax_astI, ax_astR, ax_alen, ax_ret, ax_aret, ax_vret, am_st, am_kl, List.getElem?_cons_zero, List.getElem?_cons_succ, List.set_cons_zero, List.set_cons_succ, Value.category, true_and, and_true, if_true, if_false, reduceCtorEq, Bool.false_eq_true, false_implies, forall_const, Option.some.injEq, exists_eq_left', exists_eq_left, Sum.inl.injEq, Sum.inr.injEq, Prod.mk.injEq, nI_toInt, nI_clamp, am_ix_nI, am_ix_0, am_ix_1, am_ix_2, am_ix_3, am_n0, am_n1, am_n2, am_n3, am_n4, am_t0, am_t1, am_t2, am_t3, am_t4, am_tm1, am_nS, am_nP, am_nM, Int.ofNat_lt, Int.ofNat_le, q1, q2, q3, q4, q5, q6 2 (by decide)]
  refine ⟨by decide, ?_⟩
  refine z_E (j := 2) h6 (by decide) (by show (W.2.2.1 2).length + 2 ≤ 2 * _; rw [hs 2 (by decide)]; show 0 + 2 ≤ _; omega) (by decide) t6 u6 (fun σ6 h7 fr7 t7 u7 => ?_)
  simp (disch := omega) only [ax_const, ax_iload, ax_lload, ax_aload, ax_istore, ax_astore, ax_iinc, ax_i2, ax_i2n, ax_l2, ax_lsh, ax_ii, ax_il, ax_li, ax_pop, ax_dup, ax_dup2, ax_if, ax_cmp, ax_acmp, ax_goto, ax_getI, ax_getR, ax_putI, ax_putR, ax_gets, ax_getsT, ax_aldI, ax_aldR, ax_astI, ax_astR, ax_alen, ax_ret, ax_aret, ax_vret, am_st, am_kl, List.getElem?_cons_zero, List.getElem?_cons_succ, List.set_cons_zero, List.set_cons_succ, Value.category, true_and, and_true, if_true, if_false, reduceCtorEq, Bool.false_eq_true, false_implies, forall_const, Option.some.injEq, exists_eq_left', exists_eq_left, Sum.inl.injEq, Sum.inr.injEq, Prod.mk.injEq, nI_toInt, nI_clamp, am_ix_nI, am_ix_0, am_ix_1, am_ix_2, am_ix_3, am_n0, am_n1, am_n2, am_n3, am_n4, am_t0, am_t1, am_t2, am_t3, am_t4, am_tm1, am_nS, am_nP, am_nM, Int.ofNat_lt, Int.ofNat_le, Option.toList_some, Option.toList_none, List.cons_append, List.nil_append, List.append_nil]
  exact ⟨t7, u7, hQ σ6 h7 ((((((fr1.wi).tr fr3).tr fr4).tr fr5).tr fr6).tr fr7)⟩
def xp_rU (ts : List (Nat × Int32)) (W : xp_W) : xp_W :=
  if xp_hd ts (xp_oT ts 3 W).2.2.2.1 = 16 then xp_oE ts 0 (xp_om (xp_need ts 30) (xp_sf 5 1 (xp_om xp_adv (xp_oT ts 3 W))))
  else xp_oE ts 0 (xp_om (xp_need ts 30) (xp_om (xp_need ts 17) (xp_sf 5 2 (xp_oT ts 3 W))))
theorem xp_u51 {g : am_G} {l : Launch} {σ0 σ : am_S} {pa v d tp us : Nat} {ts : List (Nat × Int32)} {W : xp_W} {Q : Option Value → am_S → Prop} (hd : 24 ≤ d) (h : xp_Z g σ pa ts W v) (ha : 1 ≤ W.2.2.2.1) (hs : W.2.2.1 0 = []) (h1 : am_tp σ = tp) (h2 : am_us σ = us) (hf : xp_fr pa σ0 σ)
    (hQ : ∀ σ', xp_Z g σ' pa ts (xp_oE ts 0 (xp_om (xp_need ts 30) W)) v → xp_fr pa σ0 σ' → Q none σ') : am_W g l mX1_readUpdate d (tp, us) Q 51 [some (.ref pa)] [] σ := by
  refine kX1_readUpdate_51 ?_
  simp (disch := omega) only [ax_const, ax_iload, ax_lload, ax_aload, ax_istore, ax_astore, ax_iinc, ax_i2, ax_i2n, ax_l2, ax_lsh, ax_ii, ax_il, ax_li, ax_pop, ax_dup, ax_dup2, ax_if, ax_cmp, ax_acmp, ax_goto, ax_getI, ax_getR, ax_putI, ax_putR, ax_gets, ax_getsT, ax_aldI, ax_aldR, ax_astI, ax_astR, ax_alen, ax_ret, ax_aret, ax_vret, am_st, am_kl, List.getElem?_cons_zero, List.getElem?_cons_succ, List.set_cons_zero, List.set_cons_succ, Value.category, true_and, and_true, if_true, if_false, reduceCtorEq, Bool.false_eq_true, false_implies, forall_const, Option.some.injEq, exists_eq_left', exists_eq_left, Sum.inl.injEq, Sum.inr.injEq, Prod.mk.injEq, nI_toInt, nI_clamp, am_ix_nI, am_ix_0, am_ix_1, am_ix_2, am_ix_3, am_n0, am_n1, am_n2, am_n3, am_n4, am_t0, am_t1, am_t2, am_t3, am_t4, am_tm1, am_nS, am_nP, am_nM, Int.ofNat_lt, Int.ofNat_le]
  refine z_need h (by decide) (by omega) h1 h2 (by decide) (fun σ3 h4 fr4 t4 u4 => ?_)
  obtain ⟨q1, q2, q3, q4, q5, q6, q7, q8, q9, q10⟩ := h4.fc
  have m3 : 1 ≤ (xp_om (xp_need ts 30) W).2.2.2.1 := Nat.le_trans ha (xp_need_mono ..)
  simp (disch := omega) only [ax_const, ax_iload, ax_lload, ax_aload, ax_istore, ax_astore, ax_iinc, ax_i2, ax_i2n, ax_l2, ax_lsh, ax_ii, ax_il, ax_li, ax_pop, ax_dup, ax_dup2, ax_if, ax_cmp, ax_acmp, ax_goto, ax_getI, ax_getR, ax_putI, ax_putR, ax_gets, ax_getsT, ax_aldI, ax_aldR, ax_astI, ax_astR, ax_alen, ax_ret, ax_aret, ax_vret, am_st, am_kl, List.getElem?_cons_zero, List.getElem?_cons_succ, List.set_cons_zero, List.set_cons_succ, Value.category, true_and, and_true, if_true, if_false, reduceCtorEq, Bool.false_eq_true, false_implies, forall_const, Option.some.injEq, exists_eq_left', exists_eq_left, Sum.inl.injEq, Sum.inr.injEq, Prod.mk.injEq, nI_toInt, nI_clamp, am_ix_nI, am_ix_0, am_ix_1, am_ix_2, am_ix_3, am_n0, am_n1, am_n2, am_n3, am_n4, am_t0, am_t1, am_t2, am_t3, am_t4, am_tm1, am_nS, am_nP, am_nM, Int.ofNat_lt, Int.ofNat_le, q1, q2, q3, q4, q5, q6 0 (by decide)]
  refine ⟨by decide, ?_⟩
  refine z_E (j := 0) h4 (by decide) (by show (W.2.2.1 0).length + 2 ≤ 2 * _; rw [hs]; show 0 + 2 ≤ _; omega) (by omega) t4 u4 (fun σ4 h5 fr5 t5 u5 => ?_)
  simp (disch := omega) only [ax_const, ax_iload, ax_lload, ax_aload, ax_istore, ax_astore, ax_iinc, ax_i2, ax_i2n, ax_l2, ax_lsh, ax_ii, ax_il, ax_li, ax_pop, ax_dup, ax_dup2, ax_if, ax_cmp, ax_acmp, ax_goto, ax_getI, ax_getR, ax_putI, ax_putR, ax_gets, ax_getsT, ax_aldI, ax_aldR, ax_astI, ax_astR, ax_alen, ax_ret, ax_aret, ax_vret, am_st, am_kl, List.getElem?_cons_zero, List.getElem?_cons_succ, List.set_cons_zero, List.set_cons_succ, Value.category, true_and, and_true, if_true, if_false, reduceCtorEq, Bool.false_eq_true, false_implies, forall_const, Option.some.injEq, exists_eq_left', exists_eq_left, Sum.inl.injEq, Sum.inr.injEq, Prod.mk.injEq, nI_toInt, nI_clamp, am_ix_nI, am_ix_0, am_ix_1, am_ix_2, am_ix_3, am_n0, am_n1, am_n2, am_n3, am_n4, am_t0, am_t1, am_t2, am_t3, am_t4, am_tm1, am_nS, am_nP, am_nM, Int.ofNat_lt, Int.ofNat_le, Option.toList_some, Option.toList_none, List.cons_append, List.nil_append, List.append_nil]
  exact ⟨t5, u5, hQ σ4 h5 ((hf.tr fr4).tr fr5)⟩
theorem c_pupdate {g : am_G} {l : Launch} {σ : am_S} {pa v : Nat} {ts : List (Nat × Int32)} {W : xp_W} {Q : Option Value → am_S → Prop} (h : xp_Z g σ pa ts W v) (ha : 1 ≤ W.2.2.2.1) (hs : ∀ j, j < 6 → W.2.2.1 j = [])
    (hQ : ∀ σ', xp_Z g σ' pa ts (xp_rU ts W) v → xp_fr pa σ σ' → Q none σ') : am_C g l mX1_readUpdate 24 (am_tp σ, am_us σ) [.ref pa] σ Q := by
  obtain ⟨f1, f2, f3, f4, f5, f6, f7, f8, f9, f10⟩ := h.fc
  have o1 : ¬ (1 : Int32) = 0 := by decide
  have o2 : ¬ (1 : Int32) = 2 := by decide
  unfold xp_rU at hQ
  refine am_C.go [some (.ref pa)] (by decide +kernel) (Nat.le_of_ble_eq_true rfl) rfl (kX1_readUpdate_0 ?_)
  simp (disch := omega) only [ax_const, ax_iload, ax_lload, ax_aload, ax_istore, ax_astore, ax_iinc, ax_i2, ax_i2n, ax_l2, ax_lsh, ax_ii, ax_il, ax_li, ax_pop, ax_dup, ax_dup2, ax_if, ax_cmp, ax_acmp, ax_goto, ax_getI, ax_getR, ax_putI, ax_putR, ax_gets, ax_getsT, ax_aldI, ax_aldR, ax_astI, ax_astR, ax_alen, ax_ret, ax_aret, ax_vret, am_st, am_kl, List.getElem?_cons_zero, List.getElem?_cons_succ, List.set_cons_zero, List.set_cons_succ, Value.category, true_and, and_true, if_true, if_false, reduceCtorEq, Bool.false_eq_true, false_implies, forall_const, Option.some.injEq, exists_eq_left', exists_eq_left, Sum.inl.injEq, Sum.inr.injEq, Prod.mk.injEq, nI_toInt, nI_clamp, am_ix_nI, am_ix_0, am_ix_1, am_ix_2, am_ix_3, am_n0, am_n1, am_n2, am_n3, am_n4, am_t0, am_t1, am_t2, am_t3, am_t4, am_tm1, am_nS, am_nP, am_nM, Int.ofNat_lt, Int.ofNat_le, f1, f2]
  refine z_table h (by decide) rfl rfl (Nat.le_of_ble_eq_true rfl) (fun σ1 h1 fr1 t1 u1 => ?_)
  obtain ⟨p1, p2, p3, p4, p5, p6, p7, p8, p9, p10⟩ := h1.fc
  have h2 := h1.sf (i := 3) (x := nI (xp_tbl ts W.2.2.2).1)
  have m1 : 1 ≤ (xp_oT ts 3 W).2.2.2.1 := Nat.le_trans ha (xp_tbl_mono ts W.2.2.2)
  simp (disch := omega) only [ax_const, ax_iload, ax_lload, ax_aload, ax_istore, ax_astore, ax_iinc, ax_i2, ax_i2n, ax_l2, ax_lsh, ax_ii, ax_il, ax_li, ax_pop, ax_dup, ax_dup2, ax_if, ax_cmp, ax_acmp, ax_goto, ax_getI, ax_getR, ax_putI, ax_putR, ax_gets, ax_getsT, ax_aldI, ax_aldR, ax_astI, ax_astR, ax_alen, ax_ret, ax_aret, ax_vret, am_st, am_kl, List.getElem?_cons_zero, List.getElem?_cons_succ, List.set_cons_zero, List.set_cons_succ, Value.category, true_and, and_true, if_true, if_false, reduceCtorEq, Bool.false_eq_true, false_implies, forall_const, Option.some.injEq, exists_eq_left', exists_eq_left, Sum.inl.injEq, Sum.inr.injEq, Prod.mk.injEq, nI_toInt, nI_clamp, am_ix_nI, am_ix_0, am_ix_1, am_ix_2, am_ix_3, am_n0, am_n1, am_n2, am_n3, am_n4, am_t0, am_t1, am_t2, am_t3, am_t4, am_tm1, am_nS, am_nP, am_nM, Int.ofNat_lt, Int.ofNat_le, am_sh_wi, am_sh_wr, am_r_wi, am_i_wr, am_tp_wi, am_tp_wr, am_us_wi, am_us_wr, am_i_wi, am_r_wr, p1, p2, p3]
  refine z_take (W := xp_oT ts 3 W) h2 (by decide) (by decide) t1 u1 (Nat.le_of_ble_eq_true rfl) (fun q σ2 h3 fr3 t3 u3 => ?_) (fun q => ?_)
  · rw [if_pos q] at hQ
    obtain ⟨q1, q2, q3, q4, q5, q6, q7, q8, q9, q10⟩ := h3.fc
    simp (disch := omega) only [ax_const, ax_iload, ax_lload, ax_aload, ax_istore, ax_astore, ax_iinc, ax_i2, ax_i2n, ax_l2, ax_lsh, ax_ii, ax_il, ax_li, ax_pop, ax_dup, ax_dup2, ax_if, ax_cmp, ax_acmp, ax_goto, ax_getI, ax_getR, ax_putI, ax_putR, ax_gets, ax_getsT, ax_aldI, ax_aldR, ax_astI, ax_astR, ax_alen, ax_ret, ax_aret, ax_vret, am_st, am_kl, List.getElem?_cons_zero, List.getElem?_cons_succ, List.set_cons_zero, List.set_cons_succ, Value.category, true_and, and_true, if_true, if_false, reduceCtorEq, Bool.false_eq_true, false_implies, forall_const, Option.some.injEq, exists_eq_left', exists_eq_left, Sum.inl.injEq, Sum.inr.injEq, Prod.mk.injEq, nI_toInt, nI_clamp, am_ix_nI, am_ix_0, am_ix_1, am_ix_2, am_ix_3, am_n0, am_n1, am_n2, am_n3, am_n4, am_t0, am_t1, am_t2, am_t3, am_t4, am_tm1, am_nS, am_nP, am_nM, Int.ofNat_lt, Int.ofNat_le, o1]
    intro _
    refine kX1_readUpdate_30 ?_
    simp (disch := omega) only [ax_const, ax_iload, ax_lload, ax_aload, ax_istore, ax_astore, ax_iinc, ax_i2, ax_i2n, ax_l2, ax_lsh, ax_ii, ax_il, ax_li, ax_pop, ax_dup, ax_dup2, ax_if, ax_cmp, ax_acmp, ax_goto, ax_getI, ax_getR, ax_putI, ax_putR, ax_gets, ax_getsT, ax_aldI, ax_aldR, ax_astI, ax_astR, ax_alen, ax_ret, ax_aret, ax_vret, am_st, am_kl, List.getElem?_cons_zero, List.getElem?_cons_succ, List.set_cons_zero, List.set_cons_succ, Value.category, true_and, and_true, if_true, if_false, reduceCtorEq, Bool.false_eq_true, false_implies, forall_const, Option.some.injEq, exists_eq_left', exists_eq_left, Sum.inl.injEq, Sum.inr.injEq, Prod.mk.injEq, nI_toInt, nI_clamp, am_ix_nI, am_ix_0, am_ix_1, am_ix_2, am_ix_3, am_n0, am_n1, am_n2, am_n3, am_n4, am_t0, am_t1, am_t2, am_t3, am_t4, am_tm1, am_nS, am_nP, am_nM, Int.ofNat_lt, Int.ofNat_le, am_sh_wi, am_sh_wr, am_r_wi, am_i_wr, am_tp_wi, am_tp_wr, am_us_wi, am_us_wr, am_i_wi, am_r_wr, q1, q2, q3, o2]
    intro _
    exact xp_u51 (Nat.le_refl _) (h3.sf (i := 5) (x := 1)) (by show 1 ≤ (xp_oT ts 3 W).2.2.2.1 + 1; omega) (hs 0 (by decide)) t3 u3 (xp_fr.wi (fr1.wi.tr fr3)) (fun σ' hz hfr => hQ σ' hz hfr)
  · rw [if_neg q] at hQ
    simp (disch := omega) only [ax_const, ax_iload, ax_lload, ax_aload, ax_istore, ax_astore, ax_iinc, ax_i2, ax_i2n, ax_l2, ax_lsh, ax_ii, ax_il, ax_li, ax_pop, ax_dup, ax_dup2, ax_if, ax_cmp, ax_acmp, ax_goto, ax_getI, ax_getR, ax_putI, ax_putR, ax_gets, ax_getsT, ax_aldI, ax_aldR, ax_astI, ax_astR, ax_alen, ax_ret, ax_aret, ax_vret, am_st, am_kl, List.getElem?_cons_zero, List.getElem?_cons_succ, List.set_cons_zero, List.set_cons_succ, Value.category, true_and, and_true, if_true, if_false, reduceCtorEq, Bool.false_eq_true, false_implies, forall_const, Option.some.injEq, exists_eq_left', exists_eq_left, Sum.inl.injEq, Sum.inr.injEq, Prod.mk.injEq, nI_toInt, nI_clamp, am_ix_nI, am_ix_0, am_ix_1, am_ix_2, am_ix_3, am_n0, am_n1, am_n2, am_n3, am_n4, am_t0, am_t1, am_t2, am_t3, am_t4, am_tm1, am_nS, am_nP, am_nM, Int.ofNat_lt, Int.ofNat_le, am_sh_wi, am_sh_wr, am_r_wi, am_i_wr, am_tp_wi, am_tp_wr, am_us_wi, am_us_wr, am_i_wi, am_r_wr]
    refine ⟨?_, fun z => absurd trivial z⟩
    refine kX1_readUpdate_30 ?_
    simp (disch := omega) only [ax_const, ax_iload, ax_lload, ax_aload, ax_istore, ax_astore, ax_iinc, ax_i2, ax_i2n, ax_l2, ax_lsh, ax_ii, ax_il, ax_li, ax_pop, ax_dup, ax_dup2, ax_if, ax_cmp, ax_acmp, ax_goto, ax_getI, ax_getR, ax_putI, ax_putR, ax_gets, ax_getsT, ax_aldI, ax_aldR, ax_astI, ax_astR, ax_alen, ax_ret, ax_aret, ax_vret, am_st, am_kl, List.getElem?_cons_zero, List.getElem?_cons_succ, List.set_cons_zero, List.set_cons_succ, Value.category, true_and, and_true, if_true, if_false, reduceCtorEq, Bool.false_eq_true, false_implies, forall_const, Option.some.injEq, exists_eq_left', exists_eq_left, Sum.inl.injEq, Sum.inr.injEq, Prod.mk.injEq, nI_toInt, nI_clamp, am_ix_nI, am_ix_0, am_ix_1, am_ix_2, am_ix_3, am_n0, am_n1, am_n2, am_n3, am_n4, am_t0, am_t1, am_t2, am_t3, am_t4, am_tm1, am_nS, am_nP, am_nM, Int.ofNat_lt, Int.ofNat_le, am_sh_wi, am_sh_wr, am_r_wi, am_i_wr, am_tp_wi, am_tp_wr, am_us_wi, am_us_wr, am_i_wi, am_r_wr, p1, p2, p3]
    refine ⟨?_, fun z => absurd trivial z⟩
    refine z_need (W := xp_sf 5 2 (xp_oT ts 3 W)) (h2.sf (i := 5) (x := 2)) (by decide) (by decide) t1 u1 (by decide) (fun σ3 h4 fr4 t4 u4 => ?_)
    have m3 : 1 ≤ (xp_om (xp_need ts 17) (xp_sf 5 2 (xp_oT ts 3 W))).2.2.2.1 := Nat.le_trans m1 (xp_need_mono ..)
    exact xp_u51 (Nat.le_refl _) h4 m3 (hs 0 (by decide)) t4 u4 ((fr1.wi.wi).tr fr4) (fun σ' hz hfr => hQ σ' hz hfr)
