/-! run: behind the reading -/
def yFa (dr : List Nat) (S : ys_S) : Prop := S.2.1 = false ∧ ∀ f : Nat → Int32, f 4 = -1 → xp_ok (xn_sc dr 0) (xp_parse (xn_sc dr 0) f) = true ∧ (∀ t, (xp_parse (xn_sc dr 0) f).2.2.2.2.2.2 t = yc S.2.2.1 t) ∧ yk S.2.2.1 ∧
  ((xp_hd (xn_sc dr 0) 0 = 0 ∧ yQ0 (xp_parse (xn_sc dr 0) f) S) ∨ (xp_hd (xn_sc dr 0) 0 = 1 ∧ yQ1 (xp_parse (xn_sc dr 0) f) S) ∨ (xp_hd (xn_sc dr 0) 0 = 2 ∧ yQ2 (xp_parse (xn_sc dr 0) f) S) ∨ (xp_hd (xn_sc dr 0) 0 = 3 ∧ yQ3 (xp_parse (xn_sc dr 0) f) S))
theorem yFa.T {dr : List Nat} {S : ys_S} (h : yFa dr S) : S.2.2.2 1 < 2 ∧ (S.2.2.2 0 = 1 ∨ (S.2.2.2 0 = 2 ∧ S.2.2.2 2 < 2)) ∧ xp_hd (xn_sc dr 0) 0 < 4 := by
  obtain ⟨-, h⟩ := h
  obtain ⟨-, -, -, h⟩ := h (fun _ => -1) rfl
  rcases h with ⟨a, b⟩ | ⟨a, b⟩ | ⟨a, b⟩ | ⟨a, b⟩
  · exact ⟨b.2.1, Or.inl b.1, by omega⟩
  · exact ⟨b.2.1, Or.inl b.1, by omega⟩
  · exact ⟨b.2.1, Or.inl b.1, by omega⟩
  · exact ⟨b.2.1, b.1.elim (fun q => Or.inl q.1) (fun q => Or.inr ⟨q.1, q.2.2⟩), by omega⟩
def yKn (σ : am_S) (m : Nat) (S : ys_S) : Prop := yR σ m S.2.2.2 ∧ ykI σ m S.2.2.1.length S.2.2.2 S.2.2.1 ∧ S.2.2.1.length ≤ 99 ∧ yk S.2.2.1 ∧ ∀ q, q ∈ S.2.2.1 → q.1 < 100
def yrF (m : Nat) (σ σ' : am_S) : Prop := ym_f (fun b => b = m + 9 ∨ b = m + 13) σ σ'
theorem yru_29 {g : am_G} {l : Launch} {σ : am_S} {m i d ds : Nat} {D : xx_D} {dr : List Nat} {z3 z4 : Option Value} {Q : Option Value → am_S → Prop} (hd : 10 ≤ d) (hds : ds < d) (hO : ym_O σ m D) (hi : i < 4) (h : yRD σ m dr)
    (hQ2 : (∀ f : Nat → Int32, f 4 = -1 → xp_ok (xn_sc dr 0) (xp_parse (xn_sc dr 0) f) = false) → ∀ σ', ym_O σ' m (yDd D i) → ym_q σ' m → yrF m σ σ' → Q (some (.int (-2))) σ')
    (hQ3 : ∀ S, yFa dr S → ykn S.2.2.2 (decide (xp_hd (xn_sc dr 0) 0 = 0)) S.2.2.1 = true → ∀ σ', ym_O σ' m (yDd D i) → ym_q σ' m → yrF m σ σ' → Q (some (.int (-3))) σ')
    (hSel : ∀ S, yFa dr S → ykn S.2.2.2 (decide (xp_hd (xn_sc dr 0) 0 = 0)) S.2.2.1 = false → xp_hd (xn_sc dr 0) 0 = 3 → ∀ σ', ym_O σ' m (yDd D i) → ym_q σ' m → yKn σ' m S → yrF m σ σ' → am_C g l mX10_select ds (am_tp σ', am_us σ') [.ref m, .int (nI i)] σ' (fun o σ'' => ∃ x, o = some (.int x) ∧ Q (some (.int x)) σ''))
    (hQ6 : ∀ S, yFa dr S → ykn S.2.2.2 (decide (xp_hd (xn_sc dr 0) 0 = 0)) S.2.2.1 = false → xp_hd (xn_sc dr 0) 0 ≠ 3 → D.2.2.2.1 (D.1 i) ≠ -1 → D.2.2.2.1 (D.1 i) ≠ nI i → ∀ σ', ym_O σ' m (yDd D i) → ym_q σ' m → yrF m σ σ' → Q (some (.int (-6))) σ')
    (hChg : ∀ S, yFa dr S → ykn S.2.2.2 (decide (xp_hd (xn_sc dr 0) 0 = 0)) S.2.2.1 = false → xp_hd (xn_sc dr 0) 0 ≠ 3 → (D.2.2.2.1 (D.1 i) = -1 ∨ D.2.2.2.1 (D.1 i) = nI i) → ∀ σ', ym_O σ' m (yDd D i) → ym_q σ' m → yKn σ' m S → (∀ s, s < 4 → (am_i σ' m 24 = yw_c (xt_w s) ↔ xp_hd (xn_sc dr 0) 0 = s)) → yrF m σ σ' → am_W g l mX10_run d (am_tp σ, am_us σ) Q 100 [some (.ref m), some (.int (nI i)), some (.int (nI (D.1 i))), z3, z4] [] σ') :
    am_W g l mX10_run d (am_tp σ, am_us σ) Q 29 [some (.ref m), some (.int (nI i)), none, z3, z4] [] σ := by
  have hH := hO.1
  have o1 : ¬ (1 : Int32) = 0 := by decide
  have hO1 := hO.dd hi
  have hf1 : yrF m σ (am_wi σ (m + 9) i 0) := ym_f.rf.wi (a := m + 9) (Or.inl rfl)
  have hf1' : ym_f (fun b => b = m + 9) σ (am_wi σ (m + 9) i 0) := ym_f.rf.wi (a := m + 9) rfl
  obtain ⟨hq, h⟩ := h
  have hq1 : ym_q (am_wi σ (m + 9) i 0) m := hq.fr (hf1'.i (by omega)) (hf1'.i (by omega))
  refine kX10_run_29 ?_
  rcases h with ⟨e13, hbad⟩ | ⟨e13, T, W, ns, w, hT0, hT4, hT17, hZ, h24, hall⟩
  · simp (disch := omega) only [ax_const, ax_iload, ax_lload, ax_aload, ax_istore, ax_astore, ax_iinc, ax_i2, ax_i2n, ax_l2, ax_lsh, ax_ii, ax_il, ax_li, ax_pop, ax_dup, ax_dup2, ax_if, ax_cmp, ax_acmp, ax_goto, ax_getI, ax_getR, ax_putI, ax_putR, ax_gets, ax_getsT, ax_aldI, ax_aldR, ax_astI, ax_astR, ax_alen, ax_ret, ax_aret, ax_vret, am_st, am_kl, List.getElem?_cons_zero, List.getElem?_cons_succ, List.set_cons_zero, List.set_cons_succ, Value.category, true_and, and_true, if_true, if_false, reduceCtorEq, Bool.false_eq_true, false_implies, forall_const, Option.some.injEq, exists_eq_left', exists_eq_left, Sum.inl.injEq, Sum.inr.injEq, Prod.mk.injEq, nI_toInt, nI_clamp, am_ix_nI, am_ix_0, am_ix_1, am_ix_2, am_ix_3, am_n0, am_n1, am_n2, am_n3, am_n4, am_t0, am_t1, am_t2, am_t3, am_t4, am_tm1, am_nS, am_nP, am_nM, Int.ofNat_lt, Int.ofNat_le, am_sh_wi, am_r_wi, am_tp_wi, am_us_wi, ym_is, ym_io, ym_ij, hH.1, hH.r8, hH.s8, e13, o1]
    exact ⟨hi, fun _ => hQ2 hbad _ hO1 hq1 hf1⟩
  · have hts : (xn_sc dr 0 ++ [(36, (0 : Int32))]).length ≤ 81 := hZ.1.2.1.1
    have hlen := ys_stm_len (T := T) (xe_EN (xn_sc dr 0)) hts
    have hZ1 := hZ.fr hf1' (fun b x => by unfold yre at x; omega)
    have e24 : am_i (am_wi σ (m + 9) i 0) m 24 = am_i σ m 24 := by rw [ym_io (by omega)]
    have eb : (ys_stm (xn_sc dr 0 ++ [(36, 0)]) T).2.1 = false := by
      have := hZ.1.2.2.1.2.1
      rw [e13] at this
      exact yb_ne.mp this.symm
    have hFa : yFa dr (ys_stm (xn_sc dr 0 ++ [(36, 0)]) T) := ⟨eb, hall⟩
    have hlen := hlen eb
    generalize ys_stm (xn_sc dr 0 ++ [(36, 0)]) T = S at *
    obtain ⟨t1, t2, t3⟩ := hFa.T
    have hk : yk S.2.2.1 := (hFa.2 (fun _ => -1) rfl).2.2.1
    have hc : ∀ q, q ∈ S.2.2.1 → q.1 < 100 := fun q hq => by
      obtain ⟨j, hj⟩ := List.getElem?_of_mem hq
      exact (hZ1.1.2.2.1.2.2.1.2 j q hj).2.2
    have hins : am_i (am_wi σ (m + 9) i 0) m 24 = yw_c (xt_w 0) ↔ decide (xp_hd (xn_sc dr 0) 0 = 0) = true := by
      rw [e24, h24 0 (by decide), decide_eq_true_iff]
    simp (disch := omega) only [ax_const, ax_iload, ax_lload, ax_aload, ax_istore, ax_astore, ax_iinc, ax_i2, ax_i2n, ax_l2, ax_lsh, ax_ii, ax_il, ax_li, ax_pop, ax_dup, ax_dup2, ax_if, ax_cmp, ax_acmp, ax_goto, ax_getI, ax_getR, ax_putI, ax_putR, ax_gets, ax_getsT, ax_aldI, ax_aldR, ax_astI, ax_astR, ax_alen, ax_ret, ax_aret, ax_vret, am_st, am_kl, List.getElem?_cons_zero, List.getElem?_cons_succ, List.set_cons_zero, List.set_cons_succ, Value.category, true_and, and_true, if_true, if_false, reduceCtorEq, Bool.false_eq_true, false_implies, forall_const, Option.some.injEq, exists_eq_left', exists_eq_left, Sum.inl.injEq, Sum.inr.injEq, Prod.mk.injEq, nI_toInt, nI_clamp, am_ix_nI, am_ix_0, am_ix_1, am_ix_2, am_ix_3, am_n0, am_n1, am_n2, am_n3, am_n4, am_t0, am_t1, am_t2, am_t3, am_t4, am_tm1, am_nS, am_nP, am_nM, Int.ofNat_lt, Int.ofNat_le, am_sh_wi, am_r_wi, am_tp_wi, am_us_wi, ym_is, ym_io, ym_ij, hH.1, hH.r8, hH.s8, e13]
    refine ⟨hi, ?_, fun z => absurd trivial z⟩
    have tp1 := hf1.tp
    have us1 := hf1.us
    generalize am_wi σ (m + 9) i 0 = σ1 at *
    have hH1 := hO1.1
    refine am_callK [.ref m] [] (d' := 1) (lim' := (am_tp σ1, am_us σ1)) rfl (by omega) (Nat.le_of_eq tp1) (Nat.le_of_eq us1) rfl (Nat.le_of_ble_eq_true rfl) (am_recv hH1.1) ?_
    refine c_yknown hH1 hlen hZ1.1.2.2.1.2.2.1 hk hZ1.2 (by omega) t1 (fun z => by omega) hins (fun hw σ2 f2 _ _ => ?_) (fun hw σ2 hI2 f2 _ _ => ?_)
    · have f2' : yrF m σ σ2 := ym_f.tr hf1 (f2.mono (fun b x => Or.inr x))
      have hO2 := hO1.sc (f2.mono (fun b x => by unfold ym_sc; omega))
      simp (disch := omega) only [ax_const, ax_iload, ax_lload, ax_aload, ax_istore, ax_astore, ax_iinc, ax_i2, ax_i2n, ax_l2, ax_lsh, ax_ii, ax_il, ax_li, ax_pop, ax_dup, ax_dup2, ax_if, ax_cmp, ax_acmp, ax_goto, ax_getI, ax_getR, ax_putI, ax_putR, ax_gets, ax_getsT, ax_aldI, ax_aldR, ax_astI, ax_astR, ax_alen, ax_ret, ax_aret, ax_vret, am_st, am_kl, List.getElem?_cons_zero, List.getElem?_cons_succ, List.set_cons_zero, List.set_cons_succ, Value.category, true_and, and_true, if_true, if_false, reduceCtorEq, Bool.false_eq_true, false_implies, forall_const, Option.some.injEq, exists_eq_left', exists_eq_left, Sum.inl.injEq, Sum.inr.injEq, Prod.mk.injEq, Option.toList_some, Option.toList_none, List.cons_append, List.nil_append, List.append_nil]
      exact ⟨⟨f2'.tp, f2'.us, hQ3 S hFa hw σ2 hO2 (hq1.fr (f2.i (by omega)) (f2.i (by omega))) f2'⟩, fun z => absurd trivial z⟩
    · have f2' : yrF m σ σ2 := ym_f.tr hf1 (f2.mono (fun b x => Or.inr x))
      have hO2 := hO1.sc (f2.mono (fun b x => by unfold ym_sc; omega))
      have hq2 := hq1.fr (f2.i (a := m) (by omega)) (f2.i (a := m + 14) (by omega))
      have hH2 := hO2.1
      have hR2 : yR σ2 m S.2.2.2 := hZ1.2.fr (f2.i (by omega)) (f2.i (by omega)) (f2.i (by omega)) (f2.i (by omega)) (f2.i (by omega))
      have hKn : yKn σ2 m S := ⟨hR2, hI2, hlen, hk, hc⟩
      have h242 : ∀ s, s < 4 → (am_i σ2 m 24 = yw_c (xt_w s) ↔ xp_hd (xn_sc dr 0) 0 = s) := fun s hs => by
        rw [f2.i (a := m) (by omega), e24]; exact h24 s hs
      simp (disch := omega) only [ax_const, ax_iload, ax_lload, ax_aload, ax_istore, ax_astore, ax_iinc, ax_i2, ax_i2n, ax_l2, ax_lsh, ax_ii, ax_il, ax_li, ax_pop, ax_dup, ax_dup2, ax_if, ax_cmp, ax_acmp, ax_goto, ax_getI, ax_getR, ax_putI, ax_putR, ax_gets, ax_getsT, ax_aldI, ax_aldR, ax_astI, ax_astR, ax_alen, ax_ret, ax_aret, ax_vret, am_st, am_kl, List.getElem?_cons_zero, List.getElem?_cons_succ, List.set_cons_zero, List.set_cons_succ, Value.category, true_and, and_true, if_true, if_false, reduceCtorEq, Bool.false_eq_true, false_implies, forall_const, Option.some.injEq, exists_eq_left', exists_eq_left, Sum.inl.injEq, Sum.inr.injEq, Prod.mk.injEq, Option.toList_some, Option.toList_none, List.cons_append, List.nil_append, List.append_nil, o1]
      intro _
      refine am_callK [.ref m] [] (d' := 1) (lim' := (am_tp σ2, am_us σ2)) rfl (by omega) (Nat.le_of_eq f2'.tp) (Nat.le_of_eq f2'.us) rfl (Nat.le_of_ble_eq_true rfl) (am_recv hH2.1) ?_
      refine c_yisSel hH2 (fun e _ _ => ?_) (fun e _ _ => ?_)
      · have e3 := (h242 3 (by decide)).mp e
        simp (disch := omega) only [ax_const, ax_iload, ax_lload, ax_aload, ax_istore, ax_astore, ax_iinc, ax_i2, ax_i2n, ax_l2, ax_lsh, ax_ii, ax_il, ax_li, ax_pop, ax_dup, ax_dup2, ax_if, ax_cmp, ax_acmp, ax_goto, ax_getI, ax_getR, ax_putI, ax_putR, ax_gets, ax_getsT, ax_aldI, ax_aldR, ax_astI, ax_astR, ax_alen, ax_ret, ax_aret, ax_vret, am_st, am_kl, List.getElem?_cons_zero, List.getElem?_cons_succ, List.set_cons_zero, List.set_cons_succ, Value.category, true_and, and_true, if_true, if_false, reduceCtorEq, Bool.false_eq_true, false_implies, forall_const, Option.some.injEq, exists_eq_left', exists_eq_left, Sum.inl.injEq, Sum.inr.injEq, Prod.mk.injEq, Option.toList_some, Option.toList_none, List.cons_append, List.nil_append, List.append_nil, o1]
        refine fun _ => am_callK [.ref m, .int (nI i)] [] (d' := ds) (lim' := (am_tp σ2, am_us σ2)) rfl hds (Nat.le_of_eq f2'.tp) (Nat.le_of_eq f2'.us) rfl (Nat.le_of_ble_eq_true rfl) (am_recv hH2.1) ((hSel S hFa hw e3 σ2 hO2 hq2 hKn f2').mono ?_)
        rintro o σ3 ⟨x, rfl, hx⟩ a b
        simp only [ax_const, ax_iload, ax_lload, ax_aload, ax_istore, ax_astore, ax_iinc, ax_i2, ax_i2n, ax_l2, ax_lsh, ax_ii, ax_il, ax_li, ax_pop, ax_dup, ax_dup2, ax_if, ax_cmp, ax_acmp, ax_goto, ax_getI, ax_getR, ax_putI, ax_putR, ax_gets, ax_getsT, ax_aldI, ax_aldR, ax_astI, ax_astR, ax_alen, ax_ret, ax_aret, ax_vret, am_st, am_kl, List.getElem?_cons_zero, List.getElem?_cons_succ, List.set_cons_zero, List.set_cons_succ, Value.category, true_and, and_true, if_true, if_false, reduceCtorEq, Bool.false_eq_true, false_implies, forall_const, Option.some.injEq, exists_eq_left', exists_eq_left, Sum.inl.injEq, Sum.inr.injEq, Prod.mk.injEq, Option.toList_some, Option.toList_none, List.cons_append, List.nil_append, List.append_nil]
        exact ⟨a.trans f2'.tp, b.trans f2'.us, hx⟩
      · have e3 : xp_hd (xn_sc dr 0) 0 ≠ 3 := fun z => e ((h242 3 (by decide)).mpr z)
        obtain ⟨b1, b2⟩ := hO2.2.1 i hi
        have b1 : am_i σ2 (m + 1) i = nI (D.1 i) := b1
        have b2 : D.1 i < 8 := b2
        obtain ⟨b3, b4, b5⟩ := hO2.2.2.2.1 (D.1 i) b2
        have b3 : ym_h (am_i σ2 (m + 6) (D.1 i)) (D.2.2.2.1 (D.1 i)) := b3
        simp (disch := omega) only [ax_const, ax_iload, ax_lload, ax_aload, ax_istore, ax_astore, ax_iinc, ax_i2, ax_i2n, ax_l2, ax_lsh, ax_ii, ax_il, ax_li, ax_pop, ax_dup, ax_dup2, ax_if, ax_cmp, ax_acmp, ax_goto, ax_getI, ax_getR, ax_putI, ax_putR, ax_gets, ax_getsT, ax_aldI, ax_aldR, ax_astI, ax_astR, ax_alen, ax_ret, ax_aret, ax_vret, am_st, am_kl, List.getElem?_cons_zero, List.getElem?_cons_succ, List.set_cons_zero, List.set_cons_succ, Value.category, true_and, and_true, if_true, if_false, reduceCtorEq, Bool.false_eq_true, false_implies, forall_const, Option.some.injEq, exists_eq_left', exists_eq_left, Sum.inl.injEq, Sum.inr.injEq, Prod.mk.injEq, Option.toList_some, Option.toList_none, List.cons_append, List.nil_append, List.append_nil, nI_toInt, nI_clamp, am_ix_nI, am_ix_0, am_ix_1, am_ix_2, am_ix_3, am_n0, am_n1, am_n2, am_n3, am_n4, am_t0, am_t1, am_t2, am_t3, am_t4, am_tm1, am_nS, am_nP, am_nM, Int.ofNat_lt, Int.ofNat_le, hH2.1, hH2.r0, hH2.s0, hH2.r5, hH2.s5, b1, b3.pos, b3.eq hi]
        refine ⟨⟨hi, b2, fun hne => ⟨b2, fun hown => hChg S hFa hw e3 (Or.inr hown) σ2 hO2 hq2 hKn h242 f2', fun hown => ⟨f2'.tp, f2'.us, hQ6 S hFa hw e3 hne hown σ2 hO2 hq2 f2'⟩⟩, fun hne => hChg S hFa hw e3 (Or.inl (Decidable.not_not.mp hne)) σ2 hO2 hq2 hKn h242 f2'⟩, fun z => absurd trivial z⟩
