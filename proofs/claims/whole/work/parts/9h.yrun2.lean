/-! run: a change -/
def yOp (D : xx_D) (i : Nat) : xx_D := xx_ds D (D.1 i) (D.2.1 (D.1 i)) (D.2.1 (D.1 i)) (nI i) (D.2.2.2.2.1 (D.1 i))
def yU' (D : xx_D) (lab t : Nat) (L' : List xr_E) : Nat → List xr_E := fun j => if j = t then L' else D.2.1 lab j
/-- a change without a transaction -/
def yFre (D : xx_D) (lab t : Nat) (Bz : Int32) (L' : List xr_E) : Int32 × xx_D :=
  if Bz.toInt < 0 then (Bz, D) else if 30 < D.2.2.2.2.1 lab + xo_due (D.2.1 lab) (yU' D lab t L') then (-5, D) else (Bz, xx_ds D lab (yU' D lab t L') (yU' D lab t L') (-1) (D.2.2.2.2.1 lab + xo_due (D.2.1 lab) (yU' D lab t L')))
theorem yOp_h (D : xx_D) (i : Nat) : (yOp D i).2.2.2.1 (D.1 i) = nI i ∧ (yOp D i).2.2.1 (D.1 i) = D.2.1 (D.1 i) ∧ (yOp D i).2.1 (D.1 i) = D.2.1 (D.1 i) ∧ (yOp D i).2.2.2.2.1 (D.1 i) = D.2.2.2.2.1 (D.1 i) := ⟨if_pos rfl, if_pos rfl, if_pos rfl, if_pos rfl⟩
theorem yD'_h (D : xx_D) (lab t : Nat) (L' : List xr_E) : (yD' D lab t L').2.2.2.1 lab = D.2.2.2.1 lab ∧ (yD' D lab t L').2.2.1 lab = (fun j => if j = t then L' else D.2.2.1 lab j) ∧ (yD' D lab t L').2.1 lab = D.2.1 lab ∧ (yD' D lab t L').2.2.2.2.1 lab = D.2.2.2.2.1 lab := ⟨if_pos rfl, if_pos rfl, if_pos rfl, if_pos rfl⟩
theorem xx_ds_ne {D : xx_D} {j n q : Nat} {C U : Nat → List xr_E} {h : Int32} (e : q ≠ j) : (xx_ds D j C U h n).2.1 q = D.2.1 q ∧ (xx_ds D j C U h n).2.2.1 q = D.2.2.1 q ∧ (xx_ds D j C U h n).2.2.2.1 q = D.2.2.2.1 q ∧ (xx_ds D j C U h n).2.2.2.2.1 q = D.2.2.2.2.1 q := ⟨if_neg e, if_neg e, if_neg e, if_neg e⟩
theorem xx_ds_eq {D : xx_D} {j n : Nat} {C U : Nat → List xr_E} {h : Int32} : (xx_ds D j C U h n).2.1 j = C ∧ (xx_ds D j C U h n).2.2.1 j = U ∧ (xx_ds D j C U h n).2.2.2.1 j = h ∧ (xx_ds D j C U h n).2.2.2.2.1 j = n := ⟨if_pos rfl, if_pos rfl, if_pos rfl, if_pos rfl⟩
def yFR (m : Nat) (σ σ' : am_S) : Prop := ym_f (fun b => m + 1 ≤ b ∧ b ≤ m + 31 ∧ b ≠ m + 14) σ σ'
theorem yFR.q {m : Nat} {σ σ' : am_S} (h : yFR m σ σ') (hq : ym_q σ m) : ym_q σ' m := hq.fr (h.i (by omega)) (h.i (by omega))
theorem yru_100 {g : am_G} {l : Launch} {σ : am_S} {m i t d : Nat} {D : xx_D} {z3 z4 : Option Value} {R : xx_D → Int32 → List xr_E → Prop} {Q : Option Value → am_S → Prop} (hd : 6 ≤ d) (hO : ym_O σ m D) (hi : i < 4) (ht : am_i σ (m + 16) 0 = nI t) (hh : D.2.2.2.1 (D.1 i) = -1 ∨ D.2.2.2.1 (D.1 i) = nI i)
    (hCh : ∀ D1 σ1, D1 = D ∨ D1 = yOp D i → D1.2.2.2.1 (D1.1 i) ≠ -1 → ym_O σ1 m D1 → ym_f (fun b => m + 2 ≤ b ∧ b ≤ m + 7) σ σ1 → am_C g l mX10_changed 5 (am_tp σ1, am_us σ1) [.ref m, .int (nI i), .int (nI (D1.1 i)), .int (nI t)] σ1 (fun v σ2 => ∃ Bz L', v = some (.int Bz) ∧ R D1 Bz L' ∧ ym_O σ2 m (yD' D1 (D1.1 i) t L') ∧ ygF m σ1 σ2))
    (hOwn : D.2.2.2.1 (D.1 i) = nI i → ∀ Bz L', R D Bz L' → ∀ σ', ym_O σ' m (yD' D (D.1 i) t L') → yFR m σ σ' → Q (some (.int Bz)) σ')
    (hFre : D.2.2.2.1 (D.1 i) = -1 → ∀ Bz L', R (yOp D i) Bz L' → ∀ σ', ym_O σ' m (yFre D (D.1 i) t Bz L').2 → yFR m σ σ' → Q (some (.int (yFre D (D.1 i) t Bz L').1)) σ') :
    am_W g l mX10_run d (am_tp σ, am_us σ) Q 100 [some (.ref m), some (.int (nI i)), some (.int (nI (D.1 i))), z3, z4] [] σ := by
  have hH := hO.1
  have o1 : ¬ (1 : Int32) = 0 := by decide
  obtain ⟨b1, b2⟩ := hO.2.1 i hi
  obtain ⟨b3, b4, b5⟩ := hO.2.2.2.1 (D.1 i) b2
  have hz : am_i σ (m + 6) (D.1 i) = 0 ↔ D.2.2.2.1 (D.1 i) = -1 := by
    rcases b3 with ⟨a, b⟩ | ⟨j, a, b, c⟩
    · rw [a, b]; exact ⟨fun _ => rfl, fun _ => rfl⟩
    · rw [b, c]
      refine ⟨fun q => ?_, fun q => absurd q (nI_m1 (by omega))⟩
      have q : nI (j + 1) = nI 0 := q
      have := (nI_inj (by omega) (by omega)).mp q
      omega
  refine kX10_run_100 ?_
  simp (disch := omega) only [ax_const, ax_iload, ax_lload, ax_aload, ax_istore, ax_astore, ax_iinc, ax_i2, ax_i2n, ax_l2, ax_lsh, ax_ii, ax_il, ax_li, ax_pop, ax_dup, ax_dup2, ax_if, ax_cmp, ax_acmp, ax_goto, ax_getI, ax_getR, ax_putI, ax_putR, ax_gets, ax_getsT, ax_aldI, ax_aldR, ax_astI, ax_astR, ax_alen, ax_ret, ax_aret, ax_vret, am_st, am_kl, List.getElem?_cons_zero, List.getElem?_cons_succ, List.set_cons_zero, List.set_cons_succ, Value.category, true_and, and_true, if_true, if_false, reduceCtorEq, Bool.false_eq_true, false_implies, forall_const, Option.some.injEq, exists_eq_left', exists_eq_left, Sum.inl.injEq, Sum.inr.injEq, Prod.mk.injEq, nI_toInt, nI_clamp, am_ix_nI, am_ix_0, am_ix_1, am_ix_2, am_ix_3, am_n0, am_n1, am_n2, am_n3, am_n4, am_t0, am_t1, am_t2, am_t3, am_t4, am_tm1, am_nS, am_nP, am_nM, Int.ofNat_lt, Int.ofNat_le, hH.1, hH.r5, hH.s5, hz]
  refine ⟨b2, fun hfree => ?_, fun hown => ?_⟩
  · -- without a transaction
    refine kX10_run_114 ?_
    simp (disch := omega) only [ax_const, ax_iload, ax_lload, ax_aload, ax_istore, ax_astore, ax_iinc, ax_i2, ax_i2n, ax_l2, ax_lsh, ax_ii, ax_il, ax_li, ax_pop, ax_dup, ax_dup2, ax_if, ax_cmp, ax_acmp, ax_goto, ax_getI, ax_getR, ax_putI, ax_putR, ax_gets, ax_getsT, ax_aldI, ax_aldR, ax_astI, ax_astR, ax_alen, ax_ret, ax_aret, ax_vret, am_st, am_kl, List.getElem?_cons_zero, List.getElem?_cons_succ, List.set_cons_zero, List.set_cons_succ, Value.category, true_and, and_true, if_true, if_false, reduceCtorEq, Bool.false_eq_true, false_implies, forall_const, Option.some.injEq, exists_eq_left', exists_eq_left, Sum.inl.injEq, Sum.inr.injEq, Prod.mk.injEq, o1]
    intro _
    refine am_callK [.ref m, .int (nI i)] [] (d' := 2) (lim' := (am_tp σ, am_us σ)) rfl (by omega) (Nat.le_refl _) (Nat.le_refl _) rfl (Nat.le_of_ble_eq_true rfl) (am_recv hH.1) ?_
    refine c_yopen hO hi (fun σ1 hO1 f1 _ _ => ?_)
    have hO1 : ym_O σ1 m (yOp D i) := hO1
    have hH1 := hO1.1
    have hh1 := (yOp_h D i).1
    have t16 : am_i σ1 (m + 16) 0 = nI t := by rw [f1.i (a := m + 16) (by omega)]; exact ht
    simp (disch := omega) only [ax_const, ax_iload, ax_lload, ax_aload, ax_istore, ax_astore, ax_iinc, ax_i2, ax_i2n, ax_l2, ax_lsh, ax_ii, ax_il, ax_li, ax_pop, ax_dup, ax_dup2, ax_if, ax_cmp, ax_acmp, ax_goto, ax_getI, ax_getR, ax_putI, ax_putR, ax_gets, ax_getsT, ax_aldI, ax_aldR, ax_astI, ax_astR, ax_alen, ax_ret, ax_aret, ax_vret, am_st, am_kl, List.getElem?_cons_zero, List.getElem?_cons_succ, List.set_cons_zero, List.set_cons_succ, Value.category, true_and, and_true, if_true, if_false, reduceCtorEq, Bool.false_eq_true, false_implies, forall_const, Option.some.injEq, exists_eq_left', exists_eq_left, Sum.inl.injEq, Sum.inr.injEq, Prod.mk.injEq, Option.toList_some, Option.toList_none, List.cons_append, List.nil_append, List.append_nil]
    refine kX10_run_124 ?_
    simp (disch := omega) only [ax_const, ax_iload, ax_lload, ax_aload, ax_istore, ax_astore, ax_iinc, ax_i2, ax_i2n, ax_l2, ax_lsh, ax_ii, ax_il, ax_li, ax_pop, ax_dup, ax_dup2, ax_if, ax_cmp, ax_acmp, ax_goto, ax_getI, ax_getR, ax_putI, ax_putR, ax_gets, ax_getsT, ax_aldI, ax_aldR, ax_astI, ax_astR, ax_alen, ax_ret, ax_aret, ax_vret, am_st, am_kl, List.getElem?_cons_zero, List.getElem?_cons_succ, List.set_cons_zero, List.set_cons_succ, Value.category, true_and, and_true, if_true, if_false, reduceCtorEq, Bool.false_eq_true, false_implies, forall_const, Option.some.injEq, exists_eq_left', exists_eq_left, Sum.inl.injEq, Sum.inr.injEq, Prod.mk.injEq, nI_toInt, nI_clamp, am_ix_nI, am_ix_0, am_ix_1, am_ix_2, am_ix_3, am_n0, am_n1, am_n2, am_n3, am_n4, am_t0, am_t1, am_t2, am_t3, am_t4, am_tm1, am_nS, am_nP, am_nM, Int.ofNat_lt, Int.ofNat_le, hH1.1, hH1.r28, hH1.s28, t16]
    refine ⟨by decide, ?_⟩
    refine am_callK [.ref m, .int (nI i), .int (nI (D.1 i)), .int (nI t)] [] (d' := 5) (lim' := (am_tp σ1, am_us σ1)) rfl (by omega) (Nat.le_of_eq f1.tp) (Nat.le_of_eq f1.us) rfl (Nat.le_of_ble_eq_true rfl) (am_recv hH1.1) ((hCh (yOp D i) σ1 (Or.inr rfl) (by rw [show (yOp D i).1 i = D.1 i from rfl, hh1]; exact nI_m1 (by omega)) hO1 f1).mono ?_)
    rintro v σ2 ⟨Bz, L', rfl, hR, hO2, f2⟩ _ _
    have hO2 : ym_O σ2 m (yD' (yOp D i) (D.1 i) t L') := hO2
    have hH2 := hO2.1
    have f12 : yFR m σ σ2 := ym_f.tr (f1.mono (fun b x => by omega)) (f2.mono (fun b x => by omega))
    have fin := hFre hfree Bz L' hR
    -- the transaction's end
    have l159 : ∀ (σ3 : am_S) (D3 : xx_D) (r : Int32), ym_O σ3 m D3 → yFR m σ σ3 → r = (yFre D (D.1 i) t Bz L').1 → (∀ σ', ym_O σ' m (xx_ds D3 (D.1 i) (D3.2.1 (D.1 i)) (D3.2.2.1 (D.1 i)) (-1) (D3.2.2.2.2.1 (D.1 i))) → ym_O σ' m (yFre D (D.1 i) t Bz L').2) → am_W g l mX10_run d (am_tp σ, am_us σ) Q 159 [some (.ref m), some (.int (nI i)), some (.int (nI (D.1 i))), some (.int 1), some (.int r)] [] σ3 := by
      intro σ3 D3 r hO3 f3 er hx
      have hH3 := hO3.1
      refine kX10_run_159 ?_
      simp (disch := omega) only [ax_const, ax_iload, ax_lload, ax_aload, ax_istore, ax_astore, ax_iinc, ax_i2, ax_i2n, ax_l2, ax_lsh, ax_ii, ax_il, ax_li, ax_pop, ax_dup, ax_dup2, ax_if, ax_cmp, ax_acmp, ax_goto, ax_getI, ax_getR, ax_putI, ax_putR, ax_gets, ax_getsT, ax_aldI, ax_aldR, ax_astI, ax_astR, ax_alen, ax_ret, ax_aret, ax_vret, am_st, am_kl, List.getElem?_cons_zero, List.getElem?_cons_succ, List.set_cons_zero, List.set_cons_succ, Value.category, true_and, and_true, if_true, if_false, reduceCtorEq, Bool.false_eq_true, false_implies, forall_const, Option.some.injEq, exists_eq_left', exists_eq_left, Sum.inl.injEq, Sum.inr.injEq, Prod.mk.injEq, nI_toInt, nI_clamp, am_ix_nI, am_ix_0, am_ix_1, am_ix_2, am_ix_3, am_n0, am_n1, am_n2, am_n3, am_n4, am_t0, am_t1, am_t2, am_t3, am_t4, am_tm1, am_nS, am_nP, am_nM, Int.ofNat_lt, Int.ofNat_le, am_sh_wi, am_r_wi, am_tp_wi, am_us_wi, ym_is, ym_io, ym_ij, hH3.1, hH3.r5, hH3.s5, o1]
      subst er
      exact fun _ => ⟨b2, f3.tp, f3.us, fin _ (hx _ (hO3.free b2)) (f3.wi (a := m + 6) (by omega))⟩
    obtain ⟨w1, w2, w3, w4⟩ := yD'_h (yOp D i) (D.1 i) t L'
    obtain ⟨v1, v2, v3, v4⟩ := yOp_h D i
    have eU : (yD' (yOp D i) (D.1 i) t L').2.2.1 (D.1 i) = yU' D (D.1 i) t L' := by rw [w2, v2]; rfl
    have eC : (yD' (yOp D i) (D.1 i) t L').2.1 (D.1 i) = D.2.1 (D.1 i) := by rw [w3, v3]
    have eN : (yD' (yOp D i) (D.1 i) t L').2.2.2.2.1 (D.1 i) = D.2.2.2.2.1 (D.1 i) := by rw [w4, v4]
    have eH : (yD' (yOp D i) (D.1 i) t L').2.2.2.1 (D.1 i) = nI i := by rw [w1, v1]
    -- nothing is kept
    have back : ∀ σ', ym_O σ' m (xx_ds (yD' (yOp D i) (D.1 i) t L') (D.1 i) ((yD' (yOp D i) (D.1 i) t L').2.1 (D.1 i)) ((yD' (yOp D i) (D.1 i) t L').2.2.1 (D.1 i)) (-1) ((yD' (yOp D i) (D.1 i) t L').2.2.2.2.1 (D.1 i))) → ym_O σ' m D := by
      intro σ' h'
      refine h'.ext (fun q hq => ?_) (fun q hq => ⟨rfl, rfl, rfl, rfl, rfl⟩)
      by_cases e : q = D.1 i
      · subst e
        obtain ⟨x1, x2, x3, x4⟩ := xx_ds_eq (D := yD' (yOp D i) (D.1 i) t L') (j := D.1 i) (C := (yD' (yOp D i) (D.1 i) t L').2.1 (D.1 i)) (U := (yD' (yOp D i) (D.1 i) t L').2.2.1 (D.1 i)) (h := -1) (n := (yD' (yOp D i) (D.1 i) t L').2.2.2.2.1 (D.1 i))
        rw [x1, x3, x4, eC, eN]
        exact ⟨fun _ _ => ⟨rfl, fun z => absurd rfl z⟩, hfree, rfl⟩
      · obtain ⟨x1, x2, x3, x4⟩ := xx_ds_ne (D := yD' (yOp D i) (D.1 i) t L') (C := (yD' (yOp D i) (D.1 i) t L').2.1 (D.1 i)) (U := (yD' (yOp D i) (D.1 i) t L').2.2.1 (D.1 i)) (h := -1) (n := (yD' (yOp D i) (D.1 i) t L').2.2.2.2.1 (D.1 i)) e
        obtain ⟨u1, u2, u3, u4⟩ := xx_ds_ne (D := yOp D i) (C := (yOp D i).2.1 (D.1 i)) (U := fun j => if j = t then L' else (yOp D i).2.2.1 (D.1 i) j) (h := (yOp D i).2.2.2.1 (D.1 i)) (n := (yOp D i).2.2.2.2.1 (D.1 i)) e
        obtain ⟨s1, s2, s3, s4⟩ := xx_ds_ne (D := D) (C := D.2.1 (D.1 i)) (U := D.2.1 (D.1 i)) (h := nI i) (n := D.2.2.2.2.1 (D.1 i)) e
        rw [x1, x2, x3, x4]
        unfold yD'
        rw [u1, u2, u3, u4]
        unfold yOp
        rw [s1, s2, s3, s4]
        exact ⟨fun _ _ => ⟨rfl, fun _ => rfl⟩, rfl, rfl⟩
    unfold yFre at l159 fin
    simp (disch := omega) only [ax_const, ax_iload, ax_lload, ax_aload, ax_istore, ax_astore, ax_iinc, ax_i2, ax_i2n, ax_l2, ax_lsh, ax_ii, ax_il, ax_li, ax_pop, ax_dup, ax_dup2, ax_if, ax_cmp, ax_acmp, ax_goto, ax_getI, ax_getR, ax_putI, ax_putR, ax_gets, ax_getsT, ax_aldI, ax_aldR, ax_astI, ax_astR, ax_alen, ax_ret, ax_aret, ax_vret, am_st, am_kl, List.getElem?_cons_zero, List.getElem?_cons_succ, List.set_cons_zero, List.set_cons_succ, Value.category, true_and, and_true, if_true, if_false, reduceCtorEq, Bool.false_eq_true, false_implies, forall_const, Option.some.injEq, exists_eq_left', exists_eq_left, Sum.inl.injEq, Sum.inr.injEq, Prod.mk.injEq, Option.toList_some, Option.toList_none, List.cons_append, List.nil_append, List.append_nil, o1]
    refine fun _ => ⟨fun hneg => ?_, fun hpos => ?_⟩
    · rw [if_pos hneg] at l159
      exact l159 σ2 _ Bz hO2 f12 rfl back
    · rw [if_neg hpos] at l159
      refine am_callK [.ref m, .int (nI i)] [] (d' := 2) (lim' := (am_tp σ2, am_us σ2)) rfl (by omega) (Nat.le_of_eq f12.tp) (Nat.le_of_eq f12.us) rfl (Nat.le_of_ble_eq_true rfl) (am_recv hH2.1) ?_
      have nin : ∀ j, nI i = nI j → j < 4 → j = i := fun j e hj => ((nI_inj (by omega) (by omega)).mp e).symm
      have hin : xx_in (nI i) := by unfold xx_in; rw [nI_toInt (by omega)]; omega
      refine c_ycommit hO2 (fun z => absurd hin z) (fun j hj ej z => ?_) (fun j hj ej z1 z2 _ _ => ?_) (fun j hj ej z1 z2 σ3 hO3 f3 _ _ => ?_)
      · have := nin j ej hj
        subst this
        exact absurd eH z
      · have := nin j ej hj
        subst this
        have z2 : 30 < (yD' (yOp D j) (D.1 j) t L').2.2.2.2.1 (D.1 j) + xo_due ((yD' (yOp D j) (D.1 j) t L').2.1 (D.1 j)) ((yD' (yOp D j) (D.1 j) t L').2.2.1 (D.1 j)) := z2
        rw [eN, eC, eU] at z2
        rw [if_pos z2] at l159
        have em : (Int32.toInt (-5) < 0) = True := eq_true (by decide)
        simp (disch := omega) only [ax_const, ax_iload, ax_lload, ax_aload, ax_istore, ax_astore, ax_iinc, ax_i2, ax_i2n, ax_l2, ax_lsh, ax_ii, ax_il, ax_li, ax_pop, ax_dup, ax_dup2, ax_if, ax_cmp, ax_acmp, ax_goto, ax_getI, ax_getR, ax_putI, ax_putR, ax_gets, ax_getsT, ax_aldI, ax_aldR, ax_astI, ax_astR, ax_alen, ax_ret, ax_aret, ax_vret, am_st, am_kl, List.getElem?_cons_zero, List.getElem?_cons_succ, List.set_cons_zero, List.set_cons_succ, Value.category, true_and, and_true, if_true, if_false, reduceCtorEq, Bool.false_eq_true, false_implies, forall_const, Option.some.injEq, exists_eq_left', exists_eq_left, Sum.inl.injEq, Sum.inr.injEq, Prod.mk.injEq, Option.toList_some, Option.toList_none, List.cons_append, List.nil_append, List.append_nil, em]
        first
          | exact fun _ => l159 σ2 _ (-5) hO2 f12 rfl back
          | exact ⟨l159 σ2 _ (-5) hO2 f12 rfl back, fun z => absurd trivial z⟩
          | exact ⟨fun _ => l159 σ2 _ (-5) hO2 f12 rfl back, fun z => absurd (by decide) z⟩
      · have := nin j ej hj
        subst this
        have z2 : (yD' (yOp D j) (D.1 j) t L').2.2.2.2.1 (D.1 j) + xo_due ((yD' (yOp D j) (D.1 j) t L').2.1 (D.1 j)) ((yD' (yOp D j) (D.1 j) t L').2.2.1 (D.1 j)) ≤ 30 := z2
        have hO3 : ym_O σ3 m (xx_ds (yD' (yOp D j) (D.1 j) t L') (D.1 j) ((yD' (yOp D j) (D.1 j) t L').2.2.1 (D.1 j)) ((yD' (yOp D j) (D.1 j) t L').2.2.1 (D.1 j)) (-1) ((yD' (yOp D j) (D.1 j) t L').2.2.2.2.1 (D.1 j) + xo_due ((yD' (yOp D j) (D.1 j) t L').2.1 (D.1 j)) ((yD' (yOp D j) (D.1 j) t L').2.2.1 (D.1 j)))) := hO3
        have z3 := z2
        rw [eN, eC, eU] at z2 hO3
        rw [if_neg (by omega)] at l159
        have f13 : yFR m σ σ3 := ym_f.tr f12 f3
        simp (disch := omega) only [ax_const, ax_iload, ax_lload, ax_aload, ax_istore, ax_astore, ax_iinc, ax_i2, ax_i2n, ax_l2, ax_lsh, ax_ii, ax_il, ax_li, ax_pop, ax_dup, ax_dup2, ax_if, ax_cmp, ax_acmp, ax_goto, ax_getI, ax_getR, ax_putI, ax_putR, ax_gets, ax_getsT, ax_aldI, ax_aldR, ax_astI, ax_astR, ax_alen, ax_ret, ax_aret, ax_vret, am_st, am_kl, List.getElem?_cons_zero, List.getElem?_cons_succ, List.set_cons_zero, List.set_cons_succ, Value.category, true_and, and_true, if_true, if_false, reduceCtorEq, Bool.false_eq_true, false_implies, forall_const, Option.some.injEq, exists_eq_left', exists_eq_left, Sum.inl.injEq, Sum.inr.injEq, Prod.mk.injEq, Option.toList_some, Option.toList_none, List.cons_append, List.nil_append, List.append_nil]
        refine ⟨fun z => ?_, fun _ => l159 σ3 _ Bz hO3 f13 rfl (fun σ' h' => ?_)⟩
        · exact ((yl_tn (Nat.lt_of_le_of_lt (Nat.le_trans (Nat.le_add_left _ _) z3) (by decide))).mp z).elim
        · refine h'.ext (fun q hq => ?_) (fun q hq => ⟨rfl, rfl, rfl, rfl, rfl⟩)
          by_cases e : q = D.1 j
          · subst e
            obtain ⟨x1, x2, x3, x4⟩ := xx_ds_eq (D := D) (j := D.1 j) (C := yU' D (D.1 j) t L') (U := yU' D (D.1 j) t L') (h := -1) (n := D.2.2.2.2.1 (D.1 j) + xo_due (D.2.1 (D.1 j)) (yU' D (D.1 j) t L'))
            rw [x1, x2, x3, x4]
            obtain ⟨p1, p2, p3, p4⟩ := xx_ds_eq (D := yD' (yOp D j) (D.1 j) t L') (j := D.1 j) (C := yU' D (D.1 j) t L') (U := yU' D (D.1 j) t L') (h := -1) (n := D.2.2.2.2.1 (D.1 j) + xo_due (D.2.1 (D.1 j)) (yU' D (D.1 j) t L'))
            rw [p1, p2, p4, xx_ds_eq.1, xx_ds_eq.2.1, xx_ds_eq.2.2.1, xx_ds_eq.2.2.2]
            exact ⟨fun _ _ => ⟨rfl, fun _ => rfl⟩, rfl, rfl⟩
          · obtain ⟨x1, x2, x3, x4⟩ := xx_ds_ne (D := D) (C := yU' D (D.1 j) t L') (U := yU' D (D.1 j) t L') (h := -1) (n := D.2.2.2.2.1 (D.1 j) + xo_due (D.2.1 (D.1 j)) (yU' D (D.1 j) t L')) e
            rw [x1, x2, x3, x4, (xx_ds_ne e).1, (xx_ds_ne e).2.1, (xx_ds_ne e).2.2.1, (xx_ds_ne e).2.2.2, (xx_ds_ne e).1, (xx_ds_ne e).2.1, (xx_ds_ne e).2.2.1, (xx_ds_ne e).2.2.2]
            unfold yD'
            rw [(xx_ds_ne e).1, (xx_ds_ne e).2.1, (xx_ds_ne e).2.2.1, (xx_ds_ne e).2.2.2]
            unfold yOp
            rw [(xx_ds_ne e).1, (xx_ds_ne e).2.1, (xx_ds_ne e).2.2.1, (xx_ds_ne e).2.2.2]
            exact ⟨fun _ _ => ⟨rfl, fun _ => rfl⟩, rfl, rfl⟩
  · have hown2 : D.2.2.2.1 (D.1 i) = nI i := hh.resolve_left hown
    refine kX10_run_114 ?_
    simp (disch := omega) only [ax_const, ax_iload, ax_lload, ax_aload, ax_istore, ax_astore, ax_iinc, ax_i2, ax_i2n, ax_l2, ax_lsh, ax_ii, ax_il, ax_li, ax_pop, ax_dup, ax_dup2, ax_if, ax_cmp, ax_acmp, ax_goto, ax_getI, ax_getR, ax_putI, ax_putR, ax_gets, ax_getsT, ax_aldI, ax_aldR, ax_astI, ax_astR, ax_alen, ax_ret, ax_aret, ax_vret, am_st, am_kl, List.getElem?_cons_zero, List.getElem?_cons_succ, List.set_cons_zero, List.set_cons_succ, Value.category, true_and, and_true, if_true, if_false, reduceCtorEq, Bool.false_eq_true, false_implies, forall_const, Option.some.injEq, exists_eq_left', exists_eq_left, Sum.inl.injEq, Sum.inr.injEq, Prod.mk.injEq]
    refine ⟨kX10_run_124 ?_, fun z => absurd trivial z⟩
    simp (disch := omega) only [ax_const, ax_iload, ax_lload, ax_aload, ax_istore, ax_astore, ax_iinc, ax_i2, ax_i2n, ax_l2, ax_lsh, ax_ii, ax_il, ax_li, ax_pop, ax_dup, ax_dup2, ax_if, ax_cmp, ax_acmp, ax_goto, ax_getI, ax_getR, ax_putI, ax_putR, ax_gets, ax_getsT, ax_aldI, ax_aldR, ax_astI, ax_astR, ax_alen, ax_ret, ax_aret, ax_vret, am_st, am_kl, List.getElem?_cons_zero, List.getElem?_cons_succ, List.set_cons_zero, List.set_cons_succ, Value.category, true_and, and_true, if_true, if_false, reduceCtorEq, Bool.false_eq_true, false_implies, forall_const, Option.some.injEq, exists_eq_left', exists_eq_left, Sum.inl.injEq, Sum.inr.injEq, Prod.mk.injEq, nI_toInt, nI_clamp, am_ix_nI, am_ix_0, am_ix_1, am_ix_2, am_ix_3, am_n0, am_n1, am_n2, am_n3, am_n4, am_t0, am_t1, am_t2, am_t3, am_t4, am_tm1, am_nS, am_nP, am_nM, Int.ofNat_lt, Int.ofNat_le, hH.1, hH.r28, hH.s28, ht]
    refine ⟨by decide, ?_⟩
    refine am_callK [.ref m, .int (nI i), .int (nI (D.1 i)), .int (nI t)] [] (d' := 5) (lim' := (am_tp σ, am_us σ)) rfl (by omega) (Nat.le_refl _) (Nat.le_refl _) rfl (Nat.le_of_ble_eq_true rfl) (am_recv hH.1) ((hCh D σ (Or.inl rfl) hown hO .rf).mono ?_)
    rintro v σ2 ⟨Bz, L', rfl, hR, hO2, f2⟩ t2 u2
    have f12 : yFR m σ σ2 := f2.mono (fun b x => by omega)
    simp (disch := omega) only [ax_const, ax_iload, ax_lload, ax_aload, ax_istore, ax_astore, ax_iinc, ax_i2, ax_i2n, ax_l2, ax_lsh, ax_ii, ax_il, ax_li, ax_pop, ax_dup, ax_dup2, ax_if, ax_cmp, ax_acmp, ax_goto, ax_getI, ax_getR, ax_putI, ax_putR, ax_gets, ax_getsT, ax_aldI, ax_aldR, ax_astI, ax_astR, ax_alen, ax_ret, ax_aret, ax_vret, am_st, am_kl, List.getElem?_cons_zero, List.getElem?_cons_succ, List.set_cons_zero, List.set_cons_succ, Value.category, true_and, and_true, if_true, if_false, reduceCtorEq, Bool.false_eq_true, false_implies, forall_const, Option.some.injEq, exists_eq_left', exists_eq_left, Sum.inl.injEq, Sum.inr.injEq, Prod.mk.injEq, Option.toList_some, Option.toList_none, List.cons_append, List.nil_append, List.append_nil]
    refine ⟨kX10_run_159 ?_, fun z => absurd trivial z⟩
    simp (disch := omega) only [ax_const, ax_iload, ax_lload, ax_aload, ax_istore, ax_astore, ax_iinc, ax_i2, ax_i2n, ax_l2, ax_lsh, ax_ii, ax_il, ax_li, ax_pop, ax_dup, ax_dup2, ax_if, ax_cmp, ax_acmp, ax_goto, ax_getI, ax_getR, ax_putI, ax_putR, ax_gets, ax_getsT, ax_aldI, ax_aldR, ax_astI, ax_astR, ax_alen, ax_ret, ax_aret, ax_vret, am_st, am_kl, List.getElem?_cons_zero, List.getElem?_cons_succ, List.set_cons_zero, List.set_cons_succ, Value.category, true_and, and_true, if_true, if_false, reduceCtorEq, Bool.false_eq_true, false_implies, forall_const, Option.some.injEq, exists_eq_left', exists_eq_left, Sum.inl.injEq, Sum.inr.injEq, Prod.mk.injEq]
    exact ⟨⟨t2, u2, hOwn hown2 Bz L' hR σ2 hO2 f12⟩, fun z => absurd trivial z⟩
