theorem xr_fold_mem : ∀ (T L : List xr_E) (e : xr_E), e ∈ T.foldl xr_add L → e ∈ L ∨ e ∈ T
  | [], L, e, h => Or.inl h
  | x :: T, L, e, h => by
    rcases xr_fold_mem T (xr_add L x) e h with h | h
    · obtain ⟨A, B, h1, h2, -⟩ := xr_add_split L x
      rw [h2] at h
      rcases List.mem_append.mp h with h | h
      · exact Or.inl (by rw [h1]; exact List.mem_append.mpr (Or.inl h))
      · rcases List.mem_cons.mp h with h | h
        · exact Or.inr (by rw [h]; exact List.mem_cons_self)
        · exact Or.inl (by rw [h1]; exact List.mem_append.mpr (Or.inr h))
    · exact Or.inr (List.mem_cons_of_mem _ h)
theorem xx_see_lb {D : xx_D} {lab t : Nat} (hB : xx_lb D) (ht : t < 2) : ∀ (n o : Nat) (L : List xr_E), n + o = 8 → yLb L → yLb (xx_see D lab t n o L)
  | 0, _, _, _, h => h
  | n + 1, o, L, hn, h => by
    rw [xx_see]
    refine xx_see_lb hB ht n (o + 1) _ (by omega) (fun e he => ?_)
    rcases xr_fold_mem _ _ _ he with q | q
    · exact h e q
    · exact ⟨o, by omega, xx_vl_lb hB (by omega) ht e q⟩
theorem xx_V_lb {D : xx_D} {lab t : Nat} (hB : xx_lb D) (ht : t < 2) : yLb (xx_V D lab t) := xx_see_lb hB ht 8 0 [] rfl (fun e he => by cases he)
theorem yKn.f {σ σ' : am_S} {m : Nat} {S : ys_S} (h : yKn σ m S) (hf : ym_f (fun b => b = m + 20 ∨ b = m + 21) σ σ') : yKn σ' m S := by
  obtain ⟨k1, k2, k3⟩ := h
  exact ⟨k1.fr (hf.i (by omega)) (hf.i (by omega)) (hf.i (by omega)) (hf.i (by omega)) (hf.i (by omega)), k2.f (by rw [hf.i (a := m) (by omega)]) (hf.i (by omega)) (hf.i (by omega)), k3⟩
theorem c_yselect {g : am_G} {l : Launch} {σ : am_S} {m i : Nat} {D : xx_D} {W : xp_W} {S : ys_S} {Q : Option Value → am_S → Prop} (hO : ym_O σ m D) (hB : xx_wf D) (hi : i < 4) (hq : ym_q σ m) (hKn : yKn σ m S) (hQ3 : yQ3 W S) (hn : ykn S.2.2.2 false S.2.2.1 = false)
    (hQ : ∀ a D' σ', ySel W D i a D' → ym_O σ' m D' → ym_q σ' m → ym_f (fun b => m ≤ b ∧ b ≤ m + 31) σ σ' → Q (some (.int a)) σ') :
    am_C g l mX10_select 3 (am_tp σ, am_us σ) [.ref m, .int (nI i)] σ Q := by
  have hH := hO.1
  obtain ⟨b1, b2⟩ := hO.2.1 i hi
  obtain ⟨c1, hT1, -⟩ := id hQ3
  have ht0 : am_i σ (m + 16) 0 = nI (S.2.2.2 1) := hKn.1.2.1 0 (by decide)
  have y0 : (0 : Int32) = nI 0 := rfl
  refine am_C.go [some (.ref m), some (.int (nI i)), none, none, none, none] (by decide +kernel) (Nat.le_of_ble_eq_true rfl) rfl (kX10_select_0 ?_)
  simp (disch := omega) only [ax_const, ax_iload, ax_lload, ax_aload, ax_istore, ax_astore, ax_iinc, ax_i2, ax_i2n, ax_l2, ax_lsh, ax_ii, ax_il, ax_li, ax_pop, ax_dup, ax_dup2, ax_if, ax_cmp, ax_acmp, ax_goto, ax_getI, ax_getR, ax_putI, ax_putR, ax_gets, ax_getsT, ax_aldI, ax_aldR, ax_astI, ax_astR, ax_alen, ax_ret, ax_aret, ax_vret, am_st, am_kl, List.getElem?_cons_zero, List.getElem?_cons_succ, List.set_cons_zero, List.set_cons_succ, Value.category, true_and, and_true, if_true, if_false, reduceCtorEq, Bool.false_eq_true, false_implies, forall_const, Option.some.injEq, exists_eq_left', exists_eq_left, Sum.inl.injEq, Sum.inr.injEq, Prod.mk.injEq, nI_toInt, nI_clamp, am_ix_nI, am_ix_0, am_ix_1, am_ix_2, am_ix_3, am_n0, am_n1, am_n2, am_n3, am_n4, am_t0, am_t1, am_t2, am_t3, am_t4, am_tm1, am_nS, am_nP, am_nM, Int.ofNat_lt, Int.ofNat_le, hH.1, hH.r0, hH.s0, hH.r28, hH.s28, b1, ht0]
  refine ⟨hi, by decide, ?_⟩
  refine am_callK [.ref m, .int (nI (D.1 i)), .int (nI (S.2.2.2 1)), .int (nI 0)] [] (d' := 1) (lim' := (am_tp σ, am_us σ)) rfl (by decide) (Nat.le_refl _) (Nat.le_refl _) rfl (Nat.le_of_ble_eq_true rfl) (am_recv hH.1) ?_
  refine c_ylook hO hB.1 (by decide) b2 hT1 (fun z => by rw [hB.2 _ b2 z]) (fun σ1 hN1 f1 g1 g2 t1 u1 => ?_)
  have hO1 : ym_O σ1 m D := hO.sc (f1.mono (fun b x => by unfold ym_sc; omega))
  have hK1 := hKn.f f1
  have hH1 := hO1.1
  have x25 : am_i σ1 m 25 = nI (S.2.2.2 0) := hK1.1.1
  have ht1 : am_i σ1 (m + 16) 1 = nI (S.2.2.2 2) := hK1.1.2.1 1 (by decide)
  have e1 : (am_tp σ, am_us σ) = (am_tp σ1, am_us σ1) := by rw [t1, u1]
  have hq1 : ym_q σ1 m := hq.fr (f1.i (by omega)) (f1.i (by omega))
  have F1 : ym_f (fun b => m ≤ b ∧ b ≤ m + 31) σ σ1 := f1.mono (fun b x => by omega)
  simp (disch := omega) only [ax_const, ax_iload, ax_lload, ax_aload, ax_istore, ax_astore, ax_iinc, ax_i2, ax_i2n, ax_l2, ax_lsh, ax_ii, ax_il, ax_li, ax_pop, ax_dup, ax_dup2, ax_if, ax_cmp, ax_acmp, ax_goto, ax_getI, ax_getR, ax_putI, ax_putR, ax_gets, ax_getsT, ax_aldI, ax_aldR, ax_astI, ax_astR, ax_alen, ax_ret, ax_aret, ax_vret, am_st, am_kl, List.getElem?_cons_zero, List.getElem?_cons_succ, List.set_cons_zero, List.set_cons_succ, Value.category, true_and, and_true, if_true, if_false, reduceCtorEq, Bool.false_eq_true, false_implies, forall_const, Option.some.injEq, exists_eq_left', exists_eq_left, Sum.inl.injEq, Sum.inr.injEq, Prod.mk.injEq, Option.toList_some, Option.toList_none, List.cons_append, List.nil_append, List.append_nil, nI_toInt, nI_clamp, am_ix_nI, am_ix_0, am_ix_1, am_ix_2, am_ix_3, am_n0, am_n1, am_n2, am_n3, am_n4, am_t0, am_t1, am_t2, am_t3, am_t4, am_tm1, am_nS, am_nP, am_nM, Int.ofNat_lt, Int.ofNat_le, hH1.1, hH1.r28, hH1.s28, x25, yl_2, yl_eq]
  refine ⟨fun c2 => ?_, fun c2 => ?_⟩
  · have hT2 : S.2.2.2 2 < 2 := by rcases c1 with ⟨x, _⟩ | ⟨x, _, y⟩ <;> omega
    simp (disch := omega) only [ax_const, ax_iload, ax_lload, ax_aload, ax_istore, ax_astore, ax_iinc, ax_i2, ax_i2n, ax_l2, ax_lsh, ax_ii, ax_il, ax_li, ax_pop, ax_dup, ax_dup2, ax_if, ax_cmp, ax_acmp, ax_goto, ax_getI, ax_getR, ax_putI, ax_putR, ax_gets, ax_getsT, ax_aldI, ax_aldR, ax_astI, ax_astR, ax_alen, ax_ret, ax_aret, ax_vret, am_st, am_kl, List.getElem?_cons_zero, List.getElem?_cons_succ, List.set_cons_zero, List.set_cons_succ, Value.category, true_and, and_true, if_true, if_false, reduceCtorEq, Bool.false_eq_true, false_implies, forall_const, Option.some.injEq, exists_eq_left', exists_eq_left, Sum.inl.injEq, Sum.inr.injEq, Prod.mk.injEq, Option.toList_some, Option.toList_none, List.cons_append, List.nil_append, List.append_nil, nI_toInt, nI_clamp, am_ix_nI, am_ix_0, am_ix_1, am_ix_2, am_ix_3, am_n0, am_n1, am_n2, am_n3, am_n4, am_t0, am_t1, am_t2, am_t3, am_t4, am_tm1, am_nS, am_nP, am_nM, Int.ofNat_lt, Int.ofNat_le, hH1.1, hH1.r28, hH1.s28, ht1]
    refine ⟨by decide, ?_⟩
    refine am_callK [.ref m, .int (nI (D.1 i)), .int (nI (S.2.2.2 2)), .int (nI 1)] [] (d' := 1) (lim' := (am_tp σ1, am_us σ1)) rfl (by decide) (Nat.le_of_eq t1) (Nat.le_of_eq u1) rfl (Nat.le_of_ble_eq_true rfl) (am_recv hH1.1) ?_
    refine c_ylook hO1 hB.1 (by decide) b2 hT2 (fun z => by rw [hB.2 _ b2 z]) (fun σ2 hN2 f2 g3 g4 t2 u2 => ?_)
    have hO2 : ym_O σ2 m D := hO1.sc (f2.mono (fun b x => by unfold ym_sc; omega))
    have hN12 : ym_N σ2 m 0 (xx_V D (D.1 i) (S.2.2.2 1)) := by
      obtain ⟨n1, n2, n3⟩ := hN1
      refine ⟨by rw [g4 0 (by decide)]; exact n1, n2, fun j e hj c hc => ?_⟩
      have hjl := (List.getElem?_eq_some_iff.mp hj).1
      rw [g3 _ (by omega)]
      exact n3 j e hj c hc
    have e2 : (am_tp σ, am_us σ) = (am_tp σ2, am_us σ2) := by rw [e1, t2, u2]
    simp (disch := omega) only [ax_const, ax_iload, ax_lload, ax_aload, ax_istore, ax_astore, ax_iinc, ax_i2, ax_i2n, ax_l2, ax_lsh, ax_ii, ax_il, ax_li, ax_pop, ax_dup, ax_dup2, ax_if, ax_cmp, ax_acmp, ax_goto, ax_getI, ax_getR, ax_putI, ax_putR, ax_gets, ax_getsT, ax_aldI, ax_aldR, ax_astI, ax_astR, ax_alen, ax_ret, ax_aret, ax_vret, am_st, am_kl, List.getElem?_cons_zero, List.getElem?_cons_succ, List.set_cons_zero, List.set_cons_succ, Value.category, true_and, and_true, if_true, if_false, reduceCtorEq, Bool.false_eq_true, false_implies, forall_const, Option.some.injEq, exists_eq_left', exists_eq_left, Sum.inl.injEq, Sum.inr.injEq, Prod.mk.injEq, Option.toList_some, Option.toList_none, List.cons_append, List.nil_append, List.append_nil]
    rw [e2]
    have eV : (if decide (S.2.2.2 0 = 2) = true then xx_V D (D.1 i) (if S.2.2.2 0 = 2 then S.2.2.2 2 else 0) else []) = xx_V D (D.1 i) (S.2.2.2 2) := by rw [decide_eq_true c2, if_pos rfl, if_pos c2]
    refine yse_49 (W := W) (V1 := xx_V D (D.1 i) (S.2.2.2 1)) (V2 := xx_V D (D.1 i) (S.2.2.2 2)) (Nat.le_refl _) hO2 hi (hq1.fr (f2.i (by omega)) (f2.i (by omega))) (hK1.f f2) hQ3 hn rfl eV.symm hN12 (fun _ => hN2) ?_ (xx_V_lb hB.1 hT1) (xx_V_lb hB.1 hT2) (fun a D' σ' p q r s => hQ a D' σ' p q r ((F1.tr (f2.mono (fun b x => by omega))).tr (s.1.mono (fun b x => by omega))))
    rw [decide_eq_true c2]
    exact hN2.1
  · simp (disch := omega) only [ax_const, ax_iload, ax_lload, ax_aload, ax_istore, ax_astore, ax_iinc, ax_i2, ax_i2n, ax_l2, ax_lsh, ax_ii, ax_il, ax_li, ax_pop, ax_dup, ax_dup2, ax_if, ax_cmp, ax_acmp, ax_goto, ax_getI, ax_getR, ax_putI, ax_putR, ax_gets, ax_getsT, ax_aldI, ax_aldR, ax_astI, ax_astR, ax_alen, ax_ret, ax_aret, ax_vret, am_st, am_kl, List.getElem?_cons_zero, List.getElem?_cons_succ, List.set_cons_zero, List.set_cons_succ, Value.category, true_and, and_true, if_true, if_false, reduceCtorEq, Bool.false_eq_true, false_implies, forall_const, Option.some.injEq, exists_eq_left', exists_eq_left, Sum.inl.injEq, Sum.inr.injEq, Prod.mk.injEq, Option.toList_some, Option.toList_none, List.cons_append, List.nil_append, List.append_nil, nI_toInt, nI_clamp, am_ix_nI, am_ix_0, am_ix_1, am_ix_2, am_ix_3, am_n0, am_n1, am_n2, am_n3, am_n4, am_t0, am_t1, am_t2, am_t3, am_t4, am_tm1, am_nS, am_nP, am_nM, Int.ofNat_lt, Int.ofNat_le, am_sh_wi, am_r_wi, am_tp_wi, am_us_wi, ym_is, ym_io, ym_ij, hH1.1, hH1.r41, hH1.s41]
    have hT0 : S.2.2.2 0 = 1 := by rcases c1 with ⟨x, _⟩ | ⟨x, _, y⟩ <;> omega
    have f2 : ym_f (fun b => b = m + 20 ∨ b = m + 21) σ1 (am_wi σ1 (m + 21) 1 1) := ym_f.rf.wi (a := m + 21) (by omega)
    have hO2 : ym_O (am_wi σ1 (m + 21) 1 1) m D := hO1.sc (f2.mono (fun b x => by unfold ym_sc; omega))
    have hN12 : ym_N (am_wi σ1 (m + 21) 1 1) m 0 (xx_V D (D.1 i) (S.2.2.2 1)) := by
      obtain ⟨n1, n2, n3⟩ := hN1
      refine ⟨by rw [ym_ij (by decide)]; exact n1, n2, fun j e hj c hc => ?_⟩
      rw [ym_io (by omega)]
      exact n3 j e hj c hc
    have e2 : (am_tp σ, am_us σ) = (am_tp (am_wi σ1 (m + 21) 1 1), am_us (am_wi σ1 (m + 21) 1 1)) := e1
    rw [e2]
    have eV : (if decide (S.2.2.2 0 = 2) = true then xx_V D (D.1 i) (if S.2.2.2 0 = 2 then S.2.2.2 2 else 0) else []) = ([] : List xr_E) := by rw [decide_eq_false c2, if_neg Bool.false_ne_true]
    refine ⟨by decide, yse_49 (W := W) (V1 := xx_V D (D.1 i) (S.2.2.2 1)) (V2 := []) (Nat.le_refl _) hO2 hi (hq1.fr (f2.i (by omega)) (f2.i (by omega))) (hK1.f f2) hQ3 hn rfl eV.symm hN12 (fun z => absurd z c2) ?_ (xx_V_lb hB.1 hT1) (fun e he => by cases he) (fun a D' σ' p q r s => hQ a D' σ' p q r ((F1.tr (f2.mono (fun b x => by omega))).tr (s.1.mono (fun b x => by omega))))⟩
    rw [decide_eq_false c2]
    exact ym_is
