/-! select: what is found, the outer loop -/
theorem ysf_56 {g : am_G} {l : Launch} {m d s : Nat} {T : Nat → Nat} {o : yp_O} {V1 V2 : List xr_E} {Wh : xr_E → xr_E → Bool} {v2 : Int32} {G : Option (List (Nat × Nat))} {σ0 : am_S} {Q : Option Value → am_S → Prop} (hd : 3 ≤ d) (hW : yWh T o Wh)
    (hQ7 : G = none → ∀ σ', yS3 σ' m T o V1 V2 → ysG m σ0 σ' → Q (some (.int (-7))) σ')
    (hK : ∀ FL, G = some FL → ∀ σ' i z4 z5, yS3 σ' m T o V1 V2 → yFd σ' m FL → ysG m σ0 σ' → ax_call g l d (am_tp σ0, am_us σ0) mX10_gather (some 10) 1 (ax_const (.int 0) (ax_istore 3 (am_W g l mX10_select d (am_tp σ0, am_us σ0) Q 209))) [some (.ref m), some (.int (nI s)), some (.int v2), some (.int (nI i)), z4, z5] [.ref m] σ') :
    ∀ (n i : Nat) (acc : List (Nat × Nat)) (σ : am_S) (z4 z5 : Option Value), n + i = V1.length → xl_out (xl_fd Wh (decide (T 0 = 2)) (decide (T 20 = 1)) V1 V2) (xl_n2 (decide (T 0 = 2)) V2) n i acc = G → yS3 σ m T o V1 V2 → yFd σ m acc → ysG m σ0 σ →
      am_W g l mX10_select d (am_tp σ0, am_us σ0) Q 56 [some (.ref m), some (.int (nI s)), some (.int v2), some (.int (nI i)), z4, z5] [] σ := by
  intro n
  induction n with
  | zero =>
    intro i acc σ z4 z5 hn hG h hF hf
    have hH := h.1
    obtain ⟨n1, n2, n3⟩ := h.2.2.2.1
    have hG : some acc = G := hG
    refine kX10_select_56 ?_
    simp (disch := omega) only [ax_const, ax_iload, ax_lload, ax_aload, ax_istore, ax_astore, ax_iinc, ax_i2, ax_i2n, ax_l2, ax_lsh, ax_ii, ax_il, ax_li, ax_pop, ax_dup, ax_dup2, ax_if, ax_cmp, ax_acmp, ax_goto, ax_getI, ax_getR, ax_putI, ax_putR, ax_gets, ax_getsT, ax_aldI, ax_aldR, ax_astI, ax_astR, ax_alen, ax_ret, ax_aret, ax_vret, am_st, am_kl, List.getElem?_cons_zero, List.getElem?_cons_succ, List.set_cons_zero, List.set_cons_succ, Value.category, true_and, and_true, if_true, if_false, reduceCtorEq, Bool.false_eq_true, false_implies, forall_const, Option.some.injEq, exists_eq_left', exists_eq_left, Sum.inl.injEq, Sum.inr.injEq, Prod.mk.injEq, nI_toInt, nI_clamp, am_ix_nI, am_ix_0, am_ix_1, am_ix_2, am_ix_3, am_n0, am_n1, am_n2, am_n3, am_n4, am_t0, am_t1, am_t2, am_t3, am_t4, am_tm1, am_nS, am_nP, am_nM, Int.ofNat_lt, Int.ofNat_le, hH.1, hH.r41, hH.s41, n1]
    exact ⟨by decide, fun z => by omega, fun _ => hK acc hG.symm σ i z4 z5 h hF hf⟩
  | succ n ih =>
    intro i acc σ z4 z5 hn hG h hF hf
    have hH := h.1
    obtain ⟨n1, n2, n3⟩ := h.2.2.2.1
    rw [xl_out] at hG
    have main : am_W g l mX10_select d (am_tp σ0, am_us σ0) Q 69 [some (.ref m), some (.int (nI s)), some (.int v2), some (.int (nI i)), some (.int (nI 0)), z5] [] σ := by
      refine ysf_69 (G := xl_in (xl_fd Wh (decide (T 0 = 2)) (decide (T 20 = 1)) V1 V2) i (xl_n2 (decide (T 0 = 2)) V2) 0 acc) hd (by omega) hW (fun hn7 σ' a b => ?_) (fun FL hs σ' y4 y5 a b c => ?_) (xl_n2 (decide (T 0 = 2)) V2) 0 acc σ z5 rfl rfl h hF hf
      · rw [hn7] at hG
        exact hQ7 hG.symm σ' a b
      · rw [hs] at hG
        exact ih (i + 1) FL σ' y4 y5 (by omega) hG a b c
    refine kX10_select_56 ?_
    simp (disch := omega) only [ax_const, ax_iload, ax_lload, ax_aload, ax_istore, ax_astore, ax_iinc, ax_i2, ax_i2n, ax_l2, ax_lsh, ax_ii, ax_il, ax_li, ax_pop, ax_dup, ax_dup2, ax_if, ax_cmp, ax_acmp, ax_goto, ax_getI, ax_getR, ax_putI, ax_putR, ax_gets, ax_getsT, ax_aldI, ax_aldR, ax_astI, ax_astR, ax_alen, ax_ret, ax_aret, ax_vret, am_st, am_kl, List.getElem?_cons_zero, List.getElem?_cons_succ, List.set_cons_zero, List.set_cons_succ, Value.category, true_and, and_true, if_true, if_false, reduceCtorEq, Bool.false_eq_true, false_implies, forall_const, Option.some.injEq, exists_eq_left', exists_eq_left, Sum.inl.injEq, Sum.inr.injEq, Prod.mk.injEq, nI_toInt, nI_clamp, am_ix_nI, am_ix_0, am_ix_1, am_ix_2, am_ix_3, am_n0, am_n1, am_n2, am_n3, am_n4, am_t0, am_t1, am_t2, am_t3, am_t4, am_tm1, am_nS, am_nP, am_nM, Int.ofNat_lt, Int.ofNat_le, hH.1, hH.r41, hH.s41, n1]
    exact ⟨by decide, fun _ => main, fun z => by omega⟩
