/-! the reference: rows, cell -/
def xx_wf (D : xx_D) : Prop := xx_lb D ∧ ∀ lb, lb < 8 → D.2.2.2.1 lb = -1 → D.2.2.1 lb = D.2.1 lb
theorem ym_fr.look {m : Nat} {σ σ' : am_S} (h : ym_f (fun b => b = m + 20 ∨ b = m + 21) σ σ') : ym_f (ym_sq m) σ σ' := h.mono (fun b x => by unfold ym_sq; omega)
theorem c_yrows {g : am_G} {l : Launch} {σ : am_S} {m : Nat} {D : xx_D} {s t : Int32} {Q : Option Value → am_S → Prop} (h : ym_O σ m D) (hB : xx_wf D) (hQ0 : ¬ xx_in s ∨ ¬ xx_ti t → Q (some (.int (-1))) σ) (hQ1 : ∀ i j, i < 4 → s = nI i → j < 2 → t = nI j → ∀ σ', ym_O σ' m D → ym_fr m σ σ' → Q (some (.int (nI (xx_V D (D.1 i) j).length))) σ') : am_C g l mX10_rows 2 (am_tp σ, am_us σ) [.ref m, .int s, .int t] σ Q := by
  have H := h.1
  have o1 : ¬ (1 : Int32) = 0 := by decide
  refine am_C.go [some (.ref m), some (.int s), some (.int t)] (by decide +kernel) (Nat.le_of_ble_eq_true rfl) rfl (kX10_rows_0 ?_)
  simp (disch := omega) only [ax_const, ax_iload, ax_lload, ax_aload, ax_istore, ax_astore, ax_iinc, ax_i2, ax_i2n, ax_l2, ax_lsh, ax_ii, ax_il, ax_li, ax_pop, ax_dup, ax_dup2, ax_if, ax_cmp, ax_acmp, ax_goto, ax_getI, ax_getR, ax_putI, ax_putR, ax_gets, ax_getsT, ax_aldI, ax_aldR, ax_astI, ax_astR, ax_alen, ax_ret, ax_aret, ax_vret, am_st, am_kl, List.getElem?_cons_zero, List.getElem?_cons_succ, List.set_cons_zero, List.set_cons_succ, Value.category, true_and, and_true, if_true, if_false, reduceCtorEq, Bool.false_eq_true, false_implies, forall_const, Option.some.injEq, exists_eq_left', exists_eq_left, Sum.inl.injEq, Sum.inr.injEq, Prod.mk.injEq, nI_toInt, nI_clamp, am_ix_nI, am_ix_0, am_ix_1, am_ix_2, am_ix_3, am_n0, am_n1, am_n2, am_n3, am_n4, am_t0, am_t1, am_t2, am_t3, am_t4, am_tm1, am_nS, am_nP, am_nM, Int.ofNat_lt, Int.ofNat_le]
  refine am_callK [.int s] [] (d' := 0) (lim' := (am_tp σ, am_us σ)) rfl (by decide) (Nat.le_refl _) (Nat.le_refl _) rfl (Nat.le_of_ble_eq_true rfl) am_stat ?_
  refine c_yisSession (fun _ _ => ?_)
  by_cases q : 0 ≤ s.toInt ∧ s.toInt < 4
  · rw [if_pos q]
    obtain ⟨i, hi, rfl⟩ := xx_in.of q
    obtain ⟨b1, b2⟩ := h.2.1 i hi
    simp (disch := omega) only [ax_const, ax_iload, ax_lload, ax_aload, ax_istore, ax_astore, ax_iinc, ax_i2, ax_i2n, ax_l2, ax_lsh, ax_ii, ax_il, ax_li, ax_pop, ax_dup, ax_dup2, ax_if, ax_cmp, ax_acmp, ax_goto, ax_getI, ax_getR, ax_putI, ax_putR, ax_gets, ax_getsT, ax_aldI, ax_aldR, ax_astI, ax_astR, ax_alen, ax_ret, ax_aret, ax_vret, am_st, am_kl, List.getElem?_cons_zero, List.getElem?_cons_succ, List.set_cons_zero, List.set_cons_succ, Value.category, true_and, and_true, if_true, if_false, reduceCtorEq, Bool.false_eq_true, false_implies, forall_const, Option.some.injEq, exists_eq_left', exists_eq_left, Sum.inl.injEq, Sum.inr.injEq, Prod.mk.injEq, nI_toInt, nI_clamp, am_ix_nI, am_ix_0, am_ix_1, am_ix_2, am_ix_3, am_n0, am_n1, am_n2, am_n3, am_n4, am_t0, am_t1, am_t2, am_t3, am_t4, am_tm1, am_nS, am_nP, am_nM, Int.ofNat_lt, Int.ofNat_le, Option.toList_some, Option.toList_none, List.cons_append, List.nil_append, List.append_nil, o1, H.1, H.r0, H.s0, b1]
    refine fun _ => ⟨fun c => hQ0 (Or.inr (fun z => by have := z.1; omega)), fun c => ⟨fun c2 => hQ0 (Or.inr (fun z => by have := z.2; omega)), fun c2 => ⟨hi, ?_⟩⟩⟩
    obtain ⟨j, hj, rfl⟩ := xx_tin (t := t) ⟨by omega, by omega⟩
    refine am_callK [.ref m, .int (nI (D.1 i)), .int (nI j), .int (nI 0)] [] (d' := 1) (lim' := (am_tp σ, am_us σ)) rfl (by decide) (Nat.le_refl _) (Nat.le_refl _) rfl (Nat.le_of_ble_eq_true rfl) (am_recv H.1) ?_
    refine c_ylook h hB.1 (by decide) b2 hj (fun z => by rw [hB.2 _ b2 z]) (fun σ' hN hf ho h21 t1 u1 => ?_)
    have H' := H.f hf
    have n0 : am_i σ' (m + 21) 0 = nI (xx_V D (D.1 i) j).length := hN.1
    simp (disch := omega) only [ax_const, ax_iload, ax_lload, ax_aload, ax_istore, ax_astore, ax_iinc, ax_i2, ax_i2n, ax_l2, ax_lsh, ax_ii, ax_il, ax_li, ax_pop, ax_dup, ax_dup2, ax_if, ax_cmp, ax_acmp, ax_goto, ax_getI, ax_getR, ax_putI, ax_putR, ax_gets, ax_getsT, ax_aldI, ax_aldR, ax_astI, ax_astR, ax_alen, ax_ret, ax_aret, ax_vret, am_st, am_kl, List.getElem?_cons_zero, List.getElem?_cons_succ, List.set_cons_zero, List.set_cons_succ, Value.category, true_and, and_true, if_true, if_false, reduceCtorEq, Bool.false_eq_true, false_implies, forall_const, Option.some.injEq, exists_eq_left', exists_eq_left, Sum.inl.injEq, Sum.inr.injEq, Prod.mk.injEq, nI_toInt, nI_clamp, am_ix_nI, am_ix_0, am_ix_1, am_ix_2, am_ix_3, am_n0, am_n1, am_n2, am_n3, am_n4, am_t0, am_t1, am_t2, am_t3, am_t4, am_tm1, am_nS, am_nP, am_nM, Int.ofNat_lt, Int.ofNat_le, Option.toList_some, Option.toList_none, List.cons_append, List.nil_append, List.append_nil, H'.1, H'.r41, H'.s41, n0]
    exact ⟨by decide, t1, u1, hQ1 i j hi rfl hj rfl σ' (h.sc ((ym_fr.look hf).mono fun _ => ym_sq.sc)) (ym_fr.sc (ym_fr.look hf))⟩
  · rw [if_neg q]
    simp (disch := omega) only [ax_const, ax_iload, ax_lload, ax_aload, ax_istore, ax_astore, ax_iinc, ax_i2, ax_i2n, ax_l2, ax_lsh, ax_ii, ax_il, ax_li, ax_pop, ax_dup, ax_dup2, ax_if, ax_cmp, ax_acmp, ax_goto, ax_getI, ax_getR, ax_putI, ax_putR, ax_gets, ax_getsT, ax_aldI, ax_aldR, ax_astI, ax_astR, ax_alen, ax_ret, ax_aret, ax_vret, am_st, am_kl, List.getElem?_cons_zero, List.getElem?_cons_succ, List.set_cons_zero, List.set_cons_succ, Value.category, true_and, and_true, if_true, if_false, reduceCtorEq, Bool.false_eq_true, false_implies, forall_const, Option.some.injEq, exists_eq_left', exists_eq_left, Sum.inl.injEq, Sum.inr.injEq, Prod.mk.injEq, nI_toInt, nI_clamp, am_ix_nI, am_ix_0, am_ix_1, am_ix_2, am_ix_3, am_n0, am_n1, am_n2, am_n3, am_n4, am_t0, am_t1, am_t2, am_t3, am_t4, am_tm1, am_nS, am_nP, am_nM, Int.ofNat_lt, Int.ofNat_le, Option.toList_some, Option.toList_none, List.cons_append, List.nil_append, List.append_nil]
    exact ⟨hQ0 (Or.inl q), fun z => absurd trivial z⟩
theorem c_ycell {g : am_G} {l : Launch} {σ : am_S} {m : Nat} {D : xx_D} {s t kk ww : Int32} {Q : Option Value → am_S → Prop} (h : ym_O σ m D) (hB : xx_wf D) (hQ0 : ¬ xx_in s ∨ ¬ xx_ti t ∨ ¬ xx_in ww → Q (some (.int (-1))) σ) (hQ1 : ∀ i j w, i < 4 → s = nI i → j < 2 → t = nI j → w < 4 → ww = nI w → ∀ σ', ym_O σ' m D → ym_fr m σ σ' → Q (some (.int (if 0 ≤ kk.toInt ∧ kk.toInt < (xx_V D (D.1 i) j).length then xr_col ((xx_V D (D.1 i) j).getD kk.toNatClampNeg xr_0) w else -1))) σ') : am_C g l mX10_cell 2 (am_tp σ, am_us σ) [.ref m, .int s, .int t, .int kk, .int ww] σ Q := by
  have H := h.1
  have o1 : ¬ (1 : Int32) = 0 := by decide
  refine am_C.go [some (.ref m), some (.int s), some (.int t), some (.int kk), some (.int ww)] (by decide +kernel) (Nat.le_of_ble_eq_true rfl) rfl (kX10_cell_0 ?_)
  simp (disch := omega) only [ax_const, ax_iload, ax_lload, ax_aload, ax_istore, ax_astore, ax_iinc, ax_i2, ax_i2n, ax_l2, ax_lsh, ax_ii, ax_il, ax_li, ax_pop, ax_dup, ax_dup2, ax_if, ax_cmp, ax_acmp, ax_goto, ax_getI, ax_getR, ax_putI, ax_putR, ax_gets, ax_getsT, ax_aldI, ax_aldR, ax_astI, ax_astR, ax_alen, ax_ret, ax_aret, ax_vret, am_st, am_kl, List.getElem?_cons_zero, List.getElem?_cons_succ, List.set_cons_zero, List.set_cons_succ, Value.category, true_and, and_true, if_true, if_false, reduceCtorEq, Bool.false_eq_true, false_implies, forall_const, Option.some.injEq, exists_eq_left', exists_eq_left, Sum.inl.injEq, Sum.inr.injEq, Prod.mk.injEq, nI_toInt, nI_clamp, am_ix_nI, am_ix_0, am_ix_1, am_ix_2, am_ix_3, am_n0, am_n1, am_n2, am_n3, am_n4, am_t0, am_t1, am_t2, am_t3, am_t4, am_tm1, am_nS, am_nP, am_nM, Int.ofNat_lt, Int.ofNat_le]
  refine am_callK [.int s] [] (d' := 0) (lim' := (am_tp σ, am_us σ)) rfl (by decide) (Nat.le_refl _) (Nat.le_refl _) rfl (Nat.le_of_ble_eq_true rfl) am_stat ?_
  refine c_yisSession (fun _ _ => ?_)
  by_cases q : 0 ≤ s.toInt ∧ s.toInt < 4
  · rw [if_pos q]
    obtain ⟨i, hi, rfl⟩ := xx_in.of q
    obtain ⟨b1, b2⟩ := h.2.1 i hi
    simp (disch := omega) only [ax_const, ax_iload, ax_lload, ax_aload, ax_istore, ax_astore, ax_iinc, ax_i2, ax_i2n, ax_l2, ax_lsh, ax_ii, ax_il, ax_li, ax_pop, ax_dup, ax_dup2, ax_if, ax_cmp, ax_acmp, ax_goto, ax_getI, ax_getR, ax_putI, ax_putR, ax_gets, ax_getsT, ax_aldI, ax_aldR, ax_astI, ax_astR, ax_alen, ax_ret, ax_aret, ax_vret, am_st, am_kl, List.getElem?_cons_zero, List.getElem?_cons_succ, List.set_cons_zero, List.set_cons_succ, Value.category, true_and, and_true, if_true, if_false, reduceCtorEq, Bool.false_eq_true, false_implies, forall_const, Option.some.injEq, exists_eq_left', exists_eq_left, Sum.inl.injEq, Sum.inr.injEq, Prod.mk.injEq, nI_toInt, nI_clamp, am_ix_nI, am_ix_0, am_ix_1, am_ix_2, am_ix_3, am_n0, am_n1, am_n2, am_n3, am_n4, am_t0, am_t1, am_t2, am_t3, am_t4, am_tm1, am_nS, am_nP, am_nM, Int.ofNat_lt, Int.ofNat_le, Option.toList_some, Option.toList_none, List.cons_append, List.nil_append, List.append_nil, o1, H.1, H.r0, H.s0, b1]
    refine fun _ => ⟨fun c => hQ0 (Or.inr (Or.inl (fun z => by have := z.1; omega))), fun c => ⟨fun c2 => hQ0 (Or.inr (Or.inl (fun z => by have := z.2; omega))), fun c2 => ⟨fun c3 => hQ0 (Or.inr (Or.inr (fun z => by have := z.1; omega))), fun c3 => ⟨fun c4 => hQ0 (Or.inr (Or.inr (fun z => by have := z.2; omega))), fun c4 => ⟨hi, ?_⟩⟩⟩⟩⟩
    obtain ⟨j, hj, rfl⟩ := xx_tin (t := t) ⟨by omega, by omega⟩
    obtain ⟨w, hw, rfl⟩ := xx_in.of (s := ww) ⟨by omega, by omega⟩
    refine am_callK [.ref m, .int (nI (D.1 i)), .int (nI j), .int (nI 0)] [] (d' := 1) (lim' := (am_tp σ, am_us σ)) rfl (by decide) (Nat.le_refl _) (Nat.le_refl _) rfl (Nat.le_of_ble_eq_true rfl) (am_recv H.1) ?_
    refine c_ylook h hB.1 (by decide) b2 hj (fun z => by rw [hB.2 _ b2 z]) (fun σ' hN hf ho h21 t1 u1 => ?_)
    have H' := H.f hf
    have n0 : am_i σ' (m + 21) 0 = nI (xx_V D (D.1 i) j).length := hN.1
    have fin := hQ1 i j w hi rfl hj rfl hw rfl σ' (h.sc ((ym_fr.look hf).mono fun _ => ym_sq.sc)) (ym_fr.sc (ym_fr.look hf))
    have hl := hN.2.1
    have hcl := hN.2.2
    generalize xx_V D (D.1 i) j = V at *
    simp (disch := omega) only [ax_const, ax_iload, ax_lload, ax_aload, ax_istore, ax_astore, ax_iinc, ax_i2, ax_i2n, ax_l2, ax_lsh, ax_ii, ax_il, ax_li, ax_pop, ax_dup, ax_dup2, ax_if, ax_cmp, ax_acmp, ax_goto, ax_getI, ax_getR, ax_putI, ax_putR, ax_gets, ax_getsT, ax_aldI, ax_aldR, ax_astI, ax_astR, ax_alen, ax_ret, ax_aret, ax_vret, am_st, am_kl, List.getElem?_cons_zero, List.getElem?_cons_succ, List.set_cons_zero, List.set_cons_succ, Value.category, true_and, and_true, if_true, if_false, reduceCtorEq, Bool.false_eq_true, false_implies, forall_const, Option.some.injEq, exists_eq_left', exists_eq_left, Sum.inl.injEq, Sum.inr.injEq, Prod.mk.injEq, nI_toInt, nI_clamp, am_ix_nI, am_ix_0, am_ix_1, am_ix_2, am_ix_3, am_n0, am_n1, am_n2, am_n3, am_n4, am_t0, am_t1, am_t2, am_t3, am_t4, am_tm1, am_nS, am_nP, am_nM, Int.ofNat_lt, Int.ofNat_le, Option.toList_some, Option.toList_none, List.cons_append, List.nil_append, List.append_nil, H'.1, H'.r40, H'.s40, H'.r41, H'.s41, n0]
    refine ⟨fun c5 => ?_, fun c5 => ⟨by decide, fun c6 => ?_, fun c6 => ?_⟩⟩
    · rw [if_neg (by omega)] at fin
      exact ⟨t1, u1, fin⟩
    · rw [if_pos (by omega)] at fin
      obtain ⟨k, hk, rfl⟩ := nI_of (x := kk) (by rw [Int32.lt_iff_toInt_lt, Int32.toInt_zero]; omega)
      rw [nI_toInt hk] at c6
      rw [nI_clamp hk] at fin
      have hk2 : k < V.length := by omega
      have eg : V.getD k xr_0 = V[k] := by rw [List.getD_eq_getElem?_getD, List.getElem?_eq_getElem hk2]; rfl
      rw [eg] at fin
      have ev := hcl k V[k] (List.getElem?_eq_getElem hk2) w hw
      rw [Nat.mul_zero, Nat.zero_add] at ev
      simp (disch := omega) only [nI_toInt, nI_clamp, am_ix_nI, am_ix_0, am_ix_1, am_ix_2, am_ix_3, am_n0, am_n1, am_n2, am_n3, am_n4, am_t0, am_t1, am_t2, am_t3, am_t4, am_tm1, am_nS, am_nP, am_nM, Int.ofNat_lt, Int.ofNat_le, yl_4, pk_mul, nI_add, ev]
      exact ⟨by omega, t1, u1, fin⟩
    · rw [if_neg (by omega)] at fin
      exact ⟨t1, u1, fin⟩
  · rw [if_neg q]
    simp (disch := omega) only [ax_const, ax_iload, ax_lload, ax_aload, ax_istore, ax_astore, ax_iinc, ax_i2, ax_i2n, ax_l2, ax_lsh, ax_ii, ax_il, ax_li, ax_pop, ax_dup, ax_dup2, ax_if, ax_cmp, ax_acmp, ax_goto, ax_getI, ax_getR, ax_putI, ax_putR, ax_gets, ax_getsT, ax_aldI, ax_aldR, ax_astI, ax_astR, ax_alen, ax_ret, ax_aret, ax_vret, am_st, am_kl, List.getElem?_cons_zero, List.getElem?_cons_succ, List.set_cons_zero, List.set_cons_succ, Value.category, true_and, and_true, if_true, if_false, reduceCtorEq, Bool.false_eq_true, false_implies, forall_const, Option.some.injEq, exists_eq_left', exists_eq_left, Sum.inl.injEq, Sum.inr.injEq, Prod.mk.injEq, nI_toInt, nI_clamp, am_ix_nI, am_ix_0, am_ix_1, am_ix_2, am_ix_3, am_n0, am_n1, am_n2, am_n3, am_n4, am_t0, am_t1, am_t2, am_t3, am_t4, am_tm1, am_nS, am_nP, am_nM, Int.ofNat_lt, Int.ofNat_le, Option.toList_some, Option.toList_none, List.cons_append, List.nil_append, List.append_nil]
    exact ⟨hQ0 (Or.inl q), fun z => absurd trivial z⟩
