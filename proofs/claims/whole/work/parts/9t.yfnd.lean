/-! select: what is found -/
def yS3 (σ : am_S) (m : Nat) (T : Nat → Nat) (o : yp_O) (V1 V2 : List xr_E) : Prop :=
  ym_H σ m ∧ yR σ m T ∧ ykI σ m o.length T o ∧ ym_N σ m 0 V1 ∧ (T 0 = 2 → ym_N σ m 1 V2) ∧ (yTwo T o → T 0 = 2) ∧ o.length ≤ 99 ∧ yk o ∧ (∀ q, q ∈ o → q.1 < 100) ∧ am_i σ (m + 21) 1 = nI (xl_n2 (decide (T 0 = 2)) V2) ∧ yLb V1 ∧ yLb V2 ∧ T 20 ≤ 1 ∧ T 0 < 3
def ysG (m : Nat) (σ σ' : am_S) : Prop := ym_f (fun b => b = m ∨ (m + 22 ≤ b ∧ b ≤ m + 25)) σ σ' ∧ ∀ k, k ≠ 44 → am_i σ' m k = am_i σ m k
theorem ysG.rf {m : Nat} {σ : am_S} : ysG m σ σ := ⟨.rf, fun _ _ => rfl⟩
theorem ysG.tr {m : Nat} {σ σ' σ'' : am_S} (h : ysG m σ σ') (h' : ysG m σ' σ'') : ysG m σ σ'' := ⟨h.1.tr h'.1, fun k hk => (h'.2 k hk).trans (h.2 k hk)⟩
theorem ysG.of {m : Nat} {σ σ' : am_S} (h : yuF m σ σ') : ysG m σ σ' := ⟨h.mono (fun b x => by omega), fun k _ => by rw [h.i (a := m) (by omega)]⟩
theorem yR.k44 {σ σ' : am_S} {m : Nat} {T : Nat → Nat} (h : yR σ m T) (h0 : ∀ k, k ≠ 44 → am_i σ' m k = am_i σ m k) (h1 : am_i σ' (m + 16) = am_i σ (m + 16)) (h2 : am_i σ' (m + 17) = am_i σ (m + 17)) (h3 : am_i σ' (m + 18) = am_i σ (m + 18)) (h4 : am_i σ' (m + 19) = am_i σ (m + 19)) : yR σ' m T := by
  unfold yR
  rw [h0 25 (by decide), h0 26 (by decide), h0 27 (by decide), h0 32 (by decide), h0 37 (by decide), h0 38 (by decide), h0 33 (by decide), h0 34 (by decide), h0 35 (by decide), h0 36 (by decide), h0 39 (by decide), h1, h2, h3, h4]
  exact h
theorem yS3.g {σ σ' : am_S} {m : Nat} {T : Nat → Nat} {o : yp_O} {V1 V2 : List xr_E} (h : yS3 σ m T o V1 V2) (hf : ysG m σ σ') : yS3 σ' m T o V1 V2 := by
  obtain ⟨h1, h2, h3, h4, h5, h6, h7, h8, h9, h10, h11⟩ := h
  obtain ⟨f1, f2⟩ := hf
  refine ⟨h1.f f1, h2.k44 f2 (f1.i (by omega)) (f1.i (by omega)) (f1.i (by omega)) (f1.i (by omega)), h3.f (f2 18 (by decide)) (f1.i (by omega)) (f1.i (by omega)), ?_, fun q => ?_, h6, h7, h8, h9, by rw [f1.i (a := m + 21) (by omega)]; exact h10, h11⟩
  · unfold ym_N ym_cells
    rw [f1.i (a := m + 20) (by omega), f1.i (a := m + 21) (by omega)]
    exact h4
  · have := h5 q
    unfold ym_N ym_cells at this ⊢
    rw [f1.i (a := m + 20) (by omega), f1.i (a := m + 21) (by omega)]
    exact this
theorem yFd.add {σ : am_S} {m i j : Nat} {FL : List (Nat × Nat)} (h : yFd σ m FL) (hl : FL.length < 40) : yFd (am_wi (am_wi (am_wi σ (m + 24) FL.length (nI i)) (m + 25) FL.length (nI j)) m 44 (nI (FL.length + 1))) m (FL ++ [(i, j)]) := by
  obtain ⟨h1, h2, h3⟩ := h
  refine ⟨by rw [ym_is, List.length_append]; rfl, by rw [List.length_append, List.length_cons, List.length_nil]; omega, fun q p hq => ?_⟩
  have e1 : am_i (am_wi (am_wi (am_wi σ (m + 24) FL.length (nI i)) (m + 25) FL.length (nI j)) m 44 (nI (FL.length + 1))) (m + 24) q = am_i (am_wi σ (m + 24) FL.length (nI i)) (m + 24) q := by rw [ym_io (by omega), ym_io (by omega)]
  have e2 : am_i (am_wi (am_wi (am_wi σ (m + 24) FL.length (nI i)) (m + 25) FL.length (nI j)) m 44 (nI (FL.length + 1))) (m + 25) q = am_i (am_wi (am_wi σ (m + 24) FL.length (nI i)) (m + 25) FL.length (nI j)) (m + 25) q := by rw [ym_io (by omega)]
  rw [e1, e2]
  by_cases c : q < FL.length
  · rw [List.getElem?_append_left c] at hq
    rw [ym_ij (by omega), ym_ij (by omega), ym_io (by omega)]
    exact h3 q p hq
  · have e : q = FL.length := by
      have := (List.getElem?_eq_some_iff.mp hq).1
      simp at this
      omega
    subst e
    rw [List.getElem?_append_right (Nat.le_refl _), Nat.sub_self, List.getElem?_cons_zero, Option.some.injEq] at hq
    subst hq
    rw [ym_is, ym_is]
    exact ⟨rfl, rfl⟩
theorem yFd.u {σ σ' : am_S} {m : Nat} {FL : List (Nat × Nat)} (h : yFd σ m FL) (hf : yuF m σ σ') : yFd σ' m FL := by
  unfold yFd
  rw [hf.i (a := m) (by omega), hf.i (a := m + 24) (by omega), hf.i (a := m + 25) (by omega)]
  exact h
def yWh (T : Nat → Nat) (o : yp_O) (Wh : xr_E → xr_E → Bool) : Prop := ∃ cm, ∀ a b, (T 17 = 0 ∧ Wh a b = true) ∨ (T 17 = 1 ∧ yz o (T 18) (T 19) cm ∧ ym_run (yv2 T a b) cm [] = some [if Wh a b = true then 1 else 0])
theorem yS3.n2 {σ : am_S} {m : Nat} {T : Nat → Nat} {o : yp_O} {V1 V2 : List xr_E} (h : yS3 σ m T o V1 V2) : xl_n2 (decide (T 0 = 2)) V2 ≤ 48 := by
  unfold xl_n2
  split
  · rename_i q
    exact (h.2.2.2.2.1 (of_decide_eq_true q)).2.1
  · decide
theorem ysf_69 {g : am_G} {l : Launch} {m d i s : Nat} {T : Nat → Nat} {o : yp_O} {V1 V2 : List xr_E} {Wh : xr_E → xr_E → Bool} {v2 : Int32} {G : Option (List (Nat × Nat))} {σ0 : am_S} {Q : Option Value → am_S → Prop} (hd : 3 ≤ d) (hi : i < V1.length) (hW : yWh T o Wh)
    (hQ7 : G = none → ∀ σ', yS3 σ' m T o V1 V2 → ysG m σ0 σ' → Q (some (.int (-7))) σ')
    (hK : ∀ FL, G = some FL → ∀ σ' z4 z5, yS3 σ' m T o V1 V2 → yFd σ' m FL → ysG m σ0 σ' → am_W g l mX10_select d (am_tp σ0, am_us σ0) Q 56 [some (.ref m), some (.int (nI s)), some (.int v2), some (.int (nI (i + 1))), z4, z5] [] σ') :
    ∀ (n j : Nat) (acc : List (Nat × Nat)) (σ : am_S) (z5 : Option Value), n + j = xl_n2 (decide (T 0 = 2)) V2 → xl_in (xl_fd Wh (decide (T 0 = 2)) (decide (T 20 = 1)) V1 V2) i n j acc = G → yS3 σ m T o V1 V2 → yFd σ m acc → ysG m σ0 σ →
      am_W g l mX10_select d (am_tp σ0, am_us σ0) Q 69 [some (.ref m), some (.int (nI s)), some (.int v2), some (.int (nI i)), some (.int (nI j)), z5] [] σ := by
  intro n
  induction n with
  | zero =>
    intro j acc σ z5 hn hG h hF hf
    have hH := h.1
    have h21 := h.2.2.2.2.2.2.2.2.2.1
    have hn2 := h.n2
    have hG : some acc = G := hG
    have hj : j = xl_n2 (decide (T 0 = 2)) V2 := by omega
    refine kX10_select_69 ?_
    simp (disch := omega) only [ax_const, ax_iload, ax_lload, ax_aload, ax_istore, ax_astore, ax_iinc, ax_i2, ax_i2n, ax_l2, ax_lsh, ax_ii, ax_il, ax_li, ax_pop, ax_dup, ax_dup2, ax_if, ax_cmp, ax_acmp, ax_goto, ax_getI, ax_getR, ax_putI, ax_putR, ax_gets, ax_getsT, ax_aldI, ax_aldR, ax_astI, ax_astR, ax_alen, ax_ret, ax_aret, ax_vret, am_st, am_kl, List.getElem?_cons_zero, List.getElem?_cons_succ, List.set_cons_zero, List.set_cons_succ, Value.category, true_and, and_true, if_true, if_false, reduceCtorEq, Bool.false_eq_true, false_implies, forall_const, Option.some.injEq, exists_eq_left', exists_eq_left, Sum.inl.injEq, Sum.inr.injEq, Prod.mk.injEq, nI_toInt, nI_clamp, am_ix_nI, am_ix_0, am_ix_1, am_ix_2, am_ix_3, am_n0, am_n1, am_n2, am_n3, am_n4, am_t0, am_t1, am_t2, am_t3, am_t4, am_tm1, am_nS, am_nP, am_nM, Int.ofNat_lt, Int.ofNat_le, hH.1, hH.r41, hH.s41, h21]
    exact ⟨by decide, fun z => by omega, fun _ => hK acc hG.symm σ _ _ h hF hf⟩
  | succ n ih =>
    intro j acc σ z5 hn hG h hF hf
    have hn2 := h.n2
    have hH := h.1
    have h21 := h.2.2.2.2.2.2.2.2.2.1
    have hL1 := h.2.2.2.2.2.2.2.2.2.2.1
    have hL2 := h.2.2.2.2.2.2.2.2.2.2.2.1
    have hT20 := h.2.2.2.2.2.2.2.2.2.2.2.2.1
    have hT0 := h.2.2.2.2.2.2.2.2.2.2.2.2.2
    have o1 : ¬ (1 : Int32) = 0 := by decide
    have ha : V1[i]? = some (V1.getD i xr_0) := xl_get hi
    have hb : T 0 = 2 → V2[j]? = some (V2.getD j xr_0) := fun q => xl_get (by
      have : xl_n2 (decide (T 0 = 2)) V2 = V2.length := by unfold xl_n2; rw [decide_eq_true q]; rfl
      omega)
    have f1 : yuF m σ (am_wi (am_wi σ (m + 22) 0 (nI i)) (m + 22) 1 (nI j)) := ((ym_f.rf (P := fun b => b = m + 22 ∨ b = m + 23)).wi (a := m + 22) (Or.inl rfl)).wi (a := m + 22) (Or.inl rfl)
    have a0 : am_i (am_wi (am_wi σ (m + 22) 0 (nI i)) (m + 22) 1 (nI j)) (m + 22) 0 = nI i := by rw [ym_ij (by decide)]; exact ym_is
    have a1 : am_i (am_wi (am_wi σ (m + 22) 0 (nI i)) (m + 22) 1 (nI j)) (m + 22) 1 = nI j := ym_is
    have h1 := h.g (ysG.of f1)
    have hF1 := hF.u f1
    have g1 := hf.tr (ysG.of f1)
    have e33 : am_i σ m 33 = nI (T 20) := h.2.1.2.2.2.2.2.2.2.2.1
    have e25 : am_i σ m 25 = nI (T 0) := h.2.1.1
    rw [xl_in] at hG
    -- the next pair
    have nx : ∀ (acc' : List (Nat × Nat)) (σ' : am_S) z, xl_in (xl_fd Wh (decide (T 0 = 2)) (decide (T 20 = 1)) V1 V2) i n (j + 1) acc' = G → yS3 σ' m T o V1 V2 → yFd σ' m acc' → ysG m σ0 σ' → am_W g l mX10_select d (am_tp σ0, am_us σ0) Q 69 [some (.ref m), some (.int (nI s)), some (.int v2), some (.int (nI i)), some (.int (nI (j + 1))), z] [] σ' := fun acc' σ' z p q r u => ih (j + 1) acc' σ' z (by omega) p q r u
    have l134 : ∀ (σ1 : am_S) (y : Bool) z, y = !(decide (T 20 = 1) && xl_cv (decide (T 0 = 2)) V1 V2 (V1.getD i xr_0) (V2.getD j xr_0)) → am_i σ1 (m + 22) 0 = nI i → am_i σ1 (m + 22) 1 = nI j → yS3 σ1 m T o V1 V2 → yFd σ1 m acc → ysG m σ0 σ1 → am_W g l mX10_select d (am_tp σ0, am_us σ0) Q 134 [some (.ref m), some (.int (nI s)), some (.int v2), some (.int (nI i)), some (.int (nI j)), z] [.int (yb y)] σ1 := by
      intro σ1 y z ey c0 c1 h1 hF1 g1
      have hH1 := h1.1
      have eP : xl_fd Wh (decide (T 0 = 2)) (decide (T 20 = 1)) V1 V2 i j = (y && Wh (V1.getD i xr_0) (V2.getD j xr_0)) := by
        unfold xl_fd
        rw [← ey]
      rw [eP] at hG
      refine kX10_select_134 ?_
      cases hy : y with
      | false =>
        rw [hy, Bool.false_and, if_neg Bool.false_ne_true] at hG
        have e0 : yb false = 0 := rfl
        rw [e0]
        simp (disch := omega) only [ax_const, ax_iload, ax_lload, ax_aload, ax_istore, ax_astore, ax_iinc, ax_i2, ax_i2n, ax_l2, ax_lsh, ax_ii, ax_il, ax_li, ax_pop, ax_dup, ax_dup2, ax_if, ax_cmp, ax_acmp, ax_goto, ax_getI, ax_getR, ax_putI, ax_putR, ax_gets, ax_getsT, ax_aldI, ax_aldR, ax_astI, ax_astR, ax_alen, ax_ret, ax_aret, ax_vret, am_st, am_kl, List.getElem?_cons_zero, List.getElem?_cons_succ, List.set_cons_zero, List.set_cons_succ, Value.category, true_and, and_true, if_true, if_false, reduceCtorEq, Bool.false_eq_true, false_implies, forall_const, Option.some.injEq, exists_eq_left', exists_eq_left, Sum.inl.injEq, Sum.inr.injEq, Prod.mk.injEq, nI_toInt, nI_clamp, am_ix_nI, am_ix_0, am_ix_1, am_ix_2, am_ix_3, am_n0, am_n1, am_n2, am_n3, am_n4, am_t0, am_t1, am_t2, am_t3, am_t4, am_tm1, am_nS, am_nP, am_nM, Int.ofNat_lt, Int.ofNat_le]
        exact ⟨nx acc σ1 _ hG h1 hF1 g1, fun z => absurd trivial z⟩
      | true =>
        rw [hy, Bool.true_and] at hG
        have e1 : yb true = 1 := rfl
        rw [e1]
        simp (disch := omega) only [ax_const, ax_iload, ax_lload, ax_aload, ax_istore, ax_astore, ax_iinc, ax_i2, ax_i2n, ax_l2, ax_lsh, ax_ii, ax_il, ax_li, ax_pop, ax_dup, ax_dup2, ax_if, ax_cmp, ax_acmp, ax_goto, ax_getI, ax_getR, ax_putI, ax_putR, ax_gets, ax_getsT, ax_aldI, ax_aldR, ax_astI, ax_astR, ax_alen, ax_ret, ax_aret, ax_vret, am_st, am_kl, List.getElem?_cons_zero, List.getElem?_cons_succ, List.set_cons_zero, List.set_cons_succ, Value.category, true_and, and_true, if_true, if_false, reduceCtorEq, Bool.false_eq_true, false_implies, forall_const, Option.some.injEq, exists_eq_left', exists_eq_left, Sum.inl.injEq, Sum.inr.injEq, Prod.mk.injEq, nI_toInt, nI_clamp, am_ix_nI, am_ix_0, am_ix_1, am_ix_2, am_ix_3, am_n0, am_n1, am_n2, am_n3, am_n4, am_t0, am_t1, am_t2, am_t3, am_t4, am_tm1, am_nS, am_nP, am_nM, Int.ofNat_lt, Int.ofNat_le, o1]
        intro _
        obtain ⟨cm, hcm⟩ := hW
        have hE : ykE σ1 m T o (yv2 T (V1.getD i xr_0) (V2.getD j xr_0)) := yv2_E h1.2.2.2.1 (fun z => ⟨h1.2.2.2.2.1 (h1.2.2.2.2.2.1 z), hb (h1.2.2.2.2.2.1 z)⟩) ha c0 c1
        refine am_callK [.ref m] [] (d' := 2) (lim' := (am_tp σ1, am_us σ1)) rfl (by omega) (Nat.le_of_eq g1.1.tp) (Nat.le_of_eq g1.1.us) rfl (Nat.le_of_ble_eq_true rfl) (am_recv hH1.1) ?_
        refine c_yholds (B := Wh (V1.getD i xr_0) (V2.getD j xr_0)) (cm := cm) hH1 h1.2.1 h1.2.2.2.2.2.2.1 h1.2.2.1 h1.2.2.2.2.2.2.2.1 h1.2.2.2.2.2.2.2.2.1 hE (hcm _ _) (fun σ2 f2 t2 u2 => ?_)
        have f2' : yuF m σ1 σ2 := f2.mono (fun b x => Or.inr x)
        have h2 := h1.g (ysG.of f2')
        have hF2 := hF1.u f2'
        have g2 := g1.tr (ysG.of f2')
        have hH2 := h2.1
        cases hwh : Wh (V1.getD i xr_0) (V2.getD j xr_0) with
        | false =>
          rw [hwh, if_neg Bool.false_ne_true] at hG
          rw [if_neg Bool.false_ne_true]
          simp (disch := omega) only [ax_const, ax_iload, ax_lload, ax_aload, ax_istore, ax_astore, ax_iinc, ax_i2, ax_i2n, ax_l2, ax_lsh, ax_ii, ax_il, ax_li, ax_pop, ax_dup, ax_dup2, ax_if, ax_cmp, ax_acmp, ax_goto, ax_getI, ax_getR, ax_putI, ax_putR, ax_gets, ax_getsT, ax_aldI, ax_aldR, ax_astI, ax_astR, ax_alen, ax_ret, ax_aret, ax_vret, am_st, am_kl, List.getElem?_cons_zero, List.getElem?_cons_succ, List.set_cons_zero, List.set_cons_succ, Value.category, true_and, and_true, if_true, if_false, reduceCtorEq, Bool.false_eq_true, false_implies, forall_const, Option.some.injEq, exists_eq_left', exists_eq_left, Sum.inl.injEq, Sum.inr.injEq, Prod.mk.injEq, Option.toList_some, Option.toList_none, List.cons_append, List.nil_append, List.append_nil, nI_toInt, nI_clamp, am_ix_nI, am_ix_0, am_ix_1, am_ix_2, am_ix_3, am_n0, am_n1, am_n2, am_n3, am_n4, am_t0, am_t1, am_t2, am_t3, am_t4, am_tm1, am_nS, am_nP, am_nM, Int.ofNat_lt, Int.ofNat_le]
          exact ⟨nx acc σ2 _ hG h2 hF2 g2, fun z => absurd trivial z⟩
        | true =>
          rw [hwh, if_pos rfl] at hG
          rw [if_pos rfl]
          have e44 := hF2.1
          have h40 := hF2.2.1
          simp (disch := omega) only [ax_const, ax_iload, ax_lload, ax_aload, ax_istore, ax_astore, ax_iinc, ax_i2, ax_i2n, ax_l2, ax_lsh, ax_ii, ax_il, ax_li, ax_pop, ax_dup, ax_dup2, ax_if, ax_cmp, ax_acmp, ax_goto, ax_getI, ax_getR, ax_putI, ax_putR, ax_gets, ax_getsT, ax_aldI, ax_aldR, ax_astI, ax_astR, ax_alen, ax_ret, ax_aret, ax_vret, am_st, am_kl, List.getElem?_cons_zero, List.getElem?_cons_succ, List.set_cons_zero, List.set_cons_succ, Value.category, true_and, and_true, if_true, if_false, reduceCtorEq, Bool.false_eq_true, false_implies, forall_const, Option.some.injEq, exists_eq_left', exists_eq_left, Sum.inl.injEq, Sum.inr.injEq, Prod.mk.injEq, Option.toList_some, Option.toList_none, List.cons_append, List.nil_append, List.append_nil, nI_toInt, nI_clamp, am_ix_nI, am_ix_0, am_ix_1, am_ix_2, am_ix_3, am_n0, am_n1, am_n2, am_n3, am_n4, am_t0, am_t1, am_t2, am_t3, am_t4, am_tm1, am_nS, am_nP, am_nM, Int.ofNat_lt, Int.ofNat_le, am_sh_wi, am_r_wi, am_tp_wi, am_us_wi, ym_is, ym_io, ym_ij, o1, hH2.1, hH2.r46, hH2.s46, hH2.r47, hH2.s47, e44, yl_40, yl_eq]
          refine fun _ => ⟨fun c40 => ?_, fun c40 => ?_⟩
          · rw [if_pos c40] at hG
            exact ⟨g2.1.tp, g2.1.us, hQ7 hG.symm σ2 h2 g2⟩
          · rw [if_neg c40] at hG
            have g3 : ysG m σ2 (am_wi (am_wi (am_wi σ2 (m + 24) acc.length (nI i)) (m + 25) acc.length (nI j)) m 44 (nI (acc.length + 1))) := ⟨(((ym_f.rf (P := fun b => b = m ∨ (m + 22 ≤ b ∧ b ≤ m + 25))).wi (a := m + 24) (by omega)).wi (a := m + 25) (by omega)).wi (a := m) (by omega), fun k hk => by rw [ym_ij hk, ym_io (by omega), ym_io (by omega)]⟩
            exact ⟨by omega, by omega, nx (acc ++ [(i, j)]) _ _ hG (h2.g g3) (hF2.add (by omega)) (g2.tr g3)⟩
    refine kX10_select_69 ?_
    simp (disch := omega) only [ax_const, ax_iload, ax_lload, ax_aload, ax_istore, ax_astore, ax_iinc, ax_i2, ax_i2n, ax_l2, ax_lsh, ax_ii, ax_il, ax_li, ax_pop, ax_dup, ax_dup2, ax_if, ax_cmp, ax_acmp, ax_goto, ax_getI, ax_getR, ax_putI, ax_putR, ax_gets, ax_getsT, ax_aldI, ax_aldR, ax_astI, ax_astR, ax_alen, ax_ret, ax_aret, ax_vret, am_st, am_kl, List.getElem?_cons_zero, List.getElem?_cons_succ, List.set_cons_zero, List.set_cons_succ, Value.category, true_and, and_true, if_true, if_false, reduceCtorEq, Bool.false_eq_true, false_implies, forall_const, Option.some.injEq, exists_eq_left', exists_eq_left, Sum.inl.injEq, Sum.inr.injEq, Prod.mk.injEq, nI_toInt, nI_clamp, am_ix_nI, am_ix_0, am_ix_1, am_ix_2, am_ix_3, am_n0, am_n1, am_n2, am_n3, am_n4, am_t0, am_t1, am_t2, am_t3, am_t4, am_tm1, am_nS, am_nP, am_nM, Int.ofNat_lt, Int.ofNat_le, am_sh_wi, am_r_wi, am_tp_wi, am_us_wi, ym_is, ym_io, ym_ij, hH.1, hH.r41, hH.s41, hH.r42, hH.s42, h21, e33]
    refine ⟨by decide, fun _ => ⟨by decide, by decide, ?_⟩, fun z => by omega⟩
    generalize am_wi (am_wi σ (m + 22) 0 (nI i)) (m + 22) 1 (nI j) = σ1 at *
    have hH1 := h1.1
    have x25 : am_i σ1 m 25 = nI (T 0) := h1.2.1.1
    by_cases ct : T 20 = 1
    · rw [ct]
      refine ⟨fun z => absurd z (by decide), fun _ => ?_⟩
      refine am_callK [.ref m, .int (nI 0), .int (nI i)] [] (d' := 0) (lim' := (am_tp σ1, am_us σ1)) rfl (by omega) (Nat.le_of_eq g1.1.tp) (Nat.le_of_eq g1.1.us) rfl (Nat.le_of_ble_eq_true rfl) (am_recv hH1.1) ?_
      refine c_yhidden hH1 h1.2.2.2.1 (by decide) ha hL1 (fun _ _ => ?_)
      cases hc1 : V1.any (xr_cov (V1.getD i xr_0)) with
      | true =>
        have e1 : yb true = 1 := rfl
        have l := l134 σ1 false z5 (by unfold xl_cv; rw [decide_eq_true ct, hc1]; rfl) a0 a1 h1 hF1 g1
        rw [e1]
        simp (disch := omega) only [ax_const, ax_iload, ax_lload, ax_aload, ax_istore, ax_astore, ax_iinc, ax_i2, ax_i2n, ax_l2, ax_lsh, ax_ii, ax_il, ax_li, ax_pop, ax_dup, ax_dup2, ax_if, ax_cmp, ax_acmp, ax_goto, ax_getI, ax_getR, ax_putI, ax_putR, ax_gets, ax_getsT, ax_aldI, ax_aldR, ax_astI, ax_astR, ax_alen, ax_ret, ax_aret, ax_vret, am_st, am_kl, List.getElem?_cons_zero, List.getElem?_cons_succ, List.set_cons_zero, List.set_cons_succ, Value.category, true_and, and_true, if_true, if_false, reduceCtorEq, Bool.false_eq_true, false_implies, forall_const, Option.some.injEq, exists_eq_left', exists_eq_left, Sum.inl.injEq, Sum.inr.injEq, Prod.mk.injEq, Option.toList_some, Option.toList_none, List.cons_append, List.nil_append, List.append_nil, o1]
        exact fun _ => l
      | false =>
        have e0 : yb false = 0 := rfl
        rw [e0]
        simp (disch := omega) only [ax_const, ax_iload, ax_lload, ax_aload, ax_istore, ax_astore, ax_iinc, ax_i2, ax_i2n, ax_l2, ax_lsh, ax_ii, ax_il, ax_li, ax_pop, ax_dup, ax_dup2, ax_if, ax_cmp, ax_acmp, ax_goto, ax_getI, ax_getR, ax_putI, ax_putR, ax_gets, ax_getsT, ax_aldI, ax_aldR, ax_astI, ax_astR, ax_alen, ax_ret, ax_aret, ax_vret, am_st, am_kl, List.getElem?_cons_zero, List.getElem?_cons_succ, List.set_cons_zero, List.set_cons_succ, Value.category, true_and, and_true, if_true, if_false, reduceCtorEq, Bool.false_eq_true, false_implies, forall_const, Option.some.injEq, exists_eq_left', exists_eq_left, Sum.inl.injEq, Sum.inr.injEq, Prod.mk.injEq, Option.toList_some, Option.toList_none, List.cons_append, List.nil_append, List.append_nil, hH1.1, x25, yl_2, yl_lt]
        refine ⟨⟨fun c2 => ?_, fun c2 => ?_⟩, fun z => absurd trivial z⟩
        · exact l134 σ1 true z5 (by unfold xl_cv; rw [decide_eq_true ct, hc1, decide_eq_false (show ¬ T 0 = 2 by omega)]; rfl) a0 a1 h1 hF1 g1
        · have t2 : T 0 = 2 := by omega
          refine am_callK [.ref m, .int (nI 1), .int (nI j)] [] (d' := 0) (lim' := (am_tp σ1, am_us σ1)) rfl (by omega) (Nat.le_of_eq g1.1.tp) (Nat.le_of_eq g1.1.us) rfl (Nat.le_of_ble_eq_true rfl) (am_recv hH1.1) ?_
          refine c_yhidden hH1 (h1.2.2.2.2.1 t2) (by decide) (hb t2) hL2 (fun _ _ => ?_)
          cases hc2 : V2.any (xr_cov (V2.getD j xr_0)) with
          | true =>
            have e1 : yb true = 1 := rfl
            have l := l134 σ1 false z5 (by unfold xl_cv; rw [decide_eq_true ct, hc1, decide_eq_true t2, hc2]; rfl) a0 a1 h1 hF1 g1
            rw [e1]
            simp (disch := omega) only [ax_const, ax_iload, ax_lload, ax_aload, ax_istore, ax_astore, ax_iinc, ax_i2, ax_i2n, ax_l2, ax_lsh, ax_ii, ax_il, ax_li, ax_pop, ax_dup, ax_dup2, ax_if, ax_cmp, ax_acmp, ax_goto, ax_getI, ax_getR, ax_putI, ax_putR, ax_gets, ax_getsT, ax_aldI, ax_aldR, ax_astI, ax_astR, ax_alen, ax_ret, ax_aret, ax_vret, am_st, am_kl, List.getElem?_cons_zero, List.getElem?_cons_succ, List.set_cons_zero, List.set_cons_succ, Value.category, true_and, and_true, if_true, if_false, reduceCtorEq, Bool.false_eq_true, false_implies, forall_const, Option.some.injEq, exists_eq_left', exists_eq_left, Sum.inl.injEq, Sum.inr.injEq, Prod.mk.injEq, Option.toList_some, Option.toList_none, List.cons_append, List.nil_append, List.append_nil, o1]
            exact fun _ => l
          | false =>
            have l := l134 σ1 true z5 (by unfold xl_cv; rw [decide_eq_true ct, hc1, decide_eq_true t2, hc2]; rfl) a0 a1 h1 hF1 g1
            rw [e0]
            simp (disch := omega) only [ax_const, ax_iload, ax_lload, ax_aload, ax_istore, ax_astore, ax_iinc, ax_i2, ax_i2n, ax_l2, ax_lsh, ax_ii, ax_il, ax_li, ax_pop, ax_dup, ax_dup2, ax_if, ax_cmp, ax_acmp, ax_goto, ax_getI, ax_getR, ax_putI, ax_putR, ax_gets, ax_getsT, ax_aldI, ax_aldR, ax_astI, ax_astR, ax_alen, ax_ret, ax_aret, ax_vret, am_st, am_kl, List.getElem?_cons_zero, List.getElem?_cons_succ, List.set_cons_zero, List.set_cons_succ, Value.category, true_and, and_true, if_true, if_false, reduceCtorEq, Bool.false_eq_true, false_implies, forall_const, Option.some.injEq, exists_eq_left', exists_eq_left, Sum.inl.injEq, Sum.inr.injEq, Prod.mk.injEq, Option.toList_some, Option.toList_none, List.cons_append, List.nil_append, List.append_nil]
            exact ⟨l, fun z => absurd trivial z⟩
    · have c0 : T 20 = 0 := by omega
      rw [c0]
      have l := l134 σ1 true z5 (by rw [decide_eq_false ct]; rfl) a0 a1 h1 hF1 g1
      exact ⟨fun _ => l, fun z => absurd rfl z⟩
