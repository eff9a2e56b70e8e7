/-! x: run -/
theorem xp_Z.P0 {g : am_G} {σ : am_S} {pa v : Nat} {ts : List (Nat × Int32)} {W : xp_W} (h : xp_Z g σ pa ts W v) : xp_P0 g σ pa := by
  obtain ⟨⟨g1, g2, g3, g4, g5, g6, g7, g8, g9, g10, g11, g12, g13⟩, _, _⟩ := h
  exact ⟨g2, g3, g4, g5, g9, ⟨_, _, g10⟩, g12⟩
theorem xp_Z.St {g : am_G} {σ : am_S} {X v t : Nat} {ts : List (Nat × Int32)} {W : xp_W} (h : xp_Z g σ (X + 53) ts W v) (h3 : W.1 3 = nI t) (ht : t < 2) (hv : v < 37) : xSt g σ X W v t := by
  obtain ⟨⟨g1, g2, g3, g4, g5, g6, g7, g8, g9, g10, g11, g12, g13⟩, z2, z3⟩ := h
  refine ⟨g9, fun j hj => ?_, by rw [z2 3 (by decide) (by decide)]; exact h3, z2 5 (by decide) (by decide), z3, ht, hv⟩
  have := g10 j hj
  dsimp only at this
  rwa [if_neg (by omega)] at this
theorem c_xrun {g : am_G} {l : Launch} {σ : am_S} {X ds d : Nat} {D : xx_D} {s : Int32} {Q : Option Value → am_S → Prop} (hd : 29 ≤ d) (hds : ds < d) (h : xx_O g σ X D) (hB : xx_wf D) (hc : ∀ i, i < 4 → ∀ c, c ∈ D.2.2.2.2.2.1 i → c < 128)
    (hQ0 : ¬ xx_in s → Q (some (.int (-1))) σ)
    (hQ1 : ∀ i, i < 4 → s = nI i → ∀ (f : Nat → Int32) a D' σ', f 4 = -1 → yRes (xp_parse (xn_sc (D.2.2.2.2.2.1 i) 0) f) (D.2.2.2.2.2.1 i) D i a D' → xx_O g σ' X D' → xx_fr X σ σ' → Q (some (.int a)) σ')
    (hSel : ∀ i, i < 4 → s = nI i → ∀ (f : Nat → Int32) S t, f 4 = -1 → yFa (D.2.2.2.2.2.1 i) S → ykn S.2.2.2 (decide (xp_hd (xn_sc (D.2.2.2.2.2.1 i) 0) 0 = 0)) S.2.2.1 = false → xp_hd (xn_sc (D.2.2.2.2.2.1 i) 0) 0 = 3 → ∀ σ', xx_O g σ' X (yDd D i) → xSt g σ' X (xp_parse (xn_sc (D.2.2.2.2.2.1 i) 0) f) 3 t → (∀ j, 1 ≤ j → j < 7 → am_i σ' (X + 54) j = (xp_parse (xn_sc (D.2.2.2.2.2.1 i) 0) f).1 j) → xx_fr X σ σ' →
      ax_call g l d (am_tp σ, am_us σ) mX9_lookForSelection (some 9) 2 (ax_aload 0 (ax_getR 9 4 (ax_aload 2 (ax_call g l d (am_tp σ, am_us σ) mX4_select (some 4) 2 (ax_ret (am_tp σ, am_us σ) false Q))))) [some (.ref X), some (.int (nI i)), some (.ref (xx_se X i)), some (.int 1)] [.int (nI (D.1 i)), .ref X] σ') :
    am_C g l mX9_run d (am_tp σ, am_us σ) [.ref X, .int s] σ Q := by
  have h0 := h
  obtain ⟨⟨a1, a2, a3, a4, a5, a6, a7, a8, a9⟩, hst, hse, hT, hp, -⟩ := h
  have o1 : ¬ (1 : Int32) = 0 := by decide
  refine am_C.go [some (.ref X), some (.int s), none, none] (by decide +kernel) (Nat.le_of_ble_eq_true rfl) rfl (kX9_run_0 ?_)
  simp (disch := omega) only [ax_const, ax_iload, ax_lload, ax_aload, ax_istore, ax_astore, ax_iinc, ax_i2, ax_i2n, ax_l2, ax_lsh, ax_ii, ax_il, ax_li, ax_pop, ax_dup, ax_dup2, ax_if, ax_cmp, ax_acmp, ax_goto, ax_getI, ax_getR, ax_putI, ax_putR, ax_gets, ax_getsT, ax_aldI, ax_aldR, ax_astI, ax_astR, ax_alen, ax_ret, ax_aret, ax_vret, am_st, am_kl, List.getElem?_cons_zero, List.getElem?_cons_succ, List.set_cons_zero, List.set_cons_succ, Value.category, true_and, and_true, if_true, if_false, reduceCtorEq, Bool.false_eq_true, false_implies, forall_const, Option.some.injEq, exists_eq_left', exists_eq_left, Sum.inl.injEq, Sum.inr.injEq, Prod.mk.injEq, nI_toInt, nI_clamp, am_ix_nI, am_ix_0, am_ix_1, am_ix_2, am_ix_3, am_n0, am_n1, am_n2, am_n3, am_n4, am_t0, am_t1, am_t2, am_t3, am_t4, am_tm1, am_nS, am_nP, am_nM, Int.ofNat_lt, Int.ofNat_le]
  refine am_callK [.int s] [] (d' := 0) (lim' := (am_tp σ, am_us σ)) rfl (by omega) (Nat.le_refl _) (Nat.le_refl _) rfl (Nat.le_of_ble_eq_true rfl) am_stat ?_
  refine c_isSession (fun _ _ => ?_)
  by_cases q : 0 ≤ s.toInt ∧ s.toInt < 4
  · rw [if_pos q]
    obtain ⟨i, hi, rfl⟩ := xx_in.of q
    obtain ⟨b1, b2, b3⟩ := hse i hi
    obtain ⟨d1, d2⟩ := hst (D.1 i) b2
    obtain ⟨e1, e2, e3, e4, e5, e6, e7, e8, e9, e10, e11, e12, e13, e14, e15⟩ := id b3
    have hX : xn_X σ (xx_se X i + 1) (D.2.2.2.2.2.1 i) := ⟨e5, e9, fun j c hj => ⟨hc i hi c (List.mem_of_getElem? hj), e10 j c hj⟩⟩
    have hseX : X + 547 ≤ xx_se X i ∧ xx_se X i + 43 ≤ X + 719 := by unfold xx_se; omega
    have res := hQ1 i hi rfl
    have sel := hSel i hi rfl
    generalize hdr : D.2.2.2.2.2.1 i = dr at *
    simp (disch := omega) only [ax_const, ax_iload, ax_lload, ax_aload, ax_istore, ax_astore, ax_iinc, ax_i2, ax_i2n, ax_l2, ax_lsh, ax_ii, ax_il, ax_li, ax_pop, ax_dup, ax_dup2, ax_if, ax_cmp, ax_acmp, ax_goto, ax_getI, ax_getR, ax_putI, ax_putR, ax_gets, ax_getsT, ax_aldI, ax_aldR, ax_astI, ax_astR, ax_alen, ax_ret, ax_aret, ax_vret, am_st, am_kl, List.getElem?_cons_zero, List.getElem?_cons_succ, List.set_cons_zero, List.set_cons_succ, Value.category, true_and, and_true, if_true, if_false, reduceCtorEq, Bool.false_eq_true, false_implies, forall_const, Option.some.injEq, exists_eq_left', exists_eq_left, Sum.inl.injEq, Sum.inr.injEq, Prod.mk.injEq, nI_toInt, nI_clamp, am_ix_nI, am_ix_0, am_ix_1, am_ix_2, am_ix_3, am_n0, am_n1, am_n2, am_n3, am_n4, am_t0, am_t1, am_t2, am_t3, am_t4, am_tm1, am_nS, am_nP, am_nM, Int.ofNat_lt, Int.ofNat_le, Option.toList_some, Option.toList_none, List.cons_append, List.nil_append, List.append_nil, o1, a1, a3, a5, a8, b1, e1, e3, e8]
    refine fun _ => ⟨hi, ?_⟩
    refine am_callK [.ref (X + 53), .ref (xx_se X i + 1), .int (nI dr.length)] [] (d' := 28) (lim' := (am_tp σ, am_us σ)) rfl (by omega) (Nat.le_refl _) (Nat.le_refl _) rfl (Nat.le_of_ble_eq_true rfl) (am_recv hp.1) ?_
    refine c_pparse hT hp hX (by omega) (fun σ1 f hf hZ hfr t1 u1 => ?_)
    have hO1 : xx_O g σ1 X D := h0.prs hfr hZ.P0
    have n1 : am_sh σ1 (xx_se X i) = some (.inl 5) := by rw [hfr.1]; exact e1
    -- the draft is emptied
    have hf2 : am_fm (fun b => xx_se X i ≤ b ∧ b < xx_se X i + 43) σ1 (am_wi σ1 (xx_se X i) 2 0) := am_fm.rf.wi ⟨by omega, by omega⟩
    have hO2 : xx_O g (am_wi σ1 (xx_se X i) 2 0) X (yDd D i) := by
      have b3' := (hO1.2.2.1 i hi).2.2
      obtain ⟨e1, e2, e3, e4, e5, e6, e7, e8, e9, e10, e11, e12, e13, e14, e15⟩ := b3'
      refine hO1.sess hi hf2 ⟨e1, e2, e3, e4, e5, e6, e7, ?_, Nat.zero_le _, fun j c hj => by simp at hj, ?_, ?_, e13, e14, fun r c hr hcc => ?_⟩
      · rw [am_i_wi, if_pos ⟨rfl, rfl⟩]; rfl
      · rw [am_i_wi, if_neg (fun z => absurd z.2 (by decide))]; exact e11
      · rw [am_i_wi, if_neg (fun z => absurd z.2 (by decide))]; exact e12
      · rw [am_i_wi, if_neg (fun z => by omega)]; exact e15 r c hr hcc
    have F2 : xx_fr X σ (am_wi σ1 (xx_se X i) 2 0) := (hfr.mono (P' := fun b => X ≤ b ∧ b < X + 719) (fun b x => by omega)).tr (hf2.mono (fun b x => by omega))
    have hz2 : ∀ j, am_i (am_wi σ1 (xx_se X i) 2 0) (X + 54) j = am_i σ1 (X + 54) j := fun j => by rw [am_i_wi, if_neg (fun z => by omega)]
    have hz14 : ∀ j, am_i (am_wi σ1 (xx_se X i) 2 0) (X + 54 + 14) j = am_i σ1 (X + 54 + 14) j := fun j => by rw [am_i_wi, if_neg (fun z => by omega)]
    simp (disch := omega) only [ax_const, ax_iload, ax_lload, ax_aload, ax_istore, ax_astore, ax_iinc, ax_i2, ax_i2n, ax_l2, ax_lsh, ax_ii, ax_il, ax_li, ax_pop, ax_dup, ax_dup2, ax_if, ax_cmp, ax_acmp, ax_goto, ax_getI, ax_getR, ax_putI, ax_putR, ax_gets, ax_getsT, ax_aldI, ax_aldR, ax_astI, ax_astR, ax_alen, ax_ret, ax_aret, ax_vret, am_st, am_kl, List.getElem?_cons_zero, List.getElem?_cons_succ, List.set_cons_zero, List.set_cons_succ, Value.category, true_and, and_true, if_true, if_false, reduceCtorEq, Bool.false_eq_true, false_implies, forall_const, Option.some.injEq, exists_eq_left', exists_eq_left, Sum.inl.injEq, Sum.inr.injEq, Prod.mk.injEq, Option.toList_some, Option.toList_none, List.cons_append, List.nil_append, List.append_nil, n1]
    have hO2h := hO2.1
    have hp2 : xp_P0 g (am_wi σ1 (xx_se X i) 2 0) (X + 53) := hO2.2.2.2.2.1
    have hK2 : xt_K g (am_wi σ1 (xx_se X i) 2 0) := hO2.2.2.2.1.1
    have b32 := (hO2.2.2.1 i hi).2.2
    have tp2 : am_tp (am_wi σ1 (xx_se X i) 2 0) = am_tp σ := t1
    have us2 : am_us (am_wi σ1 (xx_se X i) 2 0) = am_us σ := u1
    have hZv : ∀ j, 1 ≤ j → j < 7 → am_i (am_wi σ1 (xx_se X i) 2 0) (X + 54) j = (xp_parse (xn_sc dr 0) f).1 j := fun j x y => by rw [hz2]; exact hZ.2.1 j x y
    have hZ0 : am_r (am_wi σ1 (xx_se X i) 2 0) (X + 54) 0 = some (am_tk g (xp_hd (xn_sc dr 0) 0)) := hZ.2.2
    have hZm : ∀ t, t < 3 → am_i (am_wi σ1 (xx_se X i) 2 0) (X + 54 + 14) t = if (xp_parse (xn_sc dr 0) f).2.2.2.2.2.2 t then 1 else 0 := fun t ht => by rw [hz14]; exact hZ.1.2.2.2.2.2.2.2.2.2.2.1 t ht
    have hStm : ∀ t, (xp_parse (xn_sc dr 0) f).1 3 = nI t → t < 2 → xp_hd (xn_sc dr 0) 0 < 37 → xSt g (am_wi σ1 (xx_se X i) 2 0) X (xp_parse (xn_sc dr 0) f) (xp_hd (xn_sc dr 0) 0) t := fun t x y z => (hZ.St x y z).fm hf2 (fun b p q w => by omega)
    generalize am_wi σ1 (xx_se X i) 2 0 = σ2 at *
    cases hok : xp_ok (xn_sc dr 0) (xp_parse (xn_sc dr 0) f) with
    | false =>
      simp (disch := omega) only [ax_const, ax_iload, ax_lload, ax_aload, ax_istore, ax_astore, ax_iinc, ax_i2, ax_i2n, ax_l2, ax_lsh, ax_ii, ax_il, ax_li, ax_pop, ax_dup, ax_dup2, ax_if, ax_cmp, ax_acmp, ax_goto, ax_getI, ax_getR, ax_putI, ax_putR, ax_gets, ax_getsT, ax_aldI, ax_aldR, ax_astI, ax_astR, ax_alen, ax_ret, ax_aret, ax_vret, am_st, am_kl, List.getElem?_cons_zero, List.getElem?_cons_succ, List.set_cons_zero, List.set_cons_succ, Value.category, true_and, and_true, if_true, if_false, reduceCtorEq, Bool.false_eq_true, false_implies, forall_const, Option.some.injEq, exists_eq_left', exists_eq_left, Sum.inl.injEq, Sum.inr.injEq, Prod.mk.injEq, Option.toList_some, Option.toList_none, List.cons_append, List.nil_append, List.append_nil]
      exact ⟨⟨tp2, us2, res f (-2) _ σ2 hf (Or.inl ⟨hok, rfl, rfl⟩) hO2 F2⟩, fun z => absurd trivial z⟩
    | true =>
      have hFa := xFa e9 hf hok
      generalize ys_stm (xn_sc dr 0 ++ [(36, 0)]) (fun _ => 0) = S at hFa
      obtain ⟨T1, T2, T3⟩ := hFa.T
      obtain ⟨hw1, hw3⟩ := hFa.wr hf
      simp (disch := omega) only [ax_const, ax_iload, ax_lload, ax_aload, ax_istore, ax_astore, ax_iinc, ax_i2, ax_i2n, ax_l2, ax_lsh, ax_ii, ax_il, ax_li, ax_pop, ax_dup, ax_dup2, ax_if, ax_cmp, ax_acmp, ax_goto, ax_getI, ax_getR, ax_putI, ax_putR, ax_gets, ax_getsT, ax_aldI, ax_aldR, ax_astI, ax_astR, ax_alen, ax_ret, ax_aret, ax_vret, am_st, am_kl, List.getElem?_cons_zero, List.getElem?_cons_succ, List.set_cons_zero, List.set_cons_succ, Value.category, true_and, and_true, if_true, if_false, reduceCtorEq, Bool.false_eq_true, false_implies, forall_const, Option.some.injEq, exists_eq_left', exists_eq_left, Sum.inl.injEq, Sum.inr.injEq, Prod.mk.injEq, Option.toList_some, Option.toList_none, List.cons_append, List.nil_append, List.append_nil, o1, hO2h.1, hO2h.2.2.2.2.1, hp2.1, hp2.2.1]
      intro _
      refine am_callK [.ref (X + 54)] [] (d' := 2) (lim' := (am_tp σ2, am_us σ2)) rfl (by omega) (Nat.le_of_eq tp2) (Nat.le_of_eq us2) rfl (Nat.le_of_ble_eq_true rfl) (am_recv hp2.2.2.2.2.1.1) ?_
      refine c_swrong hK2 hp2.2.2.2.2.1 hZ0 (by omega) hZm (fun _ _ => ?_)
      rw [hZv 3 (by decide) (by decide), hZv 4 (by decide) (by decide), ← hw1]
      cases hkn : ykn S.2.2.2 (decide (xp_hd (xn_sc dr 0) 0 = 0)) S.2.2.1 with
      | true =>
        simp (disch := omega) only [ax_const, ax_iload, ax_lload, ax_aload, ax_istore, ax_astore, ax_iinc, ax_i2, ax_i2n, ax_l2, ax_lsh, ax_ii, ax_il, ax_li, ax_pop, ax_dup, ax_dup2, ax_if, ax_cmp, ax_acmp, ax_goto, ax_getI, ax_getR, ax_putI, ax_putR, ax_gets, ax_getsT, ax_aldI, ax_aldR, ax_astI, ax_astR, ax_alen, ax_ret, ax_aret, ax_vret, am_st, am_kl, List.getElem?_cons_zero, List.getElem?_cons_succ, List.set_cons_zero, List.set_cons_succ, Value.category, true_and, and_true, if_true, if_false, reduceCtorEq, Bool.false_eq_true, false_implies, forall_const, Option.some.injEq, exists_eq_left', exists_eq_left, Sum.inl.injEq, Sum.inr.injEq, Prod.mk.injEq, Option.toList_some, Option.toList_none, List.cons_append, List.nil_append, List.append_nil, o1]
        exact fun _ => ⟨tp2, us2, res f (-3) _ σ2 hf (Or.inr (Or.inl ⟨hok, by rw [← hw1]; exact hkn, rfl, rfl⟩)) hO2 F2⟩
      | false =>
        have hs3 := hStm _ hw3 T1 (by omega)
        simp (disch := omega) only [ax_const, ax_iload, ax_lload, ax_aload, ax_istore, ax_astore, ax_iinc, ax_i2, ax_i2n, ax_l2, ax_lsh, ax_ii, ax_il, ax_li, ax_pop, ax_dup, ax_dup2, ax_if, ax_cmp, ax_acmp, ax_goto, ax_getI, ax_getR, ax_putI, ax_putR, ax_gets, ax_getsT, ax_aldI, ax_aldR, ax_astI, ax_astR, ax_alen, ax_ret, ax_aret, ax_vret, am_st, am_kl, List.getElem?_cons_zero, List.getElem?_cons_succ, List.set_cons_zero, List.set_cons_succ, Value.category, true_and, and_true, if_true, if_false, reduceCtorEq, Bool.false_eq_true, false_implies, forall_const, Option.some.injEq, exists_eq_left', exists_eq_left, Sum.inl.injEq, Sum.inr.injEq, Prod.mk.injEq, Option.toList_some, Option.toList_none, List.cons_append, List.nil_append, List.append_nil, hO2h.1, hO2h.2.2.2.2.1, hp2.1, hp2.2.1, hs3.1.1, hZ0, b32.1, b32.2.1, (hO2.2.1 (D.1 i) b2).2.1.1, (hO2.2.1 (D.1 i) b2).2.2.1, hK2.inj (show xp_hd (xn_sc dr 0) 0 < 37 by omega) (show 3 < 37 by decide)]
        refine ⟨⟨fun c3 => ?_, fun c3 => ?_⟩, fun z => absurd trivial z⟩
        · have := sel f S (S.2.2.2 1) hf hFa hkn c3 σ2 hO2 (by rw [c3] at hs3; exact hs3) hZv F2
          have e : am_i σ2 (xx_st X ((yDd D i).1 i)) 0 = nI (D.1 i) := (hO2.2.1 (D.1 i) b2).2.2.1
          rw [e]
          exact ⟨(hO2.2.1 (D.1 i) b2).2.1.1, this⟩
        · have hex := hFa.ex hf hkn c3
          refine am_callK [.ref X, .ref (xx_st X (D.1 i)), .int (nI i)] [] (d' := 6) (lim' := (am_tp σ2, am_us σ2)) rfl (by omega) (Nat.le_of_eq tp2) (Nat.le_of_eq us2) rfl (Nat.le_of_ble_eq_true rfl) (am_recv hO2h.1) ?_
          have hwk := hw1
          rw [hkn] at hwk
          refine c_xchange (D := yDd D i) hO2 hi hs3 hex (fun z => hB.2 _ b2 z) (fun n1 n2 t3 u3 => ?_) (fun hown Bz L' hR σ3 hO3 f3 t3 u3 => ?_) (fun hfree Bz L' hR σ3 hO3 f3 t3 u3 => ?_)
          · simp (disch := omega) only [ax_const, ax_iload, ax_lload, ax_aload, ax_istore, ax_astore, ax_iinc, ax_i2, ax_i2n, ax_l2, ax_lsh, ax_ii, ax_il, ax_li, ax_pop, ax_dup, ax_dup2, ax_if, ax_cmp, ax_acmp, ax_goto, ax_getI, ax_getR, ax_putI, ax_putR, ax_gets, ax_getsT, ax_aldI, ax_aldR, ax_astI, ax_astR, ax_alen, ax_ret, ax_aret, ax_vret, am_st, am_kl, List.getElem?_cons_zero, List.getElem?_cons_succ, List.set_cons_zero, List.set_cons_succ, Value.category, true_and, and_true, if_true, if_false, reduceCtorEq, Bool.false_eq_true, false_implies, forall_const, Option.some.injEq, exists_eq_left', exists_eq_left, Sum.inl.injEq, Sum.inr.injEq, Prod.mk.injEq, Option.toList_some, Option.toList_none, List.cons_append, List.nil_append, List.append_nil]
            exact ⟨tp2, us2, res f (-6) _ σ2 hf (Or.inr (Or.inr ⟨hok, hwk.symm, c3, Or.inl ⟨n1, n2, rfl, rfl⟩⟩)) hO2 F2⟩
          · simp (disch := omega) only [ax_const, ax_iload, ax_lload, ax_aload, ax_istore, ax_astore, ax_iinc, ax_i2, ax_i2n, ax_l2, ax_lsh, ax_ii, ax_il, ax_li, ax_pop, ax_dup, ax_dup2, ax_if, ax_cmp, ax_acmp, ax_goto, ax_getI, ax_getR, ax_putI, ax_putR, ax_gets, ax_getsT, ax_aldI, ax_aldR, ax_astI, ax_astR, ax_alen, ax_ret, ax_aret, ax_vret, am_st, am_kl, List.getElem?_cons_zero, List.getElem?_cons_succ, List.set_cons_zero, List.set_cons_succ, Value.category, true_and, and_true, if_true, if_false, reduceCtorEq, Bool.false_eq_true, false_implies, forall_const, Option.some.injEq, exists_eq_left', exists_eq_left, Sum.inl.injEq, Sum.inr.injEq, Prod.mk.injEq, Option.toList_some, Option.toList_none, List.cons_append, List.nil_append, List.append_nil]
            exact ⟨t3.trans tp2, u3.trans us2, res f Bz _ σ3 hf (Or.inr (Or.inr ⟨hok, hwk.symm, c3, Or.inr (Or.inl ⟨hown, S.2.2.2 1, L', T1, hw3, hR, rfl⟩)⟩)) hO3 (F2.tr f3)⟩
          · simp (disch := omega) only [ax_const, ax_iload, ax_lload, ax_aload, ax_istore, ax_astore, ax_iinc, ax_i2, ax_i2n, ax_l2, ax_lsh, ax_ii, ax_il, ax_li, ax_pop, ax_dup, ax_dup2, ax_if, ax_cmp, ax_acmp, ax_goto, ax_getI, ax_getR, ax_putI, ax_putR, ax_gets, ax_getsT, ax_aldI, ax_aldR, ax_astI, ax_astR, ax_alen, ax_ret, ax_aret, ax_vret, am_st, am_kl, List.getElem?_cons_zero, List.getElem?_cons_succ, List.set_cons_zero, List.set_cons_succ, Value.category, true_and, and_true, if_true, if_false, reduceCtorEq, Bool.false_eq_true, false_implies, forall_const, Option.some.injEq, exists_eq_left', exists_eq_left, Sum.inl.injEq, Sum.inr.injEq, Prod.mk.injEq, Option.toList_some, Option.toList_none, List.cons_append, List.nil_append, List.append_nil]
            exact ⟨t3.trans tp2, u3.trans us2, res f _ _ σ3 hf (Or.inr (Or.inr ⟨hok, hwk.symm, c3, Or.inr (Or.inr ⟨hfree, S.2.2.2 1, Bz, L', T1, hw3, hR, rfl, rfl⟩)⟩)) hO3 (F2.tr f3)⟩
  · rw [if_neg q]
    simp (disch := omega) only [ax_const, ax_iload, ax_lload, ax_aload, ax_istore, ax_astore, ax_iinc, ax_i2, ax_i2n, ax_l2, ax_lsh, ax_ii, ax_il, ax_li, ax_pop, ax_dup, ax_dup2, ax_if, ax_cmp, ax_acmp, ax_goto, ax_getI, ax_getR, ax_putI, ax_putR, ax_gets, ax_getsT, ax_aldI, ax_aldR, ax_astI, ax_astR, ax_alen, ax_ret, ax_aret, ax_vret, am_st, am_kl, List.getElem?_cons_zero, List.getElem?_cons_succ, List.set_cons_zero, List.set_cons_succ, Value.category, true_and, and_true, if_true, if_false, reduceCtorEq, Bool.false_eq_true, false_implies, forall_const, Option.some.injEq, exists_eq_left', exists_eq_left, Sum.inl.injEq, Sum.inr.injEq, Prod.mk.injEq, nI_toInt, nI_clamp, am_ix_nI, am_ix_0, am_ix_1, am_ix_2, am_ix_3, am_n0, am_n1, am_n2, am_n3, am_n4, am_t0, am_t1, am_t2, am_t3, am_t4, am_tm1, am_nS, am_nP, am_nM, Int.ofNat_lt, Int.ofNat_le, Option.toList_some, Option.toList_none, List.cons_append, List.nil_append, List.append_nil]
    exact ⟨hQ0 q, fun z => absurd trivial z⟩
