/-! x: change -/
theorem xSt.fm {g : am_G} {P : Nat → Prop} {σ σ' : am_S} {X v t : Nat} {W : xp_W} (h : xSt g σ X W v t) (hf : am_fm P σ σ') (hP : ∀ b, X + 54 ≤ b → b < X + 85 → ¬ P b) : xSt g σ' X W v t := by
  obtain ⟨s1, s2, s3, s4, s5, s6, s7⟩ := h
  have e := hf.2.2.2 (X + 54) (hP _ (by omega) (by omega))
  exact ⟨s1.fm hf (hP _ (by omega) (by omega)) (hP _ (by omega) (by omega)) (hP _ (by omega) (by omega)), s2.fm hf (fun b x y z => absurd z (hP b (by omega) (by omega))), by rw [e.1]; exact s3, by rw [e.1]; exact s4, by rw [e.2]; exact s5, s6, s7⟩
theorem c_xchange {g : am_G} {l : Launch} {σ : am_S} {X i v t : Nat} {D : xx_D} {W : xp_W} {Q : Option Value → am_S → Prop} (h : xx_O g σ X D) (hi : i < 4) (hS : xSt g σ X W v t) (hx : xEx W v t) (hwf : D.2.2.2.1 (D.1 i) = -1 → D.2.2.1 (D.1 i) = D.2.1 (D.1 i))
    (hQ6 : D.2.2.2.1 (D.1 i) ≠ -1 → D.2.2.2.1 (D.1 i) ≠ nI i → Q (some (.int (-6))) σ)
    (hOwn : D.2.2.2.1 (D.1 i) = nI i → ∀ Bz L', yRs W v t (D.1 i) (xx_V D (D.1 i) t) (D.2.2.1 (D.1 i) t) Bz L' → ∀ σ', xx_O g σ' X (yD' D (D.1 i) t L') → am_fm (fun b => X ≤ b ∧ b < X + 719) σ σ' → Q (some (.int Bz)) σ')
    (hFre : D.2.2.2.1 (D.1 i) = -1 → ∀ Bz L', yRs W v t (D.1 i) (xx_V D (D.1 i) t) (D.2.1 (D.1 i) t) Bz L' → ∀ σ', xx_O g σ' X (yFre D (D.1 i) t Bz L').2 → am_fm (fun b => X ≤ b ∧ b < X + 719) σ σ' → Q (some (.int (yFre D (D.1 i) t Bz L').1)) σ') :
    am_C g l mX9_change 6 (am_tp σ, am_us σ) [.ref X, .ref (xx_st X (D.1 i)), .int (nI i)] σ Q := by
  have h0 := h
  obtain ⟨⟨a1, a2, a3, a4, a5, a6, a7, a8, a9⟩, hst, hse, hT, hp, ⟨p1, L1, h1⟩, -⟩ := h
  obtain ⟨b1, b2, b3⟩ := hse i hi
  obtain ⟨d1, d2⟩ := hst (D.1 i) b2
  have e0 : am_i σ (xx_st X (D.1 i)) 0 = nI (D.1 i) := d2.2.1
  have e3 : am_i σ (xx_st X (D.1 i)) 3 = D.2.2.2.1 (D.1 i) := d2.2.2.1
  have eS : am_sh σ (xx_st X (D.1 i)) = some (.inl 7) := d2.1.1
  have hst1 : X + 195 ≤ xx_st X (D.1 i) ∧ xx_st X (D.1 i) + 44 ≤ X + 547 := by unfold xx_st; omega
  have o5 : ¬ (0 : Int32) = -5 := by decide
  have l19 : (D.2.2.2.1 (D.1 i) = -1 ∨ D.2.2.2.1 (D.1 i) = nI i) → am_W g l mX9_change 6 (am_tp σ, am_us σ) Q 19 [some (.ref X), some (.ref (xx_st X (D.1 i))), some (.int (nI i)), none] [] σ := by
    intro hh
    obtain ⟨s1, s2, s3, s4, s5, s6, s7⟩ := id hS
    refine kX9_change_19 ?_
    simp (disch := omega) only [ax_const, ax_iload, ax_lload, ax_aload, ax_istore, ax_astore, ax_iinc, ax_i2, ax_i2n, ax_l2, ax_lsh, ax_ii, ax_il, ax_li, ax_pop, ax_dup, ax_dup2, ax_if, ax_cmp, ax_acmp, ax_goto, ax_getI, ax_getR, ax_putI, ax_putR, ax_gets, ax_getsT, ax_aldI, ax_aldR, ax_astI, ax_astR, ax_alen, ax_ret, ax_aret, ax_vret, am_st, am_kl, List.getElem?_cons_zero, List.getElem?_cons_succ, List.set_cons_zero, List.set_cons_succ, Value.category, true_and, and_true, if_true, if_false, reduceCtorEq, Bool.false_eq_true, false_implies, forall_const, Option.some.injEq, exists_eq_left', exists_eq_left, Sum.inl.injEq, Sum.inr.injEq, Prod.mk.injEq, nI_toInt, nI_clamp, am_ix_nI, am_ix_0, am_ix_1, am_ix_2, am_ix_3, am_n0, am_n1, am_n2, am_n3, am_n4, am_t0, am_t1, am_t2, am_t3, am_t4, am_tm1, am_nS, am_nP, am_nM, Int.ofNat_lt, Int.ofNat_le, a1, a4, a5, hp.1, hp.2.1, s1.1, s3, e0, eS]
    refine am_callK [.ref X, .int (nI (D.1 i)), .int (nI t), .ref (X + 3)] [] (d' := 3) (lim' := (am_tp σ, am_us σ)) rfl (by decide) (Nat.le_refl _) (Nat.le_refl _) rfl (Nat.le_of_ble_eq_true rfl) (am_recv a1) ?_
    refine c_xlook h0 (Nat.le_refl _) (by omega) b2 s6 h1 (fun σ1 p' hR f1 t1 u1 => ?_)
    have hO1 : xx_O g σ1 X D := h0.look (Or.inl rfl) f1 ⟨p', _, hR⟩
    have hS1 := hS.fm f1 (fun b x y => by omega)
    have hp1 : xp_P0 g σ1 (X + 53) := hO1.2.2.2.2.1
    simp (disch := omega) only [ax_const, ax_iload, ax_lload, ax_aload, ax_istore, ax_astore, ax_iinc, ax_i2, ax_i2n, ax_l2, ax_lsh, ax_ii, ax_il, ax_li, ax_pop, ax_dup, ax_dup2, ax_if, ax_cmp, ax_acmp, ax_goto, ax_getI, ax_getR, ax_putI, ax_putR, ax_gets, ax_getsT, ax_aldI, ax_aldR, ax_astI, ax_astR, ax_alen, ax_ret, ax_aret, ax_vret, am_st, am_kl, List.getElem?_cons_zero, List.getElem?_cons_succ, List.set_cons_zero, List.set_cons_succ, Value.category, true_and, and_true, if_true, if_false, reduceCtorEq, Bool.false_eq_true, false_implies, forall_const, Option.some.injEq, exists_eq_left', exists_eq_left, Sum.inl.injEq, Sum.inr.injEq, Prod.mk.injEq, Option.toList_some, Option.toList_none, List.cons_append, List.nil_append, List.append_nil, hO1.1.1, hO1.1.2.2.2.1, hO1.1.2.2.2.2.1, hp1.1, hp1.2.1]
    refine am_callK [.ref (xx_st X (D.1 i)), .ref (X + 54), .ref (X + 3)] [] (d' := 5) (lim' := (am_tp σ1, am_us σ1)) rfl (by decide) (Nat.le_of_eq t1) (Nat.le_of_eq u1) rfl (Nat.le_of_ble_eq_true rfl) (am_recv ((hO1.2.1 (D.1 i) b2).2.1.1)) ((c_xstc hO1 b2 hS1 hx hR).mono ?_)
    rintro o σ2 ⟨Bz, L', rfl, hRs, hO2, f2⟩ t2 u2
    have tp2 : am_tp σ2 = am_tp σ := t2.trans t1
    have us2 : am_us σ2 = am_us σ := u2.trans u1
    obtain ⟨w1, w2, w3, w4⟩ := yD'_h D (D.1 i) t L'
    have H2 := (hO2.2.1 (D.1 i) b2).2
    rw [w1, w2, w3, w4] at H2
    have hh2 : am_i σ2 (xx_st X (D.1 i)) 3 = D.2.2.2.1 (D.1 i) := H2.2.2.1
    have F12 : am_fm (fun b => X ≤ b ∧ b < X + 719) σ σ2 := (f1.mono (fun b x => by omega)).tr (f2.mono (fun b x => by unfold xo_P at x; omega))
    simp (disch := omega) only [ax_const, ax_iload, ax_lload, ax_aload, ax_istore, ax_astore, ax_iinc, ax_i2, ax_i2n, ax_l2, ax_lsh, ax_ii, ax_il, ax_li, ax_pop, ax_dup, ax_dup2, ax_if, ax_cmp, ax_acmp, ax_goto, ax_getI, ax_getR, ax_putI, ax_putR, ax_gets, ax_getsT, ax_aldI, ax_aldR, ax_astI, ax_astR, ax_alen, ax_ret, ax_aret, ax_vret, am_st, am_kl, List.getElem?_cons_zero, List.getElem?_cons_succ, List.set_cons_zero, List.set_cons_succ, Value.category, true_and, and_true, if_true, if_false, reduceCtorEq, Bool.false_eq_true, false_implies, forall_const, Option.some.injEq, exists_eq_left', exists_eq_left, Sum.inl.injEq, Sum.inr.injEq, Prod.mk.injEq, Option.toList_some, Option.toList_none, List.cons_append, List.nil_append, List.append_nil, H2.1.1, hh2]
    refine ⟨fun hfree => ?_, fun hown => ⟨tp2, us2, hOwn (hh.resolve_left hown) Bz L' hRs σ2 hO2 F12⟩⟩
    have hU := hwf hfree
    have eU' : (fun j => if j = t then L' else D.2.2.1 (D.1 i) j) = yU' D (D.1 i) t L' := by rw [hU]; rfl
    rw [eU'] at H2
    rw [hU] at hRs
    have fin := hFre hfree Bz L' hRs
    have hn30 := d2.2.2.2.2.1
    have hCs : ∀ t', t' < 2 → xo_ss (D.2.1 (D.1 i) t') := fun t' ht' => (d2.2.2.2.2.2.2 t' ht').2.2.1
    have hC6 : (D.2.1 (D.1 i) t).length ≤ 6 := by obtain ⟨⟨q, hq⟩, _⟩ := d2.2.2.2.2.2.2 t s6; exact hq.2.2.2.1
    have hneg : Bz.toInt < 0 → yU' D (D.1 i) t L' = D.2.1 (D.1 i) := fun hb => by
      have := hRs.neg hR.2.2.2.1 hC6 hb
      funext j
      unfold yU'
      split
      · rename_i e; rw [e, this]
      · rfl
    refine am_callK [.ref (xx_st X (D.1 i))] [] (d' := 4) (lim' := (am_tp σ2, am_us σ2)) rfl (by decide) (Nat.le_of_eq tp2) (Nat.le_of_eq us2) rfl (Nat.le_of_ble_eq_true rfl) (am_recv H2.1.1) ?_
    -- the store again, behind keep or drop
    have back : ∀ (σ3 : am_S) (C' : Nat → List xr_E) (n' : Nat) (D' : xx_D), xo_S σ3 (xx_st X (D.1 i)) (D.1 i) C' C' (-1) n' → am_fm (fun b => xx_st X (D.1 i) ≤ b ∧ b < xx_st X (D.1 i) + 44) σ2 σ3 → ((D' = D ∧ C' = D.2.1 (D.1 i) ∧ n' = D.2.2.2.2.1 (D.1 i)) ∨ D' = xx_ds D (D.1 i) C' C' (-1) n') → xx_O g σ3 X D' := by
      intro σ3 C' n' D' hs3 f3 hD'
      refine (hO2.store b2 f3 hs3).ext (fun q hq => ?_) (fun q hq => ?_)
      · by_cases e : q = D.1 i
        · subst e
          rw [xx_ds_eq.1, xx_ds_eq.2.1, xx_ds_eq.2.2.1, xx_ds_eq.2.2.2]
          rcases hD' with ⟨rfl, rfl, rfl⟩ | rfl
          · exact ⟨rfl, hU, hfree, rfl⟩
          · exact ⟨xx_ds_eq.1, xx_ds_eq.2.1, xx_ds_eq.2.2.1, xx_ds_eq.2.2.2⟩
        · rw [(xx_ds_ne e).1, (xx_ds_ne e).2.1, (xx_ds_ne e).2.2.1, (xx_ds_ne e).2.2.2]
          unfold yD'
          rw [(xx_ds_ne e).1, (xx_ds_ne e).2.1, (xx_ds_ne e).2.2.1, (xx_ds_ne e).2.2.2]
          rcases hD' with ⟨rfl, _, _⟩ | rfl
          · exact ⟨rfl, rfl, rfl, rfl⟩
          · exact ⟨(xx_ds_ne e).1, (xx_ds_ne e).2.1, (xx_ds_ne e).2.2.1, (xx_ds_ne e).2.2.2⟩
      · rcases hD' with ⟨rfl, _, _⟩ | rfl
        · exact ⟨rfl, rfl, rfl, rfl, rfl⟩
        · exact ⟨rfl, rfl, rfl, rfl, rfl⟩
    refine c_keep H2 (fun hroom _ _ => ?_) (fun hroom σ3 hs3 f3 t3 u3 => ?_)
    · have hpos : ¬ Bz.toInt < 0 := fun hb => by
        rw [hneg hb, xo_due_self hCs] at hroom
        omega
      unfold yFre at fin
      rw [if_neg hpos, if_pos hroom] at fin
      simp (disch := omega) only [ax_const, ax_iload, ax_lload, ax_aload, ax_istore, ax_astore, ax_iinc, ax_i2, ax_i2n, ax_l2, ax_lsh, ax_ii, ax_il, ax_li, ax_pop, ax_dup, ax_dup2, ax_if, ax_cmp, ax_acmp, ax_goto, ax_getI, ax_getR, ax_putI, ax_putR, ax_gets, ax_getsT, ax_aldI, ax_aldR, ax_astI, ax_astR, ax_alen, ax_ret, ax_aret, ax_vret, am_st, am_kl, List.getElem?_cons_zero, List.getElem?_cons_succ, List.set_cons_zero, List.set_cons_succ, Value.category, true_and, and_true, if_true, if_false, reduceCtorEq, Bool.false_eq_true, false_implies, forall_const, Option.some.injEq, exists_eq_left', exists_eq_left, Sum.inl.injEq, Sum.inr.injEq, Prod.mk.injEq, Option.toList_some, Option.toList_none, List.cons_append, List.nil_append, List.append_nil]
      refine ⟨?_, fun z => absurd trivial z⟩
      refine am_callK [.ref (xx_st X (D.1 i))] [] (d' := 4) (lim' := (am_tp σ2, am_us σ2)) rfl (by decide) (Nat.le_of_eq tp2) (Nat.le_of_eq us2) rfl (Nat.le_of_ble_eq_true rfl) (am_recv H2.1.1) ?_
      refine c_drop H2 (fun σ3 hs3 f3 t3 u3 => ?_)
      simp (disch := omega) only [ax_const, ax_iload, ax_lload, ax_aload, ax_istore, ax_astore, ax_iinc, ax_i2, ax_i2n, ax_l2, ax_lsh, ax_ii, ax_il, ax_li, ax_pop, ax_dup, ax_dup2, ax_if, ax_cmp, ax_acmp, ax_goto, ax_getI, ax_getR, ax_putI, ax_putR, ax_gets, ax_getsT, ax_aldI, ax_aldR, ax_astI, ax_astR, ax_alen, ax_ret, ax_aret, ax_vret, am_st, am_kl, List.getElem?_cons_zero, List.getElem?_cons_succ, List.set_cons_zero, List.set_cons_succ, Value.category, true_and, and_true, if_true, if_false, reduceCtorEq, Bool.false_eq_true, false_implies, forall_const, Option.some.injEq, exists_eq_left', exists_eq_left, Sum.inl.injEq, Sum.inr.injEq, Prod.mk.injEq, Option.toList_some, Option.toList_none, List.cons_append, List.nil_append, List.append_nil]
      exact ⟨t3.trans tp2, u3.trans us2, fin σ3 (back σ3 _ _ _ hs3 f3 (Or.inl ⟨rfl, rfl, rfl⟩)) (F12.tr (f3.mono (fun b x => by omega)))⟩
    · have hne5 : ¬ nI (xo_due (D.2.1 (D.1 i)) (yU' D (D.1 i) t L')) = -5 := fun z => by
        have := congrArg Int32.toInt z
        rw [nI_toInt (by omega)] at this
        have e5 : Int32.toInt (-5) = -5 := by decide
        omega
      simp (disch := omega) only [ax_const, ax_iload, ax_lload, ax_aload, ax_istore, ax_astore, ax_iinc, ax_i2, ax_i2n, ax_l2, ax_lsh, ax_ii, ax_il, ax_li, ax_pop, ax_dup, ax_dup2, ax_if, ax_cmp, ax_acmp, ax_goto, ax_getI, ax_getR, ax_putI, ax_putR, ax_gets, ax_getsT, ax_aldI, ax_aldR, ax_astI, ax_astR, ax_alen, ax_ret, ax_aret, ax_vret, am_st, am_kl, List.getElem?_cons_zero, List.getElem?_cons_succ, List.set_cons_zero, List.set_cons_succ, Value.category, true_and, and_true, if_true, if_false, reduceCtorEq, Bool.false_eq_true, false_implies, forall_const, Option.some.injEq, exists_eq_left', exists_eq_left, Sum.inl.injEq, Sum.inr.injEq, Prod.mk.injEq, Option.toList_some, Option.toList_none, List.cons_append, List.nil_append, List.append_nil, hne5]
      refine fun _ => ⟨t3.trans tp2, u3.trans us2, ?_⟩
      have F3 := F12.tr (f3.mono (P' := fun b => X ≤ b ∧ b < X + 719) (fun b x => by omega))
      unfold yFre at fin
      by_cases hb : Bz.toInt < 0
      · rw [if_pos hb] at fin
        rw [hneg hb, xo_due_self hCs] at hs3
        exact fin σ3 (back σ3 _ _ _ hs3 f3 (Or.inl ⟨rfl, rfl, rfl⟩)) F3
      · rw [if_neg hb, if_neg (by omega)] at fin
        exact fin σ3 (back σ3 _ _ _ hs3 f3 (Or.inr rfl)) F3
  refine am_C.go [some (.ref X), some (.ref (xx_st X (D.1 i))), some (.int (nI i)), none] (by decide +kernel) (Nat.le_of_ble_eq_true rfl) rfl (kX9_change_0 ?_)
  simp (disch := omega) only [ax_const, ax_iload, ax_lload, ax_aload, ax_istore, ax_astore, ax_iinc, ax_i2, ax_i2n, ax_l2, ax_lsh, ax_ii, ax_il, ax_li, ax_pop, ax_dup, ax_dup2, ax_if, ax_cmp, ax_acmp, ax_goto, ax_getI, ax_getR, ax_putI, ax_putR, ax_gets, ax_getsT, ax_aldI, ax_aldR, ax_astI, ax_astR, ax_alen, ax_ret, ax_aret, ax_vret, am_st, am_kl, List.getElem?_cons_zero, List.getElem?_cons_succ, List.set_cons_zero, List.set_cons_succ, Value.category, true_and, and_true, if_true, if_false, reduceCtorEq, Bool.false_eq_true, false_implies, forall_const, Option.some.injEq, exists_eq_left', exists_eq_left, Sum.inl.injEq, Sum.inr.injEq, Prod.mk.injEq, eS, e3]
  refine ⟨fun hfree => l19 (Or.inl hfree), fun hne => ⟨fun hown => l19 (Or.inr hown), fun hown => hQ6 hne hown⟩⟩
