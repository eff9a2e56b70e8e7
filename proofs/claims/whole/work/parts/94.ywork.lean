/-! joined, worked, holdsTrue -/
theorem c_yjoined {g : am_G} {l : Launch} {σ : am_S} {t : Nat} {x y : Int32} {Q : Option Value → am_S → Prop} (ht : t < 100) (hQ : Q (some (.int (yj t x y))) σ) : am_C g l mX10_joined 0 (am_tp σ, am_us σ) [.int (nI t), .int x, .int y] σ Q := by
  have l116 : ∀ v, (v = 0 ∨ v = 1) → v = yj t x y → am_W g l mX10_joined 0 (am_tp σ, am_us σ) Q 116 [some (.int (nI t)), some (.int x), some (.int y), none] [.int v] σ := by
    intro v hv e
    refine kX10_joined_116 ?_
    rcases hv with rfl | rfl
    · simp (disch := omega) only [ax_const, ax_iload, ax_lload, ax_aload, ax_istore, ax_astore, ax_iinc, ax_i2, ax_i2n, ax_l2, ax_lsh, ax_ii, ax_il, ax_li, ax_pop, ax_dup, ax_dup2, ax_if, ax_cmp, ax_acmp, ax_goto, ax_getI, ax_getR, ax_putI, ax_putR, ax_gets, ax_getsT, ax_aldI, ax_aldR, ax_astI, ax_astR, ax_alen, ax_ret, ax_aret, ax_vret, am_st, am_kl, List.getElem?_cons_zero, List.getElem?_cons_succ, List.set_cons_zero, List.set_cons_succ, Value.category, true_and, and_true, if_true, if_false, reduceCtorEq, Bool.false_eq_true, false_implies, forall_const, Option.some.injEq, exists_eq_left', exists_eq_left, Sum.inl.injEq, Sum.inr.injEq, Prod.mk.injEq]
      rw [← e] at hQ
      exact ⟨hQ, fun z => absurd trivial z⟩
    · have o1 : ¬ (1 : Int32) = 0 := by decide
      simp (disch := omega) only [ax_const, ax_iload, ax_lload, ax_aload, ax_istore, ax_astore, ax_iinc, ax_i2, ax_i2n, ax_l2, ax_lsh, ax_ii, ax_il, ax_li, ax_pop, ax_dup, ax_dup2, ax_if, ax_cmp, ax_acmp, ax_goto, ax_getI, ax_getR, ax_putI, ax_putR, ax_gets, ax_getsT, ax_aldI, ax_aldR, ax_astI, ax_astR, ax_alen, ax_ret, ax_aret, ax_vret, am_st, am_kl, List.getElem?_cons_zero, List.getElem?_cons_succ, List.set_cons_zero, List.set_cons_succ, Value.category, true_and, and_true, if_true, if_false, reduceCtorEq, Bool.false_eq_true, false_implies, forall_const, Option.some.injEq, exists_eq_left', exists_eq_left, Sum.inl.injEq, Sum.inr.injEq, Prod.mk.injEq, o1]
      rw [← e] at hQ
      exact fun _ => hQ
  refine am_C.go [some (.int (nI t)), some (.int x), some (.int y), none] (by decide +kernel) (Nat.le_of_ble_eq_true rfl) rfl (kX10_joined_0 ?_)
  unfold yj at hQ l116
  simp (disch := omega) only [ax_const, ax_iload, ax_lload, ax_aload, ax_istore, ax_astore, ax_iinc, ax_i2, ax_i2n, ax_l2, ax_lsh, ax_ii, ax_il, ax_li, ax_pop, ax_dup, ax_dup2, ax_if, ax_cmp, ax_acmp, ax_goto, ax_getI, ax_getR, ax_putI, ax_putR, ax_gets, ax_getsT, ax_aldI, ax_aldR, ax_astI, ax_astR, ax_alen, ax_ret, ax_aret, ax_vret, am_st, am_kl, List.getElem?_cons_zero, List.getElem?_cons_succ, List.set_cons_zero, List.set_cons_succ, Value.category, true_and, and_true, if_true, if_false, reduceCtorEq, Bool.false_eq_true, false_implies, forall_const, Option.some.injEq, exists_eq_left', exists_eq_left, Sum.inl.injEq, Sum.inr.injEq, Prod.mk.injEq, yl_2, yl_3, yl_4, yl_5, yl_7, yl_8, yl_9, yl_11, yl_eq]
  refine ⟨fun c => ?_, fun c3 => ⟨fun c => ?_, fun c4 => ⟨fun c => ?_, fun c5 => ⟨fun c => ⟨fun e => ?_, fun e => ?_⟩, fun c7 => ⟨fun c => ⟨fun e => ?_, fun e => ?_⟩, fun c8 => ⟨fun c => ⟨fun e => ?_, fun e => ?_⟩, fun c9 => ⟨fun c => ⟨fun e => ?_, fun e => ?_⟩, fun c11 => ⟨fun e => ?_, fun e => ?_⟩⟩⟩⟩⟩⟩⟩⟩
  · rwa [if_pos c] at hQ
  · rwa [if_neg c3, if_pos c] at hQ
  · rwa [if_neg c3, if_neg c4, if_pos c] at hQ
  · exact l116 1 (Or.inr rfl) (by rw [if_neg c3, if_neg c4, if_neg c5, if_pos c, if_pos e])
  · exact l116 0 (Or.inl rfl) (by rw [if_neg c3, if_neg c4, if_neg c5, if_pos c, if_neg e])
  · exact l116 1 (Or.inr rfl) (by rw [if_neg c3, if_neg c4, if_neg c5, if_neg c7, if_pos c, if_pos e])
  · exact l116 0 (Or.inl rfl) (by rw [if_neg c3, if_neg c4, if_neg c5, if_neg c7, if_pos c, if_neg e])
  · exact l116 1 (Or.inr rfl) (by rw [if_neg c3, if_neg c4, if_neg c5, if_neg c7, if_neg c8, if_pos c, if_pos e])
  · exact l116 0 (Or.inl rfl) (by rw [if_neg c3, if_neg c4, if_neg c5, if_neg c7, if_neg c8, if_pos c, if_neg e])
  · exact l116 1 (Or.inr rfl) (by rw [if_neg c3, if_neg c4, if_neg c5, if_neg c7, if_neg c8, if_neg c9, if_pos c, if_pos (show x + y = 2 from e)])
  · exact l116 0 (Or.inl rfl) (by rw [if_neg c3, if_neg c4, if_neg c5, if_neg c7, if_neg c8, if_neg c9, if_pos c, if_neg (show ¬ x + y = 2 from e)])
  · exact l116 1 (Or.inr rfl) (by rw [if_neg c3, if_neg c4, if_neg c5, if_neg c7, if_neg c8, if_neg c9, if_neg c11, if_pos e])
  · exact l116 0 (Or.inl rfl) (by rw [if_neg c3, if_neg c4, if_neg c5, if_neg c7, if_neg c8, if_neg c9, if_neg c11, if_neg e])
/-- what the rows that are looked at hold for the columns of a statement -/
def ykE (σ : am_S) (m : Nat) (T : Nat → Nat) (cs : yp_O) (env : Nat → Int32) : Prop := ∀ o, o < 12 → ((2 : Nat), nI o) ∈ cs → ∃ a, am_i σ (m + 22) (ykt T o) = nI a ∧ a < 48 ∧ am_i σ (m + 20) (192 * ykt T o + 4 * a + o % 4) = env o
theorem ykt_lt (T : Nat → Nat) (o : Nat) : ykt T o < 2 := by
  unfold ykt
  split
  · decide
  · split <;> decide
theorem ykm_d (T : Nat → Nat) (o : Nat) : ykm T o / 4 = ykt T o ∧ ykm T o % 4 = o % 4 := by
  unfold ykm
  omega
theorem ykE.f {σ σ' : am_S} {m : Nat} {T : Nat → Nat} {cs : yp_O} {env : Nat → Int32} (h : ykE σ m T cs env) (h1 : am_i σ' (m + 22) = am_i σ (m + 22)) (h2 : am_i σ' (m + 20) = am_i σ (m + 20)) : ykE σ' m T cs env := by
  unfold ykE
  rw [h1, h2]
  exact h
theorem ykI.f {σ σ' : am_S} {m i : Nat} {T : Nat → Nat} {o : yp_O} (h : ykI σ m i T o) (h0 : am_i σ' m 18 = am_i σ m 18) (h1 : am_i σ' (m + 12) = am_i σ (m + 12)) (h2 : am_i σ' (m + 13) = am_i σ (m + 13)) : ykI σ' m i T o := by
  unfold ykI
  rw [h0, h1, h2]
  exact h
theorem ywo_5 {g : am_G} {l : Launch} {m d tp us to : Nat} {T : Nat → Nat} {o : yp_O} {env : Nat → Int32} {v x1 : Int32} {Q : Option Value → am_S → Prop} {σ0 : am_S} (hd : 1 ≤ d) (hH0 : ym_H σ0 m) (ho : o.length ≤ 99) (hI0 : ykI σ0 m o.length T o) (hk : yk o) (hc : ∀ q, q ∈ o → q.1 < 100) (hE0 : ykE σ0 m T o env) (hto : to ≤ o.length) (h1 : am_tp σ0 = tp) (h2 : am_us σ0 = us)
    (hQ : ∀ σ', ym_f (fun b => b = m + 23) σ0 σ' → Q (some (.int v)) σ') :
    ∀ (rest : yp_O) (j : Nat) (st : List Int32) (σ : am_S) (z5 : Option Value), j + rest.length = to → (∀ i q, rest[i]? = some q → o[j + i]? = some q) → ym_run env rest st = some [v] → st.length ≤ j → xk_st σ (m + 23) st → ym_f (fun b => b = m + 23) σ0 σ → am_W g l mX10_worked d (tp, us) Q 5 [some (.ref m), some (.int x1), some (.int (nI to)), some (.int (nI st.length)), some (.int (nI j)), z5] [] σ := by
  intro rest
  induction rest with
  | nil =>
    intro j st σ z5 hj hr hrun hl hst hf
    have hH := hH0.f hf
    have hrun : some st = some [v] := hrun
    have hs : st = [v] := Option.some.inj hrun
    subst hs
    have ev : am_i σ (m + 23) 0 = v := hst 0 v rfl
    rw [List.length_nil] at hj
    refine kX10_worked_5 ?_
    simp (disch := omega) only [ax_const, ax_iload, ax_lload, ax_aload, ax_istore, ax_astore, ax_iinc, ax_i2, ax_i2n, ax_l2, ax_lsh, ax_ii, ax_il, ax_li, ax_pop, ax_dup, ax_dup2, ax_if, ax_cmp, ax_acmp, ax_goto, ax_getI, ax_getR, ax_putI, ax_putR, ax_gets, ax_getsT, ax_aldI, ax_aldR, ax_astI, ax_astR, ax_alen, ax_ret, ax_aret, ax_vret, am_st, am_kl, List.getElem?_cons_zero, List.getElem?_cons_succ, List.set_cons_zero, List.set_cons_succ, Value.category, true_and, and_true, if_true, if_false, reduceCtorEq, Bool.false_eq_true, false_implies, forall_const, Option.some.injEq, exists_eq_left', exists_eq_left, Sum.inl.injEq, Sum.inr.injEq, Prod.mk.injEq, nI_toInt, nI_clamp, am_ix_nI, am_ix_0, am_ix_1, am_ix_2, am_ix_3, am_n0, am_n1, am_n2, am_n3, am_n4, am_t0, am_t1, am_t2, am_t3, am_t4, am_tm1, am_nS, am_nP, am_nM, Int.ofNat_lt, Int.ofNat_le, hH.1, hH.r43, hH.s43, ev]
    exact ⟨fun z => by omega, fun _ => ⟨by decide, hf.tp.trans h1, hf.us.trans h2, hQ σ hf⟩⟩
  | cons q rest ih =>
    intro j st σ z5 hj hr hrun hl hst hf
    have hH := hH0.f hf
    rw [List.length_cons] at hj
    have hq : o[j]? = some q := hr 0 q rfl
    have hqm : q ∈ o := List.mem_of_getElem? hq
    have hjl : j < o.length := (List.getElem?_eq_some_iff.mp hq).1
    have hq100 := hc q hqm
    have hr' : ∀ i p, rest[i]? = some p → o[j + 1 + i]? = some p := fun i p hp => by
      have := hr (i + 1) p (by rw [List.getElem?_cons_succ]; exact hp)
      rw [show j + 1 + i = j + (i + 1) by omega]
      exact this
    rw [ym_run] at hrun
    have e12 : am_i σ (m + 12) j = nI q.1 := by rw [hf.i (a := m + 12) (by omega)]; exact (hI0.2 j q hq).1
    have e13 : am_i σ (m + 13) j = ykr T q := by
      rw [hf.i (a := m + 13) (by omega), (hI0.2 j q hq).2, if_pos hjl]
    obtain ⟨st', hs1, hs2⟩ := Option.bind_eq_some_iff.mp hrun
    have nx : ∀ σ' z5', st'.length ≤ j + 1 → xk_st σ' (m + 23) st' → ym_f (fun b => b = m + 23) σ0 σ' → am_W g l mX10_worked d (tp, us) Q 5 [some (.ref m), some (.int x1), some (.int (nI to)), some (.int (nI st'.length)), some (.int (nI (j + 1))), z5'] [] σ' := fun σ' z5' a b c => ih (j + 1) st' σ' z5' (by omega) hr' hs2 a b c
    unfold ym_st at hs1
    have push : ∀ (w : Int32) (st0 : List Int32), some (w :: st0) = some st' → st0.length ≤ j → xk_st σ (m + 23) st0 → ∀ z5', am_W g l mX10_worked d (tp, us) Q 5 [some (.ref m), some (.int x1), some (.int (nI to)), some (.int (nI (st0.length + 1))), some (.int (nI (j + 1))), z5'] [] (am_wi σ (m + 23) st0.length w) := by
      intro w st0 hw hl0 hst0 z5'
      have hw : st' = w :: st0 := (Option.some.inj hw).symm
      rw [hw] at nx
      exact nx _ z5' (by rw [List.length_cons]; omega) hst0.push (hf.wi (a := m + 23) rfl)
    have hd100 : st.length < 100 := by omega
    have d4 : ¬ (4 : Int32) = 0 := am_nz4
    have tp' := hf.tp.trans h1
    have us' := hf.us.trans h2
    refine kX10_worked_5 ?_
    by_cases c1 : q.1 = 1
    · rw [if_pos c1] at hs1
      rw [c1] at e12
      have e13 : am_i σ (m + 13) j = q.2 := by rw [e13]; unfold ykr; rw [if_neg (by omega)]
      simp (disch := omega) only [ax_const, ax_iload, ax_lload, ax_aload, ax_istore, ax_astore, ax_iinc, ax_i2, ax_i2n, ax_l2, ax_lsh, ax_ii, ax_il, ax_li, ax_pop, ax_dup, ax_dup2, ax_if, ax_cmp, ax_acmp, ax_goto, ax_getI, ax_getR, ax_putI, ax_putR, ax_gets, ax_getsT, ax_aldI, ax_aldR, ax_astI, ax_astR, ax_alen, ax_ret, ax_aret, ax_vret, am_st, am_kl, List.getElem?_cons_zero, List.getElem?_cons_succ, List.set_cons_zero, List.set_cons_succ, Value.category, true_and, and_true, if_true, if_false, reduceCtorEq, Bool.false_eq_true, false_implies, forall_const, Option.some.injEq, exists_eq_left', exists_eq_left, Sum.inl.injEq, Sum.inr.injEq, Prod.mk.injEq, nI_toInt, nI_clamp, am_ix_nI, am_ix_0, am_ix_1, am_ix_2, am_ix_3, am_n0, am_n1, am_n2, am_n3, am_n4, am_t0, am_t1, am_t2, am_t3, am_t4, am_tm1, am_nS, am_nP, am_nM, Int.ofNat_lt, Int.ofNat_le, hH.1, hH.r14, hH.s14, hH.r15, hH.s15, hH.r43, hH.s43, e12, e13, yl_2, yl_lt, nI_toInt]
      exact ⟨fun _ => ⟨by omega, fun z => absurd z (by decide), fun _ => ⟨fun _ => ⟨by omega, hd100, push _ _ hs1 hl hst _⟩, fun z => absurd rfl z⟩⟩, fun z => by omega⟩
    rw [if_neg c1] at hs1
    by_cases c2 : q.1 = 2
    · rw [if_pos c2] at hs1
      rw [c2] at e12
      obtain ⟨p, hp, ep⟩ := hk q hqm c2
      have ec : q.2.toNatClampNeg = p := by rw [ep]; exact nI_clamp (by omega)
      have e13 : am_i σ (m + 13) j = nI (ykm T p) := by rw [e13]; unfold ykr; rw [if_pos c2, ec]
      rw [ec] at hs1
      obtain ⟨at', g1, g2, g3⟩ := hE0 p hp (by rw [← c2, ← ep]; exact hqm)
      obtain ⟨k1, k2⟩ := ykm_d T p
      have k3 := ykt_lt T p
      have hml : ykm T p < 2 ^ 31 := by unfold ykm; omega
      have g1 : am_i σ (m + 22) (ykt T p) = nI at' := by rw [hf.i (a := m + 22) (by omega)]; exact g1
      have g3 : am_i σ (m + 20) (192 * ykt T p + 4 * at' + p % 4) = env p := by rw [hf.i (a := m + 20) (by omega)]; exact g3
      have y4 : (4 : Int32) = nI 4 := rfl
      have n21 : ¬ (2 : Nat) = 1 := by decide
      simp (disch := omega) only [ax_const, ax_iload, ax_lload, ax_aload, ax_istore, ax_astore, ax_iinc, ax_i2, ax_i2n, ax_l2, ax_lsh, ax_ii, ax_il, ax_li, ax_pop, ax_dup, ax_dup2, ax_if, ax_cmp, ax_acmp, ax_goto, ax_getI, ax_getR, ax_putI, ax_putR, ax_gets, ax_getsT, ax_aldI, ax_aldR, ax_astI, ax_astR, ax_alen, ax_ret, ax_aret, ax_vret, am_st, am_kl, List.getElem?_cons_zero, List.getElem?_cons_succ, List.set_cons_zero, List.set_cons_succ, Value.category, true_and, and_true, if_true, if_false, reduceCtorEq, Bool.false_eq_true, false_implies, forall_const, Option.some.injEq, exists_eq_left', exists_eq_left, Sum.inl.injEq, Sum.inr.injEq, Prod.mk.injEq, nI_toInt, nI_clamp, am_ix_nI, am_ix_0, am_ix_1, am_ix_2, am_ix_3, am_n0, am_n1, am_n2, am_n3, am_n4, am_t0, am_t1, am_t2, am_t3, am_t4, am_tm1, am_nS, am_nP, am_nM, Int.ofNat_lt, Int.ofNat_le, hH.1, hH.r14, hH.s14, hH.r15, hH.s15, hH.r40, hH.s40, hH.r42, hH.s42, hH.r43, hH.s43, e12, e13, yl_2, yl_lt, am_d4, k1, am_nz4, g1]
      refine ⟨fun _ => ⟨by omega, fun z => absurd z (by decide), fun _ => ⟨fun z => absurd z (by decide), fun _ => ?_⟩⟩, fun z => by omega⟩
      refine ⟨by omega, fun z => z, by omega, fun z => z, k3, kX10_worked_82 ?_⟩
      have ei : (192 : Int32) * nI (ykt T p) + 4 * nI at' + (nI (ykm T p) - nI (ykt T p) * 4) = nI (192 * ykt T p + 4 * at' + p % 4) := by
        have e := am_m4 hml
        rw [k1, k2] at e
        rw [e]
        show nI 192 * nI (ykt T p) + nI 4 * nI at' + nI (p % 4) = _
        rw [pk_mul, pk_mul, nI_add, nI_add]
      simp (disch := omega) only [ax_const, ax_iload, ax_lload, ax_aload, ax_istore, ax_astore, ax_iinc, ax_i2, ax_i2n, ax_l2, ax_lsh, ax_ii, ax_il, ax_li, ax_pop, ax_dup, ax_dup2, ax_if, ax_cmp, ax_acmp, ax_goto, ax_getI, ax_getR, ax_putI, ax_putR, ax_gets, ax_getsT, ax_aldI, ax_aldR, ax_astI, ax_astR, ax_alen, ax_ret, ax_aret, ax_vret, am_st, am_kl, List.getElem?_cons_zero, List.getElem?_cons_succ, List.set_cons_zero, List.set_cons_succ, Value.category, true_and, and_true, if_true, if_false, reduceCtorEq, Bool.false_eq_true, false_implies, forall_const, Option.some.injEq, exists_eq_left', exists_eq_left, Sum.inl.injEq, Sum.inr.injEq, Prod.mk.injEq, nI_toInt, nI_clamp, am_ix_nI, am_ix_0, am_ix_1, am_ix_2, am_ix_3, am_n0, am_n1, am_n2, am_n3, am_n4, am_t0, am_t1, am_t2, am_t3, am_t4, am_tm1, am_nS, am_nP, am_nM, Int.ofNat_lt, Int.ofNat_le, hH.1, hH.r15, hH.s15, e13, am_d4, k1, am_nz4, ei, hH.s40, hH.s43, g3]
      exact ⟨by omega, fun z => z, by omega, hd100, push _ _ hs1 hl hst _⟩
    rw [if_neg c2] at hs1
    by_cases c6 : q.1 = 6
    · rw [if_pos c6] at hs1
      rw [c6] at e12
      cases st with
      | nil => cases hs1
      | cons x st =>
        obtain ⟨p1, p2⟩ := hst.pop
        rw [List.length_cons] at hd100 hl
        have l113 : am_W g l mX10_worked d (tp, us) Q 113 [some (.ref m), some (.int x1), some (.int (nI to)), some (.int (nI (x :: st).length)), some (.int (nI j)), some (.int (nI 6))] [] σ := by
          refine kX10_worked_113 ?_
          simp (disch := omega) only [ax_const, ax_iload, ax_lload, ax_aload, ax_istore, ax_astore, ax_iinc, ax_i2, ax_i2n, ax_l2, ax_lsh, ax_ii, ax_il, ax_li, ax_pop, ax_dup, ax_dup2, ax_if, ax_cmp, ax_acmp, ax_goto, ax_getI, ax_getR, ax_putI, ax_putR, ax_gets, ax_getsT, ax_aldI, ax_aldR, ax_astI, ax_astR, ax_alen, ax_ret, ax_aret, ax_vret, am_st, am_kl, List.getElem?_cons_zero, List.getElem?_cons_succ, List.set_cons_zero, List.set_cons_succ, Value.category, true_and, and_true, if_true, if_false, reduceCtorEq, Bool.false_eq_true, false_implies, forall_const, Option.some.injEq, exists_eq_left', exists_eq_left, Sum.inl.injEq, Sum.inr.injEq, Prod.mk.injEq, nI_toInt, nI_clamp, am_ix_nI, am_ix_0, am_ix_1, am_ix_2, am_ix_3, am_n0, am_n1, am_n2, am_n3, am_n4, am_t0, am_t1, am_t2, am_t3, am_t4, am_tm1, am_nS, am_nP, am_nM, Int.ofNat_lt, Int.ofNat_le, hH.1, hH.r43, hH.s43, List.length_cons, yl_6, Nat.add_sub_cancel, p2]
          exact ⟨⟨by omega, by omega, push _ _ hs1 (by omega) p1 _⟩, fun z => absurd trivial z⟩
        simp (disch := omega) only [ax_const, ax_iload, ax_lload, ax_aload, ax_istore, ax_astore, ax_iinc, ax_i2, ax_i2n, ax_l2, ax_lsh, ax_ii, ax_il, ax_li, ax_pop, ax_dup, ax_dup2, ax_if, ax_cmp, ax_acmp, ax_goto, ax_getI, ax_getR, ax_putI, ax_putR, ax_gets, ax_getsT, ax_aldI, ax_aldR, ax_astI, ax_astR, ax_alen, ax_ret, ax_aret, ax_vret, am_st, am_kl, List.getElem?_cons_zero, List.getElem?_cons_succ, List.set_cons_zero, List.set_cons_succ, Value.category, true_and, and_true, if_true, if_false, reduceCtorEq, Bool.false_eq_true, false_implies, forall_const, Option.some.injEq, exists_eq_left', exists_eq_left, Sum.inl.injEq, Sum.inr.injEq, Prod.mk.injEq, nI_toInt, nI_clamp, am_ix_nI, am_ix_0, am_ix_1, am_ix_2, am_ix_3, am_n0, am_n1, am_n2, am_n3, am_n4, am_t0, am_t1, am_t2, am_t3, am_t4, am_tm1, am_nS, am_nP, am_nM, Int.ofNat_lt, Int.ofNat_le, hH.1, hH.r14, hH.s14, e12, yl_2, yl_6, yl_lt]
        exact ⟨fun _ => ⟨by omega, fun _ => ⟨l113, fun z => absurd trivial z⟩, fun z => absurd (by decide) z⟩, fun z => by omega⟩
    rw [if_neg c6] at hs1
    by_cases c10 : q.1 = 10
    · rw [if_pos c10] at hs1
      rw [c10] at e12
      cases st with
      | nil => cases hs1
      | cons x st =>
        obtain ⟨p1, p2⟩ := hst.pop
        rw [List.length_cons] at hd100 hl
        have l113 : am_W g l mX10_worked d (tp, us) Q 113 [some (.ref m), some (.int x1), some (.int (nI to)), some (.int (nI (x :: st).length)), some (.int (nI j)), some (.int (nI 10))] [] σ := by
          refine kX10_worked_113 ?_
          simp (disch := omega) only [ax_const, ax_iload, ax_lload, ax_aload, ax_istore, ax_astore, ax_iinc, ax_i2, ax_i2n, ax_l2, ax_lsh, ax_ii, ax_il, ax_li, ax_pop, ax_dup, ax_dup2, ax_if, ax_cmp, ax_acmp, ax_goto, ax_getI, ax_getR, ax_putI, ax_putR, ax_gets, ax_getsT, ax_aldI, ax_aldR, ax_astI, ax_astR, ax_alen, ax_ret, ax_aret, ax_vret, am_st, am_kl, List.getElem?_cons_zero, List.getElem?_cons_succ, List.set_cons_zero, List.set_cons_succ, Value.category, true_and, and_true, if_true, if_false, reduceCtorEq, Bool.false_eq_true, false_implies, forall_const, Option.some.injEq, exists_eq_left', exists_eq_left, Sum.inl.injEq, Sum.inr.injEq, Prod.mk.injEq, nI_toInt, nI_clamp, am_ix_nI, am_ix_0, am_ix_1, am_ix_2, am_ix_3, am_n0, am_n1, am_n2, am_n3, am_n4, am_t0, am_t1, am_t2, am_t3, am_t4, am_tm1, am_nS, am_nP, am_nM, Int.ofNat_lt, Int.ofNat_le, hH.1, hH.r43, hH.s43, List.length_cons, yl_6, yl_eq, Nat.add_sub_cancel, p2]
          exact ⟨fun z => absurd z (by decide), fun _ => ⟨by omega, by omega, push _ _ hs1 (by omega) p1 _⟩⟩
        simp (disch := omega) only [ax_const, ax_iload, ax_lload, ax_aload, ax_istore, ax_astore, ax_iinc, ax_i2, ax_i2n, ax_l2, ax_lsh, ax_ii, ax_il, ax_li, ax_pop, ax_dup, ax_dup2, ax_if, ax_cmp, ax_acmp, ax_goto, ax_getI, ax_getR, ax_putI, ax_putR, ax_gets, ax_getsT, ax_aldI, ax_aldR, ax_astI, ax_astR, ax_alen, ax_ret, ax_aret, ax_vret, am_st, am_kl, List.getElem?_cons_zero, List.getElem?_cons_succ, List.set_cons_zero, List.set_cons_succ, Value.category, true_and, and_true, if_true, if_false, reduceCtorEq, Bool.false_eq_true, false_implies, forall_const, Option.some.injEq, exists_eq_left', exists_eq_left, Sum.inl.injEq, Sum.inr.injEq, Prod.mk.injEq, nI_toInt, nI_clamp, am_ix_nI, am_ix_0, am_ix_1, am_ix_2, am_ix_3, am_n0, am_n1, am_n2, am_n3, am_n4, am_t0, am_t1, am_t2, am_t3, am_t4, am_tm1, am_nS, am_nP, am_nM, Int.ofNat_lt, Int.ofNat_le, hH.1, hH.r14, hH.s14, e12, yl_2, yl_6, yl_10, yl_lt, yl_eq]
        exact ⟨fun _ => ⟨by omega, fun _ => ⟨fun z => absurd z (by decide), fun _ => ⟨l113, fun z => absurd trivial z⟩⟩, fun z => absurd (by decide) z⟩, fun z => by omega⟩
    rw [if_neg c10] at hs1
    have c0 : q.1 ≠ 0 := fun e => by rw [if_pos e] at hs1; cases hs1
    rw [if_neg c0] at hs1
    cases st with
    | nil => cases hs1
    | cons y st =>
      cases st with
      | nil => cases hs1
      | cons x st =>
        obtain ⟨p1, p2⟩ := hst.pop
        obtain ⟨p3, p4⟩ := p1.pop
        simp only [List.length_cons] at hd100 hl p2 p4 ⊢
        simp (disch := omega) only [ax_const, ax_iload, ax_lload, ax_aload, ax_istore, ax_astore, ax_iinc, ax_i2, ax_i2n, ax_l2, ax_lsh, ax_ii, ax_il, ax_li, ax_pop, ax_dup, ax_dup2, ax_if, ax_cmp, ax_acmp, ax_goto, ax_getI, ax_getR, ax_putI, ax_putR, ax_gets, ax_getsT, ax_aldI, ax_aldR, ax_astI, ax_astR, ax_alen, ax_ret, ax_aret, ax_vret, am_st, am_kl, List.getElem?_cons_zero, List.getElem?_cons_succ, List.set_cons_zero, List.set_cons_succ, Value.category, true_and, and_true, if_true, if_false, reduceCtorEq, Bool.false_eq_true, false_implies, forall_const, Option.some.injEq, exists_eq_left', exists_eq_left, Sum.inl.injEq, Sum.inr.injEq, Prod.mk.injEq, nI_toInt, nI_clamp, am_ix_nI, am_ix_0, am_ix_1, am_ix_2, am_ix_3, am_n0, am_n1, am_n2, am_n3, am_n4, am_t0, am_t1, am_t2, am_t3, am_t4, am_tm1, am_nS, am_nP, am_nM, Int.ofNat_lt, Int.ofNat_le, hH.1, hH.r14, hH.s14, hH.r43, hH.s43, e12, yl_2, yl_6, yl_10, yl_lt, yl_eq, Nat.add_sub_cancel, p2, p4]
        refine ⟨fun _ => ⟨by omega, fun _ => ⟨fun z => absurd z c6, fun _ => ⟨fun z => absurd z c10, fun _ => ⟨by omega, by omega, ?_⟩⟩⟩, fun z => by omega⟩, fun z => by omega⟩
        refine am_callK [.int (nI q.1), .int x, .int y] [.int (nI st.length), .ref (m + 23)] (d' := 0) (lim' := (am_tp σ, am_us σ)) rfl (by omega) (Nat.le_of_eq tp') (Nat.le_of_eq us') rfl (Nat.le_of_ble_eq_true rfl) am_stat ?_
        refine c_yjoined hq100 (fun _ _ => ?_)
        simp (disch := omega) only [ax_const, ax_iload, ax_lload, ax_aload, ax_istore, ax_astore, ax_iinc, ax_i2, ax_i2n, ax_l2, ax_lsh, ax_ii, ax_il, ax_li, ax_pop, ax_dup, ax_dup2, ax_if, ax_cmp, ax_acmp, ax_goto, ax_getI, ax_getR, ax_putI, ax_putR, ax_gets, ax_getsT, ax_aldI, ax_aldR, ax_astI, ax_astR, ax_alen, ax_ret, ax_aret, ax_vret, am_st, am_kl, List.getElem?_cons_zero, List.getElem?_cons_succ, List.set_cons_zero, List.set_cons_succ, Value.category, true_and, and_true, if_true, if_false, reduceCtorEq, Bool.false_eq_true, false_implies, forall_const, Option.some.injEq, exists_eq_left', exists_eq_left, Sum.inl.injEq, Sum.inr.injEq, Prod.mk.injEq, Option.toList_some, Option.toList_none, List.cons_append, List.nil_append, List.append_nil, nI_toInt, nI_clamp, am_ix_nI, am_ix_0, am_ix_1, am_ix_2, am_ix_3, am_n0, am_n1, am_n2, am_n3, am_n4, am_t0, am_t1, am_t2, am_t3, am_t4, am_tm1, am_nS, am_nP, am_nM, Int.ofNat_lt, Int.ofNat_le, hH.s43]
        exact ⟨by omega, push _ _ hs1 (by omega) p3 _⟩
theorem c_ywork {g : am_G} {l : Launch} {σ : am_S} {m f to : Nat} {T : Nat → Nat} {o cm : yp_O} {env : Nat → Int32} {v : Int32} {Q : Option Value → am_S → Prop} (hH : ym_H σ m) (ho : o.length ≤ 99) (hI : ykI σ m o.length T o) (hk : yk o) (hc : ∀ q, q ∈ o → q.1 < 100) (hE : ykE σ m T o env) (hz : yz o f to cm) (hr : ym_run env cm [] = some [v])
    (hQ : ∀ σ', ym_f (fun b => b = m + 23) σ σ' → Q (some (.int v)) σ') : am_C g l mX10_worked 1 (am_tp σ, am_us σ) [.ref m, .int (nI f), .int (nI to)] σ Q := by
  obtain ⟨z1, z2, z3⟩ := hz
  refine am_C.go [some (.ref m), some (.int (nI f)), some (.int (nI to)), none, none, none] (by decide +kernel) (Nat.le_of_ble_eq_true rfl) rfl (kX10_worked_0 ?_)
  simp (disch := omega) only [ax_const, ax_iload, ax_lload, ax_aload, ax_istore, ax_astore, ax_iinc, ax_i2, ax_i2n, ax_l2, ax_lsh, ax_ii, ax_il, ax_li, ax_pop, ax_dup, ax_dup2, ax_if, ax_cmp, ax_acmp, ax_goto, ax_getI, ax_getR, ax_putI, ax_putR, ax_gets, ax_getsT, ax_aldI, ax_aldR, ax_astI, ax_astR, ax_alen, ax_ret, ax_aret, ax_vret, am_st, am_kl, List.getElem?_cons_zero, List.getElem?_cons_succ, List.set_cons_zero, List.set_cons_succ, Value.category, true_and, and_true, if_true, if_false, reduceCtorEq, Bool.false_eq_true, false_implies, forall_const, Option.some.injEq, exists_eq_left', exists_eq_left, Sum.inl.injEq, Sum.inr.injEq, Prod.mk.injEq]
  refine ywo_5 (σ0 := σ) (x1 := nI f) (Nat.le_refl _) hH ho hI hk hc hE z2 rfl rfl hQ cm f [] σ none ?_ (fun i q hi => ?_) hr (Nat.zero_le _) (fun j v hj => by simp at hj) .rf
  · rw [← z3, List.length_take, List.length_drop]
    omega
  · rw [← z3, List.getElem?_take] at hi
    split at hi
    · rw [List.getElem?_drop] at hi
      exact hi
    · cases hi
theorem c_yholds {g : am_G} {l : Launch} {σ : am_S} {m : Nat} {T : Nat → Nat} {o cm : yp_O} {env : Nat → Int32} {B : Bool} {Q : Option Value → am_S → Prop} (hH : ym_H σ m) (hR : yR σ m T) (ho : o.length ≤ 99) (hI : ykI σ m o.length T o) (hk : yk o) (hc : ∀ q, q ∈ o → q.1 < 100) (hE : ykE σ m T o env) (hw : (T 17 = 0 ∧ B = true) ∨ (T 17 = 1 ∧ yz o (T 18) (T 19) cm ∧ ym_run env cm [] = some [if B = true then 1 else 0]))
    (hQ : ∀ σ', ym_f (fun b => b = m + 23) σ σ' → Q (some (.int (if B = true then 1 else 0))) σ') : am_C g l mX10_holdsTrue 2 (am_tp σ, am_us σ) [.ref m] σ Q := by
  have o1 : ¬ (1 : Int32) = 0 := by decide
  have e32 : am_i σ m 32 = nI (T 17) := hR.2.2.2.2.2.1
  have e37 : am_i σ m 37 = nI (T 18) := hR.2.2.2.2.2.2.1
  have e38 : am_i σ m 38 = nI (T 19) := hR.2.2.2.2.2.2.2.1
  refine am_C.go [some (.ref m)] (by decide +kernel) (Nat.le_of_ble_eq_true rfl) rfl (kX10_holdsTrue_0 ?_)
  rcases hw with ⟨h0, rfl⟩ | ⟨h1, hz, hr⟩
  · rw [h0] at e32
    have e32 : am_i σ m 32 = 0 := e32
    simp (disch := omega) only [ax_const, ax_iload, ax_lload, ax_aload, ax_istore, ax_astore, ax_iinc, ax_i2, ax_i2n, ax_l2, ax_lsh, ax_ii, ax_il, ax_li, ax_pop, ax_dup, ax_dup2, ax_if, ax_cmp, ax_acmp, ax_goto, ax_getI, ax_getR, ax_putI, ax_putR, ax_gets, ax_getsT, ax_aldI, ax_aldR, ax_astI, ax_astR, ax_alen, ax_ret, ax_aret, ax_vret, am_st, am_kl, List.getElem?_cons_zero, List.getElem?_cons_succ, List.set_cons_zero, List.set_cons_succ, Value.category, true_and, and_true, if_true, if_false, reduceCtorEq, Bool.false_eq_true, false_implies, forall_const, Option.some.injEq, exists_eq_left', exists_eq_left, Sum.inl.injEq, Sum.inr.injEq, Prod.mk.injEq, hH.1, e32]
    exact ⟨⟨Or.inr trivial, hQ σ .rf⟩, fun z => absurd trivial z⟩
  · rw [h1] at e32
    have e32 : am_i σ m 32 = 1 := e32
    simp (disch := omega) only [ax_const, ax_iload, ax_lload, ax_aload, ax_istore, ax_astore, ax_iinc, ax_i2, ax_i2n, ax_l2, ax_lsh, ax_ii, ax_il, ax_li, ax_pop, ax_dup, ax_dup2, ax_if, ax_cmp, ax_acmp, ax_goto, ax_getI, ax_getR, ax_putI, ax_putR, ax_gets, ax_getsT, ax_aldI, ax_aldR, ax_astI, ax_astR, ax_alen, ax_ret, ax_aret, ax_vret, am_st, am_kl, List.getElem?_cons_zero, List.getElem?_cons_succ, List.set_cons_zero, List.set_cons_succ, Value.category, true_and, and_true, if_true, if_false, reduceCtorEq, Bool.false_eq_true, false_implies, forall_const, Option.some.injEq, exists_eq_left', exists_eq_left, Sum.inl.injEq, Sum.inr.injEq, Prod.mk.injEq, hH.1, e32, e37, e38, o1]
    intro _
    refine am_callK [.ref m, .int (nI (T 18)), .int (nI (T 19))] [] (d' := 1) (lim' := (am_tp σ, am_us σ)) rfl (by decide) (Nat.le_refl _) (Nat.le_refl _) rfl (Nat.le_of_ble_eq_true rfl) (am_recv hH.1) ?_
    refine c_ywork hH ho hI hk hc hE hz hr (fun σ' hf t1 u1 => ?_)
    have hq := hQ σ' hf
    cases B with
    | true =>
      rw [if_pos rfl] at hq ⊢
      simp (disch := omega) only [ax_const, ax_iload, ax_lload, ax_aload, ax_istore, ax_astore, ax_iinc, ax_i2, ax_i2n, ax_l2, ax_lsh, ax_ii, ax_il, ax_li, ax_pop, ax_dup, ax_dup2, ax_if, ax_cmp, ax_acmp, ax_goto, ax_getI, ax_getR, ax_putI, ax_putR, ax_gets, ax_getsT, ax_aldI, ax_aldR, ax_astI, ax_astR, ax_alen, ax_ret, ax_aret, ax_vret, am_st, am_kl, List.getElem?_cons_zero, List.getElem?_cons_succ, List.set_cons_zero, List.set_cons_succ, Value.category, true_and, and_true, if_true, if_false, reduceCtorEq, Bool.false_eq_true, false_implies, forall_const, Option.some.injEq, exists_eq_left', exists_eq_left, Sum.inl.injEq, Sum.inr.injEq, Prod.mk.injEq, Option.toList_some, Option.toList_none, List.cons_append, List.nil_append, List.append_nil]
      exact ⟨⟨Or.inr trivial, t1, u1, hq⟩, fun z => absurd trivial z⟩
    | false =>
      have o2 : ¬ (0 : Int32) = 1 := by decide
      rw [if_neg Bool.false_ne_true] at hq ⊢
      simp (disch := omega) only [ax_const, ax_iload, ax_lload, ax_aload, ax_istore, ax_astore, ax_iinc, ax_i2, ax_i2n, ax_l2, ax_lsh, ax_ii, ax_il, ax_li, ax_pop, ax_dup, ax_dup2, ax_if, ax_cmp, ax_acmp, ax_goto, ax_getI, ax_getR, ax_putI, ax_putR, ax_gets, ax_getsT, ax_aldI, ax_aldR, ax_astI, ax_astR, ax_alen, ax_ret, ax_aret, ax_vret, am_st, am_kl, List.getElem?_cons_zero, List.getElem?_cons_succ, List.set_cons_zero, List.set_cons_succ, Value.category, true_and, and_true, if_true, if_false, reduceCtorEq, Bool.false_eq_true, false_implies, forall_const, Option.some.injEq, exists_eq_left', exists_eq_left, Sum.inl.injEq, Sum.inr.injEq, Prod.mk.injEq, Option.toList_some, Option.toList_none, List.cons_append, List.nil_append, List.append_nil, o2]
      exact fun _ => ⟨Or.inl trivial, t1, u1, hq⟩
