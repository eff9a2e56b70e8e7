/-! select: gather, is it a summary -/
def ygs (T : Nat → Nat) : Nat → Nat → Bool
  | 0, _ => false
  | n + 1, c => decide (0 < T (5 + c)) || ygs T n (c + 1)
def ygS (T : Nat → Nat) : Bool := (decide (T 22 = 1) && decide (0 < T 8)) || ygs T (T 4) 0
theorem ygt_24 {g : am_G} {l : Launch} {σ : am_S} {m d : Nat} {T : Nat → Nat} {z3 z4 z5 : Option Value} {F : Bool} {Q : Option Value → am_S → Prop} (hH : ym_H σ m) (hR : yR σ m T) (hT4 : T 4 ≤ 3) (hT : ∀ c, c < T 4 → T (5 + c) < 3)
    (hK : am_W g l mX10_gather d (am_tp σ, am_us σ) Q 64 [some (.ref m), some (.int (yb F)), some (.int 0), z3, z4, z5] [] (am_wi σ m 45 0)) :
    ∀ (n c : Nat) (fl : Bool), n + c = T 4 → F = (fl || ygs T n c) → am_W g l mX10_gather d (am_tp σ, am_us σ) Q 24 [some (.ref m), some (.int (yb fl)), some (.int (nI c)), z3, z4, z5] [] σ := by
  have e27 : am_i σ m 27 = nI (T 4) := hR.2.2.2.1
  have o1 : ¬ (1 : Int32) = 0 := by decide
  intro n
  induction n with
  | zero =>
    intro c fl hn hF
    have hF : F = fl := by rw [hF]; show (fl || false) = fl; rw [Bool.or_false]
    subst hF
    have hc : c = T 4 := by omega
    subst hc
    refine kX10_gather_24 ?_
    simp (disch := omega) only [ax_const, ax_iload, ax_lload, ax_aload, ax_istore, ax_astore, ax_iinc, ax_i2, ax_i2n, ax_l2, ax_lsh, ax_ii, ax_il, ax_li, ax_pop, ax_dup, ax_dup2, ax_if, ax_cmp, ax_acmp, ax_goto, ax_getI, ax_getR, ax_putI, ax_putR, ax_gets, ax_getsT, ax_aldI, ax_aldR, ax_astI, ax_astR, ax_alen, ax_ret, ax_aret, ax_vret, am_st, am_kl, List.getElem?_cons_zero, List.getElem?_cons_succ, List.set_cons_zero, List.set_cons_succ, Value.category, true_and, and_true, if_true, if_false, reduceCtorEq, Bool.false_eq_true, false_implies, forall_const, Option.some.injEq, exists_eq_left', exists_eq_left, Sum.inl.injEq, Sum.inr.injEq, Prod.mk.injEq, nI_toInt, nI_clamp, am_ix_nI, am_ix_0, am_ix_1, am_ix_2, am_ix_3, am_n0, am_n1, am_n2, am_n3, am_n4, am_t0, am_t1, am_t2, am_t3, am_t4, am_tm1, am_nS, am_nP, am_nM, Int.ofNat_lt, Int.ofNat_le, hH.1, e27]
    exact ⟨fun z => by omega, fun _ => hK⟩
  | succ n ih =>
    intro c fl hn hF
    have hc : c < 4 := by omega
    obtain ⟨r1, r2, r3⟩ := hR.2.2.2.2.1 c hc
    have h3 := hT c (by omega)
    rw [ygs, ← Bool.or_assoc] at hF
    have nx := ih (c + 1) _ (by omega) hF
    refine kX10_gather_24 ?_
    cases fl with
    | true =>
      have e1 : yb true = 1 := rfl
      rw [Bool.true_or, e1] at nx
      rw [e1]
      simp (disch := omega) only [ax_const, ax_iload, ax_lload, ax_aload, ax_istore, ax_astore, ax_iinc, ax_i2, ax_i2n, ax_l2, ax_lsh, ax_ii, ax_il, ax_li, ax_pop, ax_dup, ax_dup2, ax_if, ax_cmp, ax_acmp, ax_goto, ax_getI, ax_getR, ax_putI, ax_putR, ax_gets, ax_getsT, ax_aldI, ax_aldR, ax_astI, ax_astR, ax_alen, ax_ret, ax_aret, ax_vret, am_st, am_kl, List.getElem?_cons_zero, List.getElem?_cons_succ, List.set_cons_zero, List.set_cons_succ, Value.category, true_and, and_true, if_true, if_false, reduceCtorEq, Bool.false_eq_true, false_implies, forall_const, Option.some.injEq, exists_eq_left', exists_eq_left, Sum.inl.injEq, Sum.inr.injEq, Prod.mk.injEq, nI_toInt, nI_clamp, am_ix_nI, am_ix_0, am_ix_1, am_ix_2, am_ix_3, am_n0, am_n1, am_n2, am_n3, am_n4, am_t0, am_t1, am_t2, am_t3, am_t4, am_tm1, am_nS, am_nP, am_nM, Int.ofNat_lt, Int.ofNat_le, hH.1, e27, o1]
      exact ⟨fun _ _ => nx, fun z => by omega⟩
    | false =>
      have e0 : yb false = 0 := rfl
      rw [Bool.false_or] at nx
      rw [e0]
      simp (disch := omega) only [ax_const, ax_iload, ax_lload, ax_aload, ax_istore, ax_astore, ax_iinc, ax_i2, ax_i2n, ax_l2, ax_lsh, ax_ii, ax_il, ax_li, ax_pop, ax_dup, ax_dup2, ax_if, ax_cmp, ax_acmp, ax_goto, ax_getI, ax_getR, ax_putI, ax_putR, ax_gets, ax_getsT, ax_aldI, ax_aldR, ax_astI, ax_astR, ax_alen, ax_ret, ax_aret, ax_vret, am_st, am_kl, List.getElem?_cons_zero, List.getElem?_cons_succ, List.set_cons_zero, List.set_cons_succ, Value.category, true_and, and_true, if_true, if_false, reduceCtorEq, Bool.false_eq_true, false_implies, forall_const, Option.some.injEq, exists_eq_left', exists_eq_left, Sum.inl.injEq, Sum.inr.injEq, Prod.mk.injEq, nI_toInt, nI_clamp, am_ix_nI, am_ix_0, am_ix_1, am_ix_2, am_ix_3, am_n0, am_n1, am_n2, am_n3, am_n4, am_t0, am_t1, am_t2, am_t3, am_t4, am_tm1, am_nS, am_nP, am_nM, Int.ofNat_lt, Int.ofNat_le, hH.1, hH.r29, hH.s29, e27, r1]
      refine ⟨fun _ => ⟨⟨hc, fun z => ?_, fun z => ?_⟩, fun z => absurd trivial z⟩, fun z => by omega⟩
      · rw [decide_eq_true (by omega)] at nx
        exact nx
      · rw [decide_eq_false (by omega)] at nx
        exact nx
theorem ygt_0 {g : am_G} {l : Launch} {σ : am_S} {m d : Nat} {T : Nat → Nat} {z3 z4 z5 : Option Value} {Q : Option Value → am_S → Prop} (hH : ym_H σ m) (hR : yR σ m T) (hT4 : T 4 ≤ 3) (hT22 : T 22 ≤ 1) (hT : ∀ c, c < T 4 → T (5 + c) < 3) (hT8 : T 22 = 1 → T 8 < 3)
    (hK : am_W g l mX10_gather d (am_tp σ, am_us σ) Q 64 [some (.ref m), some (.int (yb (ygS T))), some (.int 0), z3, z4, z5] [] (am_wi σ m 45 0)) : am_W g l mX10_gather d (am_tp σ, am_us σ) Q 0 [some (.ref m), none, none, z3, z4, z5] [] σ := by
  have e35 : am_i σ m 35 = nI (T 22) := hR.2.2.2.2.2.2.2.2.2.2.1
  have o1 : ¬ (1 : Int32) = 0 := by decide
  obtain ⟨r1, r2, r3⟩ := hR.2.2.2.2.1 3 (by decide)
  have go := fun fl (h : (decide (T 22 = 1) && decide (0 < T 8)) = fl) => ygt_24 (g := g) (l := l) (d := d) (z3 := z3) (z4 := z4) (z5 := z5) hH hR hT4 hT hK (T 4) 0 fl rfl (by unfold ygS; rw [h])
  refine kX10_gather_0 ?_
  by_cases c : T 22 = 1
  · have h3 : T (5 + 3) < 3 := hT8 c
    rw [c] at e35
    have e35 : am_i σ m 35 = 1 := e35
    simp (disch := omega) only [ax_const, ax_iload, ax_lload, ax_aload, ax_istore, ax_astore, ax_iinc, ax_i2, ax_i2n, ax_l2, ax_lsh, ax_ii, ax_il, ax_li, ax_pop, ax_dup, ax_dup2, ax_if, ax_cmp, ax_acmp, ax_goto, ax_getI, ax_getR, ax_putI, ax_putR, ax_gets, ax_getsT, ax_aldI, ax_aldR, ax_astI, ax_astR, ax_alen, ax_ret, ax_aret, ax_vret, am_st, am_kl, List.getElem?_cons_zero, List.getElem?_cons_succ, List.set_cons_zero, List.set_cons_succ, Value.category, true_and, and_true, if_true, if_false, reduceCtorEq, Bool.false_eq_true, false_implies, forall_const, Option.some.injEq, exists_eq_left', exists_eq_left, Sum.inl.injEq, Sum.inr.injEq, Prod.mk.injEq, nI_toInt, nI_clamp, am_ix_nI, am_ix_0, am_ix_1, am_ix_2, am_ix_3, am_n0, am_n1, am_n2, am_n3, am_n4, am_t0, am_t1, am_t2, am_t3, am_t4, am_tm1, am_nS, am_nP, am_nM, Int.ofNat_lt, Int.ofNat_le, hH.1, hH.r29, hH.s29, e35, o1, r1]
    refine fun _ => ⟨by decide, fun z => go true ?_, fun z => go false ?_⟩
    · rw [decide_eq_true c, decide_eq_true (show 0 < T 8 from by have : T (5 + 3) = T 8 := rfl; omega)]; rfl
    · rw [decide_eq_true c, decide_eq_false (show ¬ 0 < T 8 from by have : T (5 + 3) = T 8 := rfl; omega)]; rfl
  · have c0 : T 22 = 0 := by omega
    rw [c0] at e35
    have e35 : am_i σ m 35 = 0 := e35
    simp (disch := omega) only [ax_const, ax_iload, ax_lload, ax_aload, ax_istore, ax_astore, ax_iinc, ax_i2, ax_i2n, ax_l2, ax_lsh, ax_ii, ax_il, ax_li, ax_pop, ax_dup, ax_dup2, ax_if, ax_cmp, ax_acmp, ax_goto, ax_getI, ax_getR, ax_putI, ax_putR, ax_gets, ax_getsT, ax_aldI, ax_aldR, ax_astI, ax_astR, ax_alen, ax_ret, ax_aret, ax_vret, am_st, am_kl, List.getElem?_cons_zero, List.getElem?_cons_succ, List.set_cons_zero, List.set_cons_succ, Value.category, true_and, and_true, if_true, if_false, reduceCtorEq, Bool.false_eq_true, false_implies, forall_const, Option.some.injEq, exists_eq_left', exists_eq_left, Sum.inl.injEq, Sum.inr.injEq, Prod.mk.injEq, nI_toInt, nI_clamp, am_ix_nI, am_ix_0, am_ix_1, am_ix_2, am_ix_3, am_n0, am_n1, am_n2, am_n3, am_n4, am_t0, am_t1, am_t2, am_t3, am_t4, am_tm1, am_nS, am_nP, am_nM, Int.ofNat_lt, Int.ofNat_le, hH.1, e35]
    exact ⟨go false (by rw [decide_eq_false c]; rfl), fun z => absurd trivial z⟩
