/-! the reference: crash, cut, write -/
def ym_cm (m b : Nat) : Prop := b = m + 6 ∨ b = m + 9 ∨ b = m + 29
def ym_cJ (σ σ' : am_S) (m a b : Nat) : Prop := ym_f (ym_cm m) σ σ' ∧ (∀ i, am_i σ' (m + 6) i = if i < a then 0 else am_i σ (m + 6) i) ∧ (∀ i, am_i σ' (m + 9) i = if i < b then 0 else am_i σ (m + 9) i) ∧ ∀ i, am_i σ' (m + 29) i = if i < b then 0 else am_i σ (m + 29) i
theorem ym_cr_23 {g : am_G} {l : Launch} {σ : am_S} {m d a : Nat} {Q : Option Value → am_S → Prop} (H : ym_H σ m) (hQ : ∀ σ', ym_cJ σ σ' m a 4 → Q none σ') :
    ∀ (n t : Nat), n + t = 4 → ∀ σ', ym_cJ σ σ' m a t → am_W g l mX10_crash d (am_tp σ, am_us σ) Q 23 [some (.ref m), some (.int (nI t))] [] σ' := by
  intro n
  induction n with
  | zero =>
    intro t ht σ' hJ
    have e : t = 4 := by omega
    subst e
    refine kX10_crash_23 ?_
    simp (disch := omega) only [ax_const, ax_iload, ax_lload, ax_aload, ax_istore, ax_astore, ax_iinc, ax_i2, ax_i2n, ax_l2, ax_lsh, ax_ii, ax_il, ax_li, ax_pop, ax_dup, ax_dup2, ax_if, ax_cmp, ax_acmp, ax_goto, ax_getI, ax_getR, ax_putI, ax_putR, ax_gets, ax_getsT, ax_aldI, ax_aldR, ax_astI, ax_astR, ax_alen, ax_ret, ax_aret, ax_vret, am_st, am_kl, List.getElem?_cons_zero, List.getElem?_cons_succ, List.set_cons_zero, List.set_cons_succ, Value.category, true_and, and_true, if_true, if_false, reduceCtorEq, Bool.false_eq_true, false_implies, forall_const, Option.some.injEq, exists_eq_left', exists_eq_left, Sum.inl.injEq, Sum.inr.injEq, Prod.mk.injEq, nI_toInt, nI_clamp, am_ix_nI, am_ix_0, am_ix_1, am_ix_2, am_ix_3, am_n0, am_n1, am_n2, am_n3, am_n4, am_t0, am_t1, am_t2, am_t3, am_t4, am_tm1, am_nS, am_nP, am_nM, Int.ofNat_lt, Int.ofNat_le, yl_4, yl_lt]
    exact ⟨fun h => by omega, fun _ => ⟨hJ.1.tp, hJ.1.us, hQ σ' hJ⟩⟩
  | succ n ih =>
    intro t ht σ' hJ
    obtain ⟨hf, h6, h9, h29⟩ := hJ
    have H' : ym_H σ' m := H.f hf
    refine kX10_crash_23 ?_
    simp (disch := omega) only [ax_const, ax_iload, ax_lload, ax_aload, ax_istore, ax_astore, ax_iinc, ax_i2, ax_i2n, ax_l2, ax_lsh, ax_ii, ax_il, ax_li, ax_pop, ax_dup, ax_dup2, ax_if, ax_cmp, ax_acmp, ax_goto, ax_getI, ax_getR, ax_putI, ax_putR, ax_gets, ax_getsT, ax_aldI, ax_aldR, ax_astI, ax_astR, ax_alen, ax_ret, ax_aret, ax_vret, am_st, am_kl, List.getElem?_cons_zero, List.getElem?_cons_succ, List.set_cons_zero, List.set_cons_succ, Value.category, true_and, and_true, if_true, if_false, reduceCtorEq, Bool.false_eq_true, false_implies, forall_const, Option.some.injEq, exists_eq_left', exists_eq_left, Sum.inl.injEq, Sum.inr.injEq, Prod.mk.injEq, nI_toInt, nI_clamp, am_ix_nI, am_ix_0, am_ix_1, am_ix_2, am_ix_3, am_n0, am_n1, am_n2, am_n3, am_n4, am_t0, am_t1, am_t2, am_t3, am_t4, am_tm1, am_nS, am_nP, am_nM, Int.ofNat_lt, Int.ofNat_le, am_sh_wi, am_r_wi, am_tp_wi, am_us_wi, ym_is, ym_io, ym_ij, H'.1, H'.r8, H'.s8, H'.r51, H'.s51, yl_4, yl_lt]
    refine ⟨fun _ => ⟨by omega, by omega, ih (t + 1) (by omega) _ ⟨(hf.wi (a := m + 9) (Or.inr (Or.inl rfl))).wi (a := m + 29) (Or.inr (Or.inr rfl)), fun i => ?_, fun i => ?_, fun i => ?_⟩⟩, fun h => by omega⟩
    · rw [ym_io (by omega), ym_io (by omega)]; exact h6 i
    · rw [ym_io (by omega)]
      by_cases e : i = t
      · rw [e, ym_is, if_pos (by omega)]
      · rw [ym_ij e, h9]
        by_cases c : i < t
        · rw [if_pos c, if_pos (by omega)]
        · rw [if_neg c, if_neg (by omega)]
    · by_cases e : i = t
      · rw [e, ym_is, if_pos (by omega)]
      · rw [ym_ij e, ym_io (by omega), h29]
        by_cases c : i < t
        · rw [if_pos c, if_pos (by omega)]
        · rw [if_neg c, if_neg (by omega)]
theorem ym_cr_2 {g : am_G} {l : Launch} {σ : am_S} {m d : Nat} {Q : Option Value → am_S → Prop} (H : ym_H σ m) (hQ : ∀ σ', ym_cJ σ σ' m 8 4 → Q none σ') :
    ∀ (n t : Nat), n + t = 8 → ∀ σ', ym_cJ σ σ' m t 0 → am_W g l mX10_crash d (am_tp σ, am_us σ) Q 2 [some (.ref m), some (.int (nI t))] [] σ' := by
  intro n
  induction n with
  | zero =>
    intro t ht σ' hJ
    have e : t = 8 := by omega
    subst e
    refine kX10_crash_2 ?_
    simp (disch := omega) only [ax_const, ax_iload, ax_lload, ax_aload, ax_istore, ax_astore, ax_iinc, ax_i2, ax_i2n, ax_l2, ax_lsh, ax_ii, ax_il, ax_li, ax_pop, ax_dup, ax_dup2, ax_if, ax_cmp, ax_acmp, ax_goto, ax_getI, ax_getR, ax_putI, ax_putR, ax_gets, ax_getsT, ax_aldI, ax_aldR, ax_astI, ax_astR, ax_alen, ax_ret, ax_aret, ax_vret, am_st, am_kl, List.getElem?_cons_zero, List.getElem?_cons_succ, List.set_cons_zero, List.set_cons_succ, Value.category, true_and, and_true, if_true, if_false, reduceCtorEq, Bool.false_eq_true, false_implies, forall_const, Option.some.injEq, exists_eq_left', exists_eq_left, Sum.inl.injEq, Sum.inr.injEq, Prod.mk.injEq, nI_toInt, nI_clamp, am_ix_nI, am_ix_0, am_ix_1, am_ix_2, am_ix_3, am_n0, am_n1, am_n2, am_n3, am_n4, am_t0, am_t1, am_t2, am_t3, am_t4, am_tm1, am_nS, am_nP, am_nM, Int.ofNat_lt, Int.ofNat_le, yl_8, yl_lt]
    exact ⟨fun h => by omega, fun _ => ym_cr_23 H hQ 4 0 rfl σ' hJ⟩
  | succ n ih =>
    intro t ht σ' hJ
    obtain ⟨hf, h6, h9, h29⟩ := hJ
    have H' : ym_H σ' m := H.f hf
    refine kX10_crash_2 ?_
    simp (disch := omega) only [ax_const, ax_iload, ax_lload, ax_aload, ax_istore, ax_astore, ax_iinc, ax_i2, ax_i2n, ax_l2, ax_lsh, ax_ii, ax_il, ax_li, ax_pop, ax_dup, ax_dup2, ax_if, ax_cmp, ax_acmp, ax_goto, ax_getI, ax_getR, ax_putI, ax_putR, ax_gets, ax_getsT, ax_aldI, ax_aldR, ax_astI, ax_astR, ax_alen, ax_ret, ax_aret, ax_vret, am_st, am_kl, List.getElem?_cons_zero, List.getElem?_cons_succ, List.set_cons_zero, List.set_cons_succ, Value.category, true_and, and_true, if_true, if_false, reduceCtorEq, Bool.false_eq_true, false_implies, forall_const, Option.some.injEq, exists_eq_left', exists_eq_left, Sum.inl.injEq, Sum.inr.injEq, Prod.mk.injEq, nI_toInt, nI_clamp, am_ix_nI, am_ix_0, am_ix_1, am_ix_2, am_ix_3, am_n0, am_n1, am_n2, am_n3, am_n4, am_t0, am_t1, am_t2, am_t3, am_t4, am_tm1, am_nS, am_nP, am_nM, Int.ofNat_lt, Int.ofNat_le, am_sh_wi, am_r_wi, am_tp_wi, am_us_wi, ym_is, ym_io, ym_ij, H'.1, H'.r5, H'.s5, yl_8, yl_lt]
    refine ⟨fun _ => ⟨by omega, ih (t + 1) (by omega) _ ⟨hf.wi (a := m + 6) (Or.inl rfl), fun i => ?_, fun i => ?_, fun i => ?_⟩⟩, fun h => by omega⟩
    · by_cases e : i = t
      · rw [e, ym_is, if_pos (by omega)]
      · rw [ym_ij e, h6]
        by_cases c : i < t
        · rw [if_pos c, if_pos (by omega)]
        · rw [if_neg c, if_neg (by omega)]
    · rw [ym_io (by omega)]; exact h9 i
    · rw [ym_io (by omega)]; exact h29 i
theorem c_ycrash {g : am_G} {l : Launch} {σ : am_S} {m : Nat} {D : xx_D} {Q : Option Value → am_S → Prop} (h : ym_O σ m D) (hQ : ∀ σ', ym_O σ' m (xx_cr D) → ym_fr m σ σ' → Q none σ') : am_C g l mX10_crash 0 (am_tp σ, am_us σ) [.ref m] σ Q := by
  refine am_C.go [some (.ref m), none] (by decide +kernel) (Nat.le_of_ble_eq_true rfl) rfl (kX10_crash_0 ?_)
  simp (disch := omega) only [ax_const, ax_iload, ax_lload, ax_aload, ax_istore, ax_astore, ax_iinc, ax_i2, ax_i2n, ax_l2, ax_lsh, ax_ii, ax_il, ax_li, ax_pop, ax_dup, ax_dup2, ax_if, ax_cmp, ax_acmp, ax_goto, ax_getI, ax_getR, ax_putI, ax_putR, ax_gets, ax_getsT, ax_aldI, ax_aldR, ax_astI, ax_astR, ax_alen, ax_ret, ax_aret, ax_vret, am_st, am_kl, List.getElem?_cons_zero, List.getElem?_cons_succ, List.set_cons_zero, List.set_cons_succ, Value.category, true_and, and_true, if_true, if_false, reduceCtorEq, Bool.false_eq_true, false_implies, forall_const, Option.some.injEq, exists_eq_left', exists_eq_left, Sum.inl.injEq, Sum.inr.injEq, Prod.mk.injEq, nI_toInt, nI_clamp, am_ix_nI, am_ix_0, am_ix_1, am_ix_2, am_ix_3, am_n0, am_n1, am_n2, am_n3, am_n4, am_t0, am_t1, am_t2, am_t3, am_t4, am_tm1, am_nS, am_nP, am_nM, Int.ofNat_lt, Int.ofNat_le]
  refine ym_cr_2 h.1 (fun σ' hJ => hQ σ' ?_ (hJ.1.mono (fun b x => by unfold ym_cm at x; omega))) 8 0 rfl σ ⟨.rf, fun i => by rw [if_neg (by omega)], fun i => by rw [if_neg (by omega)], fun i => by rw [if_neg (by omega)]⟩
  obtain ⟨a1, a2, ⟨P, a3, a4⟩, a5, a6⟩ := h
  obtain ⟨hf, h6, h9, h29⟩ := hJ
  have n : ∀ b, b ≠ m + 6 → b ≠ m + 9 → b ≠ m + 29 → ¬ ym_cm m b := fun b x y z w => by unfold ym_cm at w; omega
  refine ⟨a1.f hf, by rw [hf.i (n _ (by omega) (by omega) (by omega))]; exact a2, ⟨P, a3.f hf (n _ (by omega) (by omega) (by omega)) (n _ (by omega) (by omega) (by omega)) (n _ (by omega) (by omega) (by omega)) (n _ (by omega) (by omega) (by omega)), fun lb hlb t ht => ⟨(a4 lb hlb t ht).1, fun z => absurd rfl z⟩⟩, fun lb hlb => ?_, fun i hi => ?_⟩
  · rw [h6, if_pos hlb, hf.i (n _ (by omega) (by omega) (by omega))]
    exact ⟨.free, (a5 lb hlb).2⟩
  · obtain ⟨s1, s2, s3, s4, s5, s6, s7, s8⟩ := a6 i hi
    show ym_Se σ' m i [] 0 (D.2.2.2.2.2.2.2.1 i) (D.2.2.2.2.2.2.2.2 i)
    refine ⟨by rw [h9, if_pos hi]; rfl, by decide, fun j c hj => by simp at hj, by rw [h29, if_pos hi]; rfl, by rw [hf.i (n _ (by omega) (by omega) (by omega))]; exact s5, by decide, s7, fun r c hr => absurd hr (Nat.not_lt_zero _)⟩
theorem ym_cut_87 {g : am_G} {l : Launch} {σ : am_S} {m d tp us due : Nat} {n : Int32} {D : xx_D} {s v : Value} {Q : Option Value → am_S → Prop} (hd : 1 ≤ d) (hdue : due < 1000) (h : ym_O σ m D) (h1 : am_tp σ = tp) (h2 : am_us σ = us) (hQ : ∀ σ', ym_O σ' m (xx_cr D) → ym_fr m σ σ' → Q (some (.int (if n.toInt < due then 0 else 1))) σ') :
    am_W g l mX10_cut d (tp, us) Q 87 [some (.ref m), some s, some (.int n), some v, some (.int (nI due))] [] σ := by
  refine kX10_cut_87 ?_
  simp (disch := omega) only [ax_const, ax_iload, ax_lload, ax_aload, ax_istore, ax_astore, ax_iinc, ax_i2, ax_i2n, ax_l2, ax_lsh, ax_ii, ax_il, ax_li, ax_pop, ax_dup, ax_dup2, ax_if, ax_cmp, ax_acmp, ax_goto, ax_getI, ax_getR, ax_putI, ax_putR, ax_gets, ax_getsT, ax_aldI, ax_aldR, ax_astI, ax_astR, ax_alen, ax_ret, ax_aret, ax_vret, am_st, am_kl, List.getElem?_cons_zero, List.getElem?_cons_succ, List.set_cons_zero, List.set_cons_succ, Value.category, true_and, and_true, if_true, if_false, reduceCtorEq, Bool.false_eq_true, false_implies, forall_const, Option.some.injEq, exists_eq_left', exists_eq_left, Sum.inl.injEq, Sum.inr.injEq, Prod.mk.injEq, nI_toInt, nI_clamp, am_ix_nI, am_ix_0, am_ix_1, am_ix_2, am_ix_3, am_n0, am_n1, am_n2, am_n3, am_n4, am_t0, am_t1, am_t2, am_t3, am_t4, am_tm1, am_nS, am_nP, am_nM, Int.ofNat_lt, Int.ofNat_le]
  refine am_callK [.ref m] [] (d' := 0) (lim' := (am_tp σ, am_us σ)) rfl (by omega) (by rw [h1]; exact Nat.le_refl _) (by rw [h2]; exact Nat.le_refl _) rfl (by decide) (am_recv h.1.1) ?_
  refine c_ycrash h (fun σ' hO hf t1 u1 => ?_)
  simp (disch := omega) only [ax_const, ax_iload, ax_lload, ax_aload, ax_istore, ax_astore, ax_iinc, ax_i2, ax_i2n, ax_l2, ax_lsh, ax_ii, ax_il, ax_li, ax_pop, ax_dup, ax_dup2, ax_if, ax_cmp, ax_acmp, ax_goto, ax_getI, ax_getR, ax_putI, ax_putR, ax_gets, ax_getsT, ax_aldI, ax_aldR, ax_astI, ax_astR, ax_alen, ax_ret, ax_aret, ax_vret, am_st, am_kl, List.getElem?_cons_zero, List.getElem?_cons_succ, List.set_cons_zero, List.set_cons_succ, Value.category, true_and, and_true, if_true, if_false, reduceCtorEq, Bool.false_eq_true, false_implies, forall_const, Option.some.injEq, exists_eq_left', exists_eq_left, Sum.inl.injEq, Sum.inr.injEq, Prod.mk.injEq, nI_toInt, nI_clamp, am_ix_nI, am_ix_0, am_ix_1, am_ix_2, am_ix_3, am_n0, am_n1, am_n2, am_n3, am_n4, am_t0, am_t1, am_t2, am_t3, am_t4, am_tm1, am_nS, am_nP, am_nM, Int.ofNat_lt, Int.ofNat_le, Option.toList_some, Option.toList_none, List.cons_append, List.nil_append, List.append_nil]
  have fin := hQ σ' hO hf
  refine ⟨fun c => ⟨t1.trans h1, u1.trans h2, ?_⟩, fun c => ⟨t1.trans h1, u1.trans h2, ?_⟩⟩
  · rwa [if_pos c] at fin
  · rwa [if_neg c] at fin
theorem c_ycut {g : am_G} {l : Launch} {σ : am_S} {m : Nat} {D : xx_D} {s n : Int32} {Q : Option Value → am_S → Prop} (h : ym_O σ m D) (hQ0 : ¬ xx_in s ∨ n.toInt < 0 → Q (some (.int (-1))) σ) (hQ1 : ∀ i, i < 4 → s = nI i → ¬ n.toInt < 0 → D.2.2.2.1 (D.1 i) ≠ nI i → Q (some (.int (-8))) σ)
    (hQ2 : ∀ i, i < 4 → s = nI i → ¬ n.toInt < 0 → D.2.2.2.1 (D.1 i) = nI i → 30 < D.2.2.2.2.1 (D.1 i) + xo_due (D.2.1 (D.1 i)) (D.2.2.1 (D.1 i)) → Q (some (.int (-5))) σ)
    (hQ3 : ∀ i, i < 4 → s = nI i → ¬ n.toInt < 0 → D.2.2.2.1 (D.1 i) = nI i → D.2.2.2.2.1 (D.1 i) + xo_due (D.2.1 (D.1 i)) (D.2.2.1 (D.1 i)) ≤ 30 → n.toInt < xo_due (D.2.1 (D.1 i)) (D.2.2.1 (D.1 i)) → ∀ σ', ym_O σ' m (xx_cr D) → ym_fr m σ σ' → Q (some (.int 0)) σ')
    (hQ4 : ∀ i, i < 4 → s = nI i → ¬ n.toInt < 0 → D.2.2.2.1 (D.1 i) = nI i → D.2.2.2.2.1 (D.1 i) + xo_due (D.2.1 (D.1 i)) (D.2.2.1 (D.1 i)) ≤ 30 → ¬ n.toInt < xo_due (D.2.1 (D.1 i)) (D.2.2.1 (D.1 i)) → ∀ σ', ym_O σ' m (xx_cr (xx_ds D (D.1 i) (D.2.2.1 (D.1 i)) (D.2.2.1 (D.1 i)) (-1) (D.2.2.2.2.1 (D.1 i) + xo_due (D.2.1 (D.1 i)) (D.2.2.1 (D.1 i))))) → ym_fr m σ σ' → Q (some (.int 1)) σ') : am_C g l mX10_cut 2 (am_tp σ, am_us σ) [.ref m, .int s, .int n] σ Q := by
  have H := h.1
  have h0 := h
  have o1 : ¬ (1 : Int32) = 0 := by decide
  refine am_C.go [some (.ref m), some (.int s), some (.int n), none, none] (by decide +kernel) (Nat.le_of_ble_eq_true rfl) rfl (kX10_cut_0 ?_)
  simp (disch := omega) only [ax_const, ax_iload, ax_lload, ax_aload, ax_istore, ax_astore, ax_iinc, ax_i2, ax_i2n, ax_l2, ax_lsh, ax_ii, ax_il, ax_li, ax_pop, ax_dup, ax_dup2, ax_if, ax_cmp, ax_acmp, ax_goto, ax_getI, ax_getR, ax_putI, ax_putR, ax_gets, ax_getsT, ax_aldI, ax_aldR, ax_astI, ax_astR, ax_alen, ax_ret, ax_aret, ax_vret, am_st, am_kl, List.getElem?_cons_zero, List.getElem?_cons_succ, List.set_cons_zero, List.set_cons_succ, Value.category, true_and, and_true, if_true, if_false, reduceCtorEq, Bool.false_eq_true, false_implies, forall_const, Option.some.injEq, exists_eq_left', exists_eq_left, Sum.inl.injEq, Sum.inr.injEq, Prod.mk.injEq, nI_toInt, nI_clamp, am_ix_nI, am_ix_0, am_ix_1, am_ix_2, am_ix_3, am_n0, am_n1, am_n2, am_n3, am_n4, am_t0, am_t1, am_t2, am_t3, am_t4, am_tm1, am_nS, am_nP, am_nM, Int.ofNat_lt, Int.ofNat_le]
  refine am_callK [.int s] [] (d' := 0) (lim' := (am_tp σ, am_us σ)) rfl (by decide) (Nat.le_refl _) (Nat.le_refl _) rfl (Nat.le_of_ble_eq_true rfl) am_stat ?_
  refine c_yisSession (fun _ _ => ?_)
  by_cases q : 0 ≤ s.toInt ∧ s.toInt < 4
  · rw [if_pos q]
    obtain ⟨i, hi, rfl⟩ := xx_in.of q
    obtain ⟨a1, a2, ⟨P, a3, a4⟩, a5, a6⟩ := h
    obtain ⟨b1, b2⟩ := a2 i hi
    obtain ⟨b3, b4, b5⟩ := a5 (D.1 i) b2
    simp (disch := omega) only [ax_const, ax_iload, ax_lload, ax_aload, ax_istore, ax_astore, ax_iinc, ax_i2, ax_i2n, ax_l2, ax_lsh, ax_ii, ax_il, ax_li, ax_pop, ax_dup, ax_dup2, ax_if, ax_cmp, ax_acmp, ax_goto, ax_getI, ax_getR, ax_putI, ax_putR, ax_gets, ax_getsT, ax_aldI, ax_aldR, ax_astI, ax_astR, ax_alen, ax_ret, ax_aret, ax_vret, am_st, am_kl, List.getElem?_cons_zero, List.getElem?_cons_succ, List.set_cons_zero, List.set_cons_succ, Value.category, true_and, and_true, if_true, if_false, reduceCtorEq, Bool.false_eq_true, false_implies, forall_const, Option.some.injEq, exists_eq_left', exists_eq_left, Sum.inl.injEq, Sum.inr.injEq, Prod.mk.injEq, nI_toInt, nI_clamp, am_ix_nI, am_ix_0, am_ix_1, am_ix_2, am_ix_3, am_n0, am_n1, am_n2, am_n3, am_n4, am_t0, am_t1, am_t2, am_t3, am_t4, am_tm1, am_nS, am_nP, am_nM, Int.ofNat_lt, Int.ofNat_le, Option.toList_some, Option.toList_none, List.cons_append, List.nil_append, List.append_nil, o1, H.1, H.r0, H.s0, H.r5, H.s5, b1, b3.eq hi]
    refine fun _ => ⟨fun hn => hQ0 (Or.inr hn), fun hn => ⟨hi, b2, fun c => ?_, fun c => hQ1 i hi rfl hn c⟩⟩
    have hne : D.2.2.2.1 (D.1 i) ≠ -1 := by rw [c]; exact nI_m1 (by omega)
    refine am_callK [.ref m, .int (nI (D.1 i))] [] (d' := 1) (lim' := (am_tp σ, am_us σ)) rfl (by decide) (Nat.le_refl _) (Nat.le_refl _) rfl (Nat.le_of_ble_eq_true rfl) (am_recv H.1) ?_
    refine c_yrecords H a3 b2 (fun _ _ => ?_)
    have ed : xo_due (ym_C P 0 (D.1 i)) (ym_C P 1 (D.1 i)) = xo_due (D.2.1 (D.1 i)) (D.2.2.1 (D.1 i)) := xo_due_eq (fun t ht => (a4 _ b2 t ht).1) (fun t ht => (a4 _ b2 t ht).2 hne)
    have hdl : xo_due (ym_C P 0 (D.1 i)) (ym_C P 1 (D.1 i)) ≤ 25 := by
      have d0 := ym_df_le a3 b2 (show 0 < 2 by decide)
      have d1 := ym_df_le a3 b2 (show 1 < 2 by decide)
      show xo_mk (xo_df _ _ 0 + (xo_df _ _ 1 + 0)) ≤ 25
      unfold xo_mk
      split <;> omega
    rw [ed] at hdl ⊢
    have en : (nI (xo_due (D.2.1 (D.1 i)) (D.2.2.1 (D.1 i)))).toInt = xo_due (D.2.1 (D.1 i)) (D.2.2.1 (D.1 i)) := nI_toInt (by omega)
    simp (disch := omega) only [ax_const, ax_iload, ax_lload, ax_aload, ax_istore, ax_astore, ax_iinc, ax_i2, ax_i2n, ax_l2, ax_lsh, ax_ii, ax_il, ax_li, ax_pop, ax_dup, ax_dup2, ax_if, ax_cmp, ax_acmp, ax_goto, ax_getI, ax_getR, ax_putI, ax_putR, ax_gets, ax_getsT, ax_aldI, ax_aldR, ax_astI, ax_astR, ax_alen, ax_ret, ax_aret, ax_vret, am_st, am_kl, List.getElem?_cons_zero, List.getElem?_cons_succ, List.set_cons_zero, List.set_cons_succ, Value.category, true_and, and_true, if_true, if_false, reduceCtorEq, Bool.false_eq_true, false_implies, forall_const, Option.some.injEq, exists_eq_left', exists_eq_left, Sum.inl.injEq, Sum.inr.injEq, Prod.mk.injEq, am_sh_wi, am_r_wi, am_tp_wi, am_us_wi, ym_is, ym_io, ym_ij, Option.toList_some, Option.toList_none, List.cons_append, List.nil_append, List.append_nil, o1, H.1, H.r5, H.s5, H.r6, H.s6, yl_30, b4, nI_add, yl_lt, nI_clamp, am_ix_nI, en]
    refine ⟨b2, fun z => hQ2 i hi rfl hn c z, fun z => ⟨fun w => ?_, fun w => ⟨b2, b2, ?_⟩⟩⟩
    · exact ym_cut_87 (by decide) (by omega) h0 rfl rfl (fun σ' hO hf => by rw [if_pos w]; exact hQ3 i hi rfl hn c (by omega) w σ' hO hf)
    · refine am_callK [.ref m, .int (nI (D.1 i)), .int (nI 1), .int (nI 0)] [] (d' := 1) (lim' := (am_tp σ, am_us σ)) rfl (by decide) (Nat.le_refl _) (Nat.le_refl _) rfl (Nat.le_of_ble_eq_true rfl) (am_recv H.1) ?_
      refine c_ycopy (H.w) (a3.f (Q := fun b => b = m + 7) (ym_f.rf.wi rfl) (by omega) (by omega) (by omega) (by omega)) b2 (by decide) (by decide) (by decide) (fun σ' hP hf t1 u1 => ?_)
      have H' : ym_H σ' m := (H.w (a := m + 7)).f hf
      have f1 : ym_f (fun b => m + 2 ≤ b ∧ b ≤ m + 7) σ (am_wi σ (m + 7) (D.1 i) (nI (D.2.2.2.2.1 (D.1 i) + xo_due (D.2.1 (D.1 i)) (D.2.2.1 (D.1 i))))) := ym_f.rf.wi (a := m + 7) (by omega)
      have f2 := f1.tr (hf.mono (fun b x => by omega))
      have hO1 : ym_O σ' m (xx_ds D (D.1 i) (D.2.2.1 (D.1 i)) (D.2.2.1 (D.1 i)) (nI i) (D.2.2.2.2.1 (D.1 i) + xo_due (D.2.1 (D.1 i)) (D.2.2.1 (D.1 i)))) := by
        refine h0.store a4 b2 f2 hP (fun t ht => ⟨?_, fun _ => ?_⟩) (fun lb hlb hne t ht => ⟨ym_cp_out b2 hlb ht (Or.inr hne), ym_cp_out b2 hlb ht (Or.inr hne)⟩) ?_ ?_ (by omega) (fun q hq => ?_) (fun q hq => ?_)
        · rw [ym_cp_in b2 ht (by decide)]; exact (a4 _ b2 t ht).2 hne
        · rw [ym_cp_out b2 b2 ht (Or.inl (by decide))]; exact (a4 _ b2 t ht).2 hne
        · rw [hf.i (by omega), ym_io (by omega), ← c]; exact b3
        · rw [hf.i (by omega), ym_is]
        · rw [hf.i (by omega), ym_io (by omega)]
        · rw [hf.i (by omega), ym_ij hq]
      simp (disch := omega) only [ax_const, ax_iload, ax_lload, ax_aload, ax_istore, ax_astore, ax_iinc, ax_i2, ax_i2n, ax_l2, ax_lsh, ax_ii, ax_il, ax_li, ax_pop, ax_dup, ax_dup2, ax_if, ax_cmp, ax_acmp, ax_goto, ax_getI, ax_getR, ax_putI, ax_putR, ax_gets, ax_getsT, ax_aldI, ax_aldR, ax_astI, ax_astR, ax_alen, ax_ret, ax_aret, ax_vret, am_st, am_kl, List.getElem?_cons_zero, List.getElem?_cons_succ, List.set_cons_zero, List.set_cons_succ, Value.category, true_and, and_true, if_true, if_false, reduceCtorEq, Bool.false_eq_true, false_implies, forall_const, Option.some.injEq, exists_eq_left', exists_eq_left, Sum.inl.injEq, Sum.inr.injEq, Prod.mk.injEq, Option.toList_some, Option.toList_none, List.cons_append, List.nil_append, List.append_nil]
      exact ym_cut_87 (by decide) (by omega) hO1 t1 u1 (fun σ2 hO hf2 => by rw [if_neg w]; exact hQ4 i hi rfl hn c (by omega) w σ2 hO ((f2.mono (fun b x => by omega)).tr hf2))
  · rw [if_neg q]
    simp (disch := omega) only [ax_const, ax_iload, ax_lload, ax_aload, ax_istore, ax_astore, ax_iinc, ax_i2, ax_i2n, ax_l2, ax_lsh, ax_ii, ax_il, ax_li, ax_pop, ax_dup, ax_dup2, ax_if, ax_cmp, ax_acmp, ax_goto, ax_getI, ax_getR, ax_putI, ax_putR, ax_gets, ax_getsT, ax_aldI, ax_aldR, ax_astI, ax_astR, ax_alen, ax_ret, ax_aret, ax_vret, am_st, am_kl, List.getElem?_cons_zero, List.getElem?_cons_succ, List.set_cons_zero, List.set_cons_succ, Value.category, true_and, and_true, if_true, if_false, reduceCtorEq, Bool.false_eq_true, false_implies, forall_const, Option.some.injEq, exists_eq_left', exists_eq_left, Sum.inl.injEq, Sum.inr.injEq, Prod.mk.injEq, nI_toInt, nI_clamp, am_ix_nI, am_ix_0, am_ix_1, am_ix_2, am_ix_3, am_n0, am_n1, am_n2, am_n3, am_n4, am_t0, am_t1, am_t2, am_t3, am_t4, am_tm1, am_nS, am_nP, am_nM, Int.ofNat_lt, Int.ofNat_le, Option.toList_some, Option.toList_none, List.cons_append, List.nil_append, List.append_nil]
    exact ⟨hQ0 (Or.inl q), fun z => absurd trivial z⟩
/-! write -/
theorem ym_O.sess {σ σ' : am_S} {m i rr rc : Nat} {D : xx_D} {dr : List Nat} {rv : Nat → Nat → Int32} (h : ym_O σ m D) (hf : ym_f (fun b => b = m + 8 ∨ b = m + 9 ∨ (m + 29 ≤ b ∧ b ≤ m + 31)) σ σ') (hs : ym_Se σ' m i dr rr rc rv) (ho : ∀ j, j < 4 → j ≠ i → ym_Se σ' m j (D.2.2.2.2.2.1 j) (D.2.2.2.2.2.2.1 j) (D.2.2.2.2.2.2.2.1 j) (D.2.2.2.2.2.2.2.2 j)) : ym_O σ' m (xx_es D i dr rr rc rv) := by
  obtain ⟨a1, a2, ⟨P, a3, a4⟩, a5, a6⟩ := h
  refine ⟨a1.f hf, by rw [hf.i (by omega)]; exact a2, ⟨P, a3.f hf (by omega) (by omega) (by omega) (by omega), a4⟩, by rw [hf.i (by omega), hf.i (by omega)]; exact a5, fun j hj => ?_⟩
  show ym_Se σ' m j (if j = i then dr else D.2.2.2.2.2.1 j) (if j = i then rr else D.2.2.2.2.2.2.1 j) (if j = i then rc else D.2.2.2.2.2.2.2.1 j) (if j = i then rv else D.2.2.2.2.2.2.2.2 j)
  by_cases e : j = i
  · rw [if_pos e, if_pos e, if_pos e, if_pos e, e]
    exact hs
  · rw [if_neg e, if_neg e, if_neg e, if_neg e]
    exact ho j hj e
theorem ym_wr_99 {g : am_G} {l : Launch} {σ : am_S} {m d i : Nat} {w : Int64} {dr : List Nat} {Q : Option Value → am_S → Prop} (H : ym_H σ m) (hi : i < 4)
    (hQ : ∀ σ', ym_f (fun b => b = m + 8 ∨ b = m + 9) σ σ' → (∀ j, am_i σ' (m + 9) j = if j = i then nI dr.length else am_i σ (m + 9) j) → (∀ q, q < 80 * i ∨ 80 * i + 80 ≤ q → am_i σ' (m + 8) q = am_i σ (m + 8) q) → (∀ j c, dr[j]? = some c → am_i σ' (m + 8) (80 * i + j) = nI c) → Q (some (.int 1)) σ') :
    ∀ (n : Nat), n ≤ 8 → ∀ (σ' : am_S) (dx : List Nat) (z1 : Int32) (z2 : Option Value), dx ++ xw_by (xe_b w) n = dr → dr.length ≤ 80 → ym_f (fun b => b = m + 8 ∨ b = m + 9) σ σ' → (∀ j, am_i σ' (m + 9) j = if j = i then nI dx.length else am_i σ (m + 9) j) → (∀ q, q < 80 * i ∨ 80 * i + 80 ≤ q → am_i σ' (m + 8) q = am_i σ (m + 8) q) → (∀ j c, dx[j]? = some c → am_i σ' (m + 8) (80 * i + j) = nI c) →
      am_W g l mX10_write d (am_tp σ, am_us σ) Q 99 [some (.ref m), some (.int (nI i)), some (.long w), none, some (.int z1), some (.int (nI (8 * n) + (-8))), z2] [] σ' := by
  intro n
  induction n with
  | zero =>
    intro hn σ' dx z1 z2 hd hl hf h9 ho hc
    rw [xw_by, List.append_nil] at hd
    subst hd
    have o1 : (nI (8 * 0) + (-8)).toInt < 0 := by decide
    refine kX10_write_99 ?_
    simp (disch := omega) only [ax_const, ax_iload, ax_lload, ax_aload, ax_istore, ax_astore, ax_iinc, ax_i2, ax_i2n, ax_l2, ax_lsh, ax_ii, ax_il, ax_li, ax_pop, ax_dup, ax_dup2, ax_if, ax_cmp, ax_acmp, ax_goto, ax_getI, ax_getR, ax_putI, ax_putR, ax_gets, ax_getsT, ax_aldI, ax_aldR, ax_astI, ax_astR, ax_alen, ax_ret, ax_aret, ax_vret, am_st, am_kl, List.getElem?_cons_zero, List.getElem?_cons_succ, List.set_cons_zero, List.set_cons_succ, Value.category, true_and, and_true, if_true, if_false, reduceCtorEq, Bool.false_eq_true, false_implies, forall_const, Option.some.injEq, exists_eq_left', exists_eq_left, Sum.inl.injEq, Sum.inr.injEq, Prod.mk.injEq, o1]
    exact ⟨⟨by simp, hf.tp, hf.us, hQ σ' hf h9 ho hc⟩, fun z => absurd trivial z⟩
  | succ n ih =>
    intro hn σ' dx z1 z2 hd hl hf h9 ho hc
    have H' : ym_H σ' m := H.f hf
    have hb := xe_blt w n
    have byt := xw_byte w n (by omega)
    have e8 : nI (8 * n) - 8 = nI (8 * n) + (-8) := Int32.sub_eq_add_neg _ _
    have hdl : dx.length + (xw_by (xe_b w) (n + 1)).length ≤ 80 := by rw [← List.length_append, hd]; exact hl
    rw [xw_by] at hd hdl
    refine kX10_write_99 ?_
    rw [xe_e0]
    have b0 : xe_b w n < 2 ^ 31 := by omega
    have t9 : am_i σ' (m + 9) i = nI dx.length := by rw [h9, if_pos rfl]
    simp (disch := omega) only [ax_const, ax_iload, ax_lload, ax_aload, ax_istore, ax_astore, ax_iinc, ax_i2, ax_i2n, ax_l2, ax_lsh, ax_ii, ax_il, ax_li, ax_pop, ax_dup, ax_dup2, ax_if, ax_cmp, ax_acmp, ax_goto, ax_getI, ax_getR, ax_putI, ax_putR, ax_gets, ax_getsT, ax_aldI, ax_aldR, ax_astI, ax_astR, ax_alen, ax_ret, ax_aret, ax_vret, am_st, am_kl, List.getElem?_cons_zero, List.getElem?_cons_succ, List.set_cons_zero, List.set_cons_succ, Value.category, true_and, and_true, if_true, if_false, reduceCtorEq, Bool.false_eq_true, false_implies, forall_const, Option.some.injEq, exists_eq_left', exists_eq_left, Sum.inl.injEq, Sum.inr.injEq, Prod.mk.injEq, yl_tn]
    intro _
    rw [byt]
    refine ⟨fun z => ?_, fun z => ?_⟩
    · have z : xe_b w n = 0 := (nI_inj (b := 0) b0 (by omega)).mp z
      rw [if_pos z] at hd hdl
      refine kX10_write_149 ?_
      simp (disch := omega) only [ax_const, ax_iload, ax_lload, ax_aload, ax_istore, ax_astore, ax_iinc, ax_i2, ax_i2n, ax_l2, ax_lsh, ax_ii, ax_il, ax_li, ax_pop, ax_dup, ax_dup2, ax_if, ax_cmp, ax_acmp, ax_goto, ax_getI, ax_getR, ax_putI, ax_putR, ax_gets, ax_getsT, ax_aldI, ax_aldR, ax_astI, ax_astR, ax_alen, ax_ret, ax_aret, ax_vret, am_st, am_kl, List.getElem?_cons_zero, List.getElem?_cons_succ, List.set_cons_zero, List.set_cons_succ, Value.category, true_and, and_true, if_true, if_false, reduceCtorEq, Bool.false_eq_true, false_implies, forall_const, Option.some.injEq, exists_eq_left', exists_eq_left, Sum.inl.injEq, Sum.inr.injEq, Prod.mk.injEq, e8]
      exact ih (by omega) σ' dx z1 _ hd hl hf h9 ho hc
    · have z : xe_b w n ≠ 0 := fun q => z ((nI_inj (b := 0) b0 (by omega)).mpr q)
      rw [if_neg z] at hd hdl
      rw [List.length_cons] at hdl
      have hix : 80 * i + dx.length < 320 := by omega
      simp (disch := omega) only [ax_const, ax_iload, ax_lload, ax_aload, ax_istore, ax_astore, ax_iinc, ax_i2, ax_i2n, ax_l2, ax_lsh, ax_ii, ax_il, ax_li, ax_pop, ax_dup, ax_dup2, ax_if, ax_cmp, ax_acmp, ax_goto, ax_getI, ax_getR, ax_putI, ax_putR, ax_gets, ax_getsT, ax_aldI, ax_aldR, ax_astI, ax_astR, ax_alen, ax_ret, ax_aret, ax_vret, am_st, am_kl, List.getElem?_cons_zero, List.getElem?_cons_succ, List.set_cons_zero, List.set_cons_succ, Value.category, true_and, and_true, if_true, if_false, reduceCtorEq, Bool.false_eq_true, false_implies, forall_const, Option.some.injEq, exists_eq_left', exists_eq_left, Sum.inl.injEq, Sum.inr.injEq, Prod.mk.injEq, nI_toInt, nI_clamp, am_ix_nI, am_ix_0, am_ix_1, am_ix_2, am_ix_3, am_n0, am_n1, am_n2, am_n3, am_n4, am_t0, am_t1, am_t2, am_t3, am_t4, am_tm1, am_nS, am_nP, am_nM, Int.ofNat_lt, Int.ofNat_le, am_sh_wi, am_r_wi, am_tp_wi, am_us_wi, ym_is, ym_io, ym_ij, H'.1, H'.r7, H'.s7, H'.r8, H'.s8, yl_80, pk_mul, nI_add, t9]
      refine ⟨hi, hix, hi, hi, kX10_write_149 ?_⟩
      rw [xe_char hb]
      simp (disch := omega) only [ax_const, ax_iload, ax_lload, ax_aload, ax_istore, ax_astore, ax_iinc, ax_i2, ax_i2n, ax_l2, ax_lsh, ax_ii, ax_il, ax_li, ax_pop, ax_dup, ax_dup2, ax_if, ax_cmp, ax_acmp, ax_goto, ax_getI, ax_getR, ax_putI, ax_putR, ax_gets, ax_getsT, ax_aldI, ax_aldR, ax_astI, ax_astR, ax_alen, ax_ret, ax_aret, ax_vret, am_st, am_kl, List.getElem?_cons_zero, List.getElem?_cons_succ, List.set_cons_zero, List.set_cons_succ, Value.category, true_and, and_true, if_true, if_false, reduceCtorEq, Bool.false_eq_true, false_implies, forall_const, Option.some.injEq, exists_eq_left', exists_eq_left, Sum.inl.injEq, Sum.inr.injEq, Prod.mk.injEq, am_sh_wi, am_r_wi, am_tp_wi, am_us_wi, ym_is, ym_io, ym_ij, e8, t9]
      refine ih (by omega) _ (dx ++ [xe_b w n]) z1 _ (by rw [← hd]; simp) hl ((hf.wi (a := m + 8) (Or.inl rfl)).wi (a := m + 9) (Or.inr rfl)) (fun j => ?_) (fun q hq => ?_) (fun j c hj => ?_)
      · rw [List.length_append, List.length_cons, List.length_nil]
        by_cases e : j = i
        · rw [if_pos e, e, ym_is]
        · rw [if_neg e, ym_ij e, ym_io (by omega), h9, if_neg e]
      · rw [ym_io (by omega), ym_ij (by omega)]
        exact ho q hq
      · rw [ym_io (by omega)]
        by_cases e : j = dx.length
        · subst e
          rw [ym_is]
          simp at hj
          rw [hj]
        · rw [ym_ij (by omega)]
          refine hc j c ?_
          rw [List.getElem?_append] at hj
          split at hj
          · exact hj
          · rename_i q
            rw [List.getElem?_eq_none (by simp; omega)] at hj
            cases hj
theorem ym_wr_16 {g : am_G} {l : Launch} {σ : am_S} {m d i : Nat} {w : Int64} {dr : List Nat} {Q : Option Value → am_S → Prop} (H : ym_H σ m) (hi : i < 4) (h9 : am_i σ (m + 9) i = nI dr.length) (hl : dr.length ≤ 80) {G : Option (List Nat)} {tot : Nat}
    (hQ0 : G = none → Q (some (.int 0)) σ) (hQ1 : G = some (dr ++ xw_by (xe_b w) 8) → (∀ z, am_W g l mX10_write d (am_tp σ, am_us σ) Q 99 [some (.ref m), some (.int (nI i)), some (.long w), none, some (.int (nI tot)), some (.int 56), z] [] σ)) :
    ∀ (n c : Nat) (z : Option Value), n ≤ 8 → c + (xw_by (xe_b w) n).length = tot → tot ≤ 8 → (xw_ok (xe_b w) n = false → G = none) → (xw_ok (xe_b w) n = true → (80 < dr.length + tot → G = none) ∧ (dr.length + tot ≤ 80 → G = some (dr ++ xw_by (xe_b w) 8))) →
      am_W g l mX10_write d (am_tp σ, am_us σ) Q 16 [some (.ref m), some (.int (nI i)), some (.long w), none, some (.int (nI c)), some (.int (nI (8 * n) + (-8))), z] [] σ := by
  intro n
  induction n with
  | zero =>
    intro c z hn hc htot g0 g1
    have e : c = tot := by rw [← hc]; rfl
    subst e
    obtain ⟨g2, g3⟩ := g1 rfl
    have o1 : (nI (8 * 0) + (-8)).toInt < 0 := by decide
    refine kX10_write_16 ?_
    simp (disch := omega) only [ax_const, ax_iload, ax_lload, ax_aload, ax_istore, ax_astore, ax_iinc, ax_i2, ax_i2n, ax_l2, ax_lsh, ax_ii, ax_il, ax_li, ax_pop, ax_dup, ax_dup2, ax_if, ax_cmp, ax_acmp, ax_goto, ax_getI, ax_getR, ax_putI, ax_putR, ax_gets, ax_getsT, ax_aldI, ax_aldR, ax_astI, ax_astR, ax_alen, ax_ret, ax_aret, ax_vret, am_st, am_kl, List.getElem?_cons_zero, List.getElem?_cons_succ, List.set_cons_zero, List.set_cons_succ, Value.category, true_and, and_true, if_true, if_false, reduceCtorEq, Bool.false_eq_true, false_implies, forall_const, Option.some.injEq, exists_eq_left', exists_eq_left, Sum.inl.injEq, Sum.inr.injEq, Prod.mk.injEq, nI_toInt, nI_clamp, am_ix_nI, am_ix_0, am_ix_1, am_ix_2, am_ix_3, am_n0, am_n1, am_n2, am_n3, am_n4, am_t0, am_t1, am_t2, am_t3, am_t4, am_tm1, am_nS, am_nP, am_nM, Int.ofNat_lt, Int.ofNat_le, H.1, H.r8, H.s8, o1, h9, yl_80, nI_add, yl_lt]
    exact ⟨⟨hi, fun z => ⟨by simp, hQ0 (g2 z)⟩, fun z => hQ1 (g3 (by omega)) _⟩, fun z => absurd trivial z⟩
  | succ n ih =>
    intro c z hn hc htot g0 g1
    have hb := xe_blt w n
    have byt := xw_byte w n (by omega)
    have e8 : nI (8 * n) - 8 = nI (8 * n) + (-8) := Int32.sub_eq_add_neg _ _
    rw [xw_by] at hc
    rw [xw_ok] at g0 g1
    refine kX10_write_16 ?_
    rw [xe_e0]
    have b0 : xe_b w n < 2 ^ 31 := by omega
    have e32 : Int32.toInt 32 = 32 := rfl
    have e126 : Int32.toInt 126 = 126 := rfl
    have tb : (nI (xe_b w n)).toInt = xe_b w n := nI_toInt b0
    simp (disch := omega) only [ax_const, ax_iload, ax_lload, ax_aload, ax_istore, ax_astore, ax_iinc, ax_i2, ax_i2n, ax_l2, ax_lsh, ax_ii, ax_il, ax_li, ax_pop, ax_dup, ax_dup2, ax_if, ax_cmp, ax_acmp, ax_goto, ax_getI, ax_getR, ax_putI, ax_putR, ax_gets, ax_getsT, ax_aldI, ax_aldR, ax_astI, ax_astR, ax_alen, ax_ret, ax_aret, ax_vret, am_st, am_kl, List.getElem?_cons_zero, List.getElem?_cons_succ, List.set_cons_zero, List.set_cons_succ, Value.category, true_and, and_true, if_true, if_false, reduceCtorEq, Bool.false_eq_true, false_implies, forall_const, Option.some.injEq, exists_eq_left', exists_eq_left, Sum.inl.injEq, Sum.inr.injEq, Prod.mk.injEq, yl_tn]
    intro _
    rw [byt, e32, e126, tb]
    refine ⟨fun z => ?_, fun z => ⟨fun y => ⟨by simp, hQ0 (g0 ?_)⟩, fun y => ⟨fun x => ⟨by simp, hQ0 (g0 ?_)⟩, fun x => ?_⟩⟩⟩
    · have z : xe_b w n = 0 := (nI_inj (b := 0) b0 (by omega)).mp z
      rw [if_pos z] at hc
      rw [decide_eq_true (Or.inl z), Bool.true_and] at g0 g1
      refine kX10_write_53 ?_
      have zz : nI (xe_b w n) = 0 := by rw [z]; rfl
      simp (disch := omega) only [ax_const, ax_iload, ax_lload, ax_aload, ax_istore, ax_astore, ax_iinc, ax_i2, ax_i2n, ax_l2, ax_lsh, ax_ii, ax_il, ax_li, ax_pop, ax_dup, ax_dup2, ax_if, ax_cmp, ax_acmp, ax_goto, ax_getI, ax_getR, ax_putI, ax_putR, ax_gets, ax_getsT, ax_aldI, ax_aldR, ax_astI, ax_astR, ax_alen, ax_ret, ax_aret, ax_vret, am_st, am_kl, List.getElem?_cons_zero, List.getElem?_cons_succ, List.set_cons_zero, List.set_cons_succ, Value.category, true_and, and_true, if_true, if_false, reduceCtorEq, Bool.false_eq_true, false_implies, forall_const, Option.some.injEq, exists_eq_left', exists_eq_left, Sum.inl.injEq, Sum.inr.injEq, Prod.mk.injEq, zz]
      refine ⟨kX10_write_67 ?_, fun q => absurd trivial q⟩
      simp (disch := omega) only [ax_const, ax_iload, ax_lload, ax_aload, ax_istore, ax_astore, ax_iinc, ax_i2, ax_i2n, ax_l2, ax_lsh, ax_ii, ax_il, ax_li, ax_pop, ax_dup, ax_dup2, ax_if, ax_cmp, ax_acmp, ax_goto, ax_getI, ax_getR, ax_putI, ax_putR, ax_gets, ax_getsT, ax_aldI, ax_aldR, ax_astI, ax_astR, ax_alen, ax_ret, ax_aret, ax_vret, am_st, am_kl, List.getElem?_cons_zero, List.getElem?_cons_succ, List.set_cons_zero, List.set_cons_succ, Value.category, true_and, and_true, if_true, if_false, reduceCtorEq, Bool.false_eq_true, false_implies, forall_const, Option.some.injEq, exists_eq_left', exists_eq_left, Sum.inl.injEq, Sum.inr.injEq, Prod.mk.injEq, e8]
      exact ih c _ (by omega) hc htot g0 g1
    · have z : xe_b w n ≠ 0 := fun q => z ((nI_inj (b := 0) b0 (by omega)).mpr q)
      rw [decide_eq_false (by omega), Bool.false_and]
    · have z : xe_b w n ≠ 0 := fun q => z ((nI_inj (b := 0) b0 (by omega)).mpr q)
      rw [decide_eq_false (by omega), Bool.false_and]
    · have z' : xe_b w n ≠ 0 := fun q => z ((nI_inj (b := 0) b0 (by omega)).mpr q)
      rw [if_neg z', List.length_cons] at hc
      rw [decide_eq_true (by omega), Bool.true_and] at g0 g1
      refine kX10_write_53 ?_
      simp (disch := omega) only [ax_const, ax_iload, ax_lload, ax_aload, ax_istore, ax_astore, ax_iinc, ax_i2, ax_i2n, ax_l2, ax_lsh, ax_ii, ax_il, ax_li, ax_pop, ax_dup, ax_dup2, ax_if, ax_cmp, ax_acmp, ax_goto, ax_getI, ax_getR, ax_putI, ax_putR, ax_gets, ax_getsT, ax_aldI, ax_aldR, ax_astI, ax_astR, ax_alen, ax_ret, ax_aret, ax_vret, am_st, am_kl, List.getElem?_cons_zero, List.getElem?_cons_succ, List.set_cons_zero, List.set_cons_succ, Value.category, true_and, and_true, if_true, if_false, reduceCtorEq, Bool.false_eq_true, false_implies, forall_const, Option.some.injEq, exists_eq_left', exists_eq_left, Sum.inl.injEq, Sum.inr.injEq, Prod.mk.injEq, z, am_nS]
      refine fun _ => kX10_write_67 ?_
      simp (disch := omega) only [ax_const, ax_iload, ax_lload, ax_aload, ax_istore, ax_astore, ax_iinc, ax_i2, ax_i2n, ax_l2, ax_lsh, ax_ii, ax_il, ax_li, ax_pop, ax_dup, ax_dup2, ax_if, ax_cmp, ax_acmp, ax_goto, ax_getI, ax_getR, ax_putI, ax_putR, ax_gets, ax_getsT, ax_aldI, ax_aldR, ax_astI, ax_astR, ax_alen, ax_ret, ax_aret, ax_vret, am_st, am_kl, List.getElem?_cons_zero, List.getElem?_cons_succ, List.set_cons_zero, List.set_cons_succ, Value.category, true_and, and_true, if_true, if_false, reduceCtorEq, Bool.false_eq_true, false_implies, forall_const, Option.some.injEq, exists_eq_left', exists_eq_left, Sum.inl.injEq, Sum.inr.injEq, Prod.mk.injEq, e8]
      exact ih (c + 1) _ (by omega) (by omega) htot g0 g1
theorem c_ywrite {g : am_G} {l : Launch} {σ : am_S} {m : Nat} {D : xx_D} {s : Int32} {w : Int64} {Q : Option Value → am_S → Prop} (h : ym_O σ m D) (hQ0 : ¬ xx_in s → Q (some (.int 0)) σ) (hQ1 : ∀ i, i < 4 → s = nI i → ∀ σ' B dx, (xe_go (xe_b w) 8 (D.2.2.2.2.2.1 i) = none ∧ B = (0 : Int32) ∧ dx = D.2.2.2.2.2.1 i ∨ xe_go (xe_b w) 8 (D.2.2.2.2.2.1 i) = some dx ∧ B = 1) → ym_O σ' m (xx_es D i dx (D.2.2.2.2.2.2.1 i) (D.2.2.2.2.2.2.2.1 i) (D.2.2.2.2.2.2.2.2 i)) → ym_fr m σ σ' → Q (some (.int B)) σ') : am_C g l mX10_write 1 (am_tp σ, am_us σ) [.ref m, .int s, .long w] σ Q := by
  have H := h.1
  have o1 : ¬ (1 : Int32) = 0 := by decide
  refine am_C.go [some (.ref m), some (.int s), some (.long w), none, none, none, none] (by decide +kernel) (Nat.le_of_ble_eq_true rfl) rfl (kX10_write_0 ?_)
  simp (disch := omega) only [ax_const, ax_iload, ax_lload, ax_aload, ax_istore, ax_astore, ax_iinc, ax_i2, ax_i2n, ax_l2, ax_lsh, ax_ii, ax_il, ax_li, ax_pop, ax_dup, ax_dup2, ax_if, ax_cmp, ax_acmp, ax_goto, ax_getI, ax_getR, ax_putI, ax_putR, ax_gets, ax_getsT, ax_aldI, ax_aldR, ax_astI, ax_astR, ax_alen, ax_ret, ax_aret, ax_vret, am_st, am_kl, List.getElem?_cons_zero, List.getElem?_cons_succ, List.set_cons_zero, List.set_cons_succ, Value.category, true_and, and_true, if_true, if_false, reduceCtorEq, Bool.false_eq_true, false_implies, forall_const, Option.some.injEq, exists_eq_left', exists_eq_left, Sum.inl.injEq, Sum.inr.injEq, Prod.mk.injEq, nI_toInt, nI_clamp, am_ix_nI, am_ix_0, am_ix_1, am_ix_2, am_ix_3, am_n0, am_n1, am_n2, am_n3, am_n4, am_t0, am_t1, am_t2, am_t3, am_t4, am_tm1, am_nS, am_nP, am_nM, Int.ofNat_lt, Int.ofNat_le]
  refine am_callK [.int s] [] (d' := 0) (lim' := (am_tp σ, am_us σ)) rfl (by decide) (Nat.le_refl _) (Nat.le_refl _) rfl (Nat.le_of_ble_eq_true rfl) am_stat ?_
  refine c_yisSession (fun _ _ => ?_)
  by_cases q : 0 ≤ s.toInt ∧ s.toInt < 4
  · rw [if_pos q]
    obtain ⟨i, hi, rfl⟩ := xx_in.of q
    obtain ⟨s1, s2, s3, s4, s5, s6, s7, s8⟩ := h.2.2.2.2 i hi
    have hQ1 := hQ1 i hi rfl
    have hgo := xw_go (xe_b w) 8 (D.2.2.2.2.2.1 i) s2
    have hlen := xw_len (xe_b w) 8
    have self : ∀ j, j < 4 → j ≠ i → ym_Se σ m j (D.2.2.2.2.2.1 j) (D.2.2.2.2.2.2.1 j) (D.2.2.2.2.2.2.2.1 j) (D.2.2.2.2.2.2.2.2 j) := fun j hj _ => h.2.2.2.2 j hj
    simp (disch := omega) only [ax_const, ax_iload, ax_lload, ax_aload, ax_istore, ax_astore, ax_iinc, ax_i2, ax_i2n, ax_l2, ax_lsh, ax_ii, ax_il, ax_li, ax_pop, ax_dup, ax_dup2, ax_if, ax_cmp, ax_acmp, ax_goto, ax_getI, ax_getR, ax_putI, ax_putR, ax_gets, ax_getsT, ax_aldI, ax_aldR, ax_astI, ax_astR, ax_alen, ax_ret, ax_aret, ax_vret, am_st, am_kl, List.getElem?_cons_zero, List.getElem?_cons_succ, List.set_cons_zero, List.set_cons_succ, Value.category, true_and, and_true, if_true, if_false, reduceCtorEq, Bool.false_eq_true, false_implies, forall_const, Option.some.injEq, exists_eq_left', exists_eq_left, Sum.inl.injEq, Sum.inr.injEq, Prod.mk.injEq, nI_toInt, nI_clamp, am_ix_nI, am_ix_0, am_ix_1, am_ix_2, am_ix_3, am_n0, am_n1, am_n2, am_n3, am_n4, am_t0, am_t1, am_t2, am_t3, am_t4, am_tm1, am_nS, am_nP, am_nM, Int.ofNat_lt, Int.ofNat_le, Option.toList_some, Option.toList_none, List.cons_append, List.nil_append, List.append_nil, o1]
    intro _
    have e56 : (56 : Int32) = nI (8 * 8) + (-8) := by decide +kernel
    have L := ym_wr_16 (g := g) (l := l) (d := 1) (w := w) (Q := Q) (G := xe_go (xe_b w) 8 (D.2.2.2.2.2.1 i)) (tot := (xw_by (xe_b w) 8).length) H hi s1 s2 (fun z => hQ1 σ 0 _ (Or.inl ⟨z, rfl, rfl⟩) (h.sess .rf ⟨s1, s2, s3, s4, s5, s6, s7, s8⟩ self) .rf) (fun z y => ?_) 8 0 none (Nat.le_refl _) (Nat.zero_add _) hlen (fun z => ?_) (fun z => ⟨fun y => ?_, fun y => ?_⟩)
    · rw [← e56] at L
      exact L
    · rw [e56]
      have hl80 : (D.2.2.2.2.2.1 i ++ xw_by (xe_b w) 8).length ≤ 80 := by
        rw [hgo] at z
        split at z
        · rename_i c
          rw [List.length_append]
          exact c.2
        · cases z
      refine ym_wr_99 H hi (fun σ' hf k9 ko kc => ?_) 8 (Nat.le_refl _) σ (D.2.2.2.2.2.1 i) _ y rfl hl80 .rf (fun j => ?_) (fun q hq => rfl) s3
      · refine hQ1 σ' 1 _ (Or.inr ⟨z, rfl⟩) (h.sess (hf.mono (fun b x => by omega)) ⟨by rw [k9, if_pos rfl], hl80, kc, by rw [hf.i (by omega)]; exact s4, by rw [hf.i (by omega)]; exact s5, s6, s7, by rw [hf.i (by omega)]; exact s8⟩ (fun j hj hne => ?_)) (hf.mono (fun b x => by omega))
        obtain ⟨t1, t2, t3, t4, t5, t6, t7, t8⟩ := h.2.2.2.2 j hj
        refine ⟨by rw [k9, if_neg hne]; exact t1, t2, fun q c hq => ?_, by rw [hf.i (by omega)]; exact t4, by rw [hf.i (by omega)]; exact t5, t6, t7, by rw [hf.i (by omega)]; exact t8⟩
        have hql := (List.getElem?_eq_some_iff.mp hq).1
        rw [ko _ (by omega)]
        exact t3 q c hq
      · by_cases e : j = i
        · rw [if_pos e, e]; exact s1
        · rw [if_neg e]
    · rw [hgo, if_neg (fun c => by rw [z] at c; exact absurd c.1 (by decide))]
    · rw [hgo, if_neg (fun c => by omega)]
    · rw [hgo, if_pos ⟨z, y⟩]
  · rw [if_neg q]
    simp (disch := omega) only [ax_const, ax_iload, ax_lload, ax_aload, ax_istore, ax_astore, ax_iinc, ax_i2, ax_i2n, ax_l2, ax_lsh, ax_ii, ax_il, ax_li, ax_pop, ax_dup, ax_dup2, ax_if, ax_cmp, ax_acmp, ax_goto, ax_getI, ax_getR, ax_putI, ax_putR, ax_gets, ax_getsT, ax_aldI, ax_aldR, ax_astI, ax_astR, ax_alen, ax_ret, ax_aret, ax_vret, am_st, am_kl, List.getElem?_cons_zero, List.getElem?_cons_succ, List.set_cons_zero, List.set_cons_succ, Value.category, true_and, and_true, if_true, if_false, reduceCtorEq, Bool.false_eq_true, false_implies, forall_const, Option.some.injEq, exists_eq_left', exists_eq_left, Sum.inl.injEq, Sum.inr.injEq, Prod.mk.injEq, nI_toInt, nI_clamp, am_ix_nI, am_ix_0, am_ix_1, am_ix_2, am_ix_3, am_n0, am_n1, am_n2, am_n3, am_n4, am_t0, am_t1, am_t2, am_t3, am_t4, am_tm1, am_nS, am_nP, am_nM, Int.ofNat_lt, Int.ofNat_le, Option.toList_some, Option.toList_none, List.cons_append, List.nil_append, List.append_nil]
    exact ⟨⟨by simp, hQ0 q⟩, fun z => absurd trivial z⟩
