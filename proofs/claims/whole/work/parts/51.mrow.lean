/-! the reference: insert, remove, copy, records -/
/-- the three arrays from r = 6 * p + j on are moved up -/
def ym_J (σ σ' : am_S) (m r n : Nat) : Prop := ym_f (fun b => m + 3 ≤ b ∧ b ≤ m + 5) σ σ' ∧ ∀ a, m + 3 ≤ a → a ≤ m + 5 → ∀ i, am_i σ' a i = if r < i ∧ i ≤ n then am_i σ a (i - 1) else am_i σ a i
theorem ym_ins_89 {g : am_G} {l : Launch} {σ σ' : am_S} {m p r d j : Nat} {e : xr_E} {P : Nat → List xr_E} {Q : Option Value → am_S → Prop} (H : ym_H σ m) (hP : ym_P σ m P) (hp : p < 32) (hn : (P p).length < 6) (hj : j ≤ (P p).length) (hr : r = 6 * p + j) (hJ : ym_J σ σ' m r (6 * p + (P p).length))
    (hQ : ∀ σ'', ym_P σ'' m (fun i => if i = p then xr_put (P p) j e else P i) → ym_f (fun b => m + 2 ≤ b ∧ b ≤ m + 5) σ σ'' → Q none σ'') : am_W g l mX10_insert d (am_tp σ, am_us σ) Q 89 [some (.ref m), some (.int (nI p)), some (.int e.1), some (.int e.2.1), some (.int e.2.2.1), some (.int (nI r))] [] σ' := by
  obtain ⟨hf, hJ⟩ := hJ
  have H' : ym_H σ' m := H.f hf
  have hr192 : r < 192 := by omega
  have hc : am_i σ' (m + 2) p = nI (P p).length := by rw [hf.i (show ¬ (m + 3 ≤ m + 2 ∧ m + 2 ≤ m + 5) by omega)]; exact (hP p hp).1
  refine kX10_insert_89 ?_
  simp (disch := omega) only [ax_const, ax_iload, ax_lload, ax_aload, ax_istore, ax_astore, ax_iinc, ax_i2, ax_i2n, ax_l2, ax_lsh, ax_ii, ax_il, ax_li, ax_pop, ax_dup, ax_dup2, ax_if, ax_cmp, ax_acmp, ax_goto, ax_getI, ax_getR, ax_putI, ax_putR, ax_gets, ax_getsT, ax_aldI, ax_aldR, ax_astI, ax_astR, ax_alen, ax_ret, ax_aret, ax_vret, am_st, am_kl, List.getElem?_cons_zero, List.getElem?_cons_succ, List.set_cons_zero, List.set_cons_succ, Value.category, true_and, and_true, if_true, if_false, reduceCtorEq, Bool.false_eq_true, false_implies, forall_const, Option.some.injEq, exists_eq_left', exists_eq_left, Sum.inl.injEq, Sum.inr.injEq, Prod.mk.injEq, nI_toInt, nI_clamp, am_ix_nI, am_ix_0, am_ix_1, am_ix_2, am_ix_3, am_n0, am_n1, am_n2, am_n3, am_n4, am_t0, am_t1, am_t2, am_t3, am_t4, am_tm1, am_nS, am_nP, am_nM, Int.ofNat_lt, Int.ofNat_le, am_sh_wi, am_r_wi, am_tp_wi, am_us_wi, ym_is, ym_io, ym_ij, H'.1, H'.r1, H'.s1, H'.r2, H'.s2, H'.r3, H'.s3, H'.r4, H'.s4, hc]
  refine ⟨hr192, hr192, hr192, hp, hp, kX10_insert_124 ?_⟩
  simp (disch := omega) only [ax_const, ax_iload, ax_lload, ax_aload, ax_istore, ax_astore, ax_iinc, ax_i2, ax_i2n, ax_l2, ax_lsh, ax_ii, ax_il, ax_li, ax_pop, ax_dup, ax_dup2, ax_if, ax_cmp, ax_acmp, ax_goto, ax_getI, ax_getR, ax_putI, ax_putR, ax_gets, ax_getsT, ax_aldI, ax_aldR, ax_astI, ax_astR, ax_alen, ax_ret, ax_aret, ax_vret, am_st, am_kl, List.getElem?_cons_zero, List.getElem?_cons_succ, List.set_cons_zero, List.set_cons_succ, Value.category, true_and, and_true, if_true, if_false, reduceCtorEq, Bool.false_eq_true, false_implies, forall_const, Option.some.injEq, exists_eq_left', exists_eq_left, Sum.inl.injEq, Sum.inr.injEq, Prod.mk.injEq]
  refine ⟨hf.tp, hf.us, hQ _ (fun i hi => ?_) ?_⟩
  · have a3 : ∀ q, q ≠ r → am_i (am_wi (am_wi (am_wi (am_wi σ' (m + 3) r e.1) (m + 4) r e.2.1) (m + 5) r e.2.2.1) (m + 2) p (nI ((P p).length + 1))) (m + 3) q = am_i σ' (m + 3) q := fun q hq => by
      rw [ym_io (by omega), ym_io (by omega), ym_io (by omega), ym_ij hq]
    have a4 : ∀ q, q ≠ r → am_i (am_wi (am_wi (am_wi (am_wi σ' (m + 3) r e.1) (m + 4) r e.2.1) (m + 5) r e.2.2.1) (m + 2) p (nI ((P p).length + 1))) (m + 4) q = am_i σ' (m + 4) q := fun q hq => by
      rw [ym_io (by omega), ym_io (by omega), ym_ij hq, ym_io (by omega)]
    have a5 : ∀ q, q ≠ r → am_i (am_wi (am_wi (am_wi (am_wi σ' (m + 3) r e.1) (m + 4) r e.2.1) (m + 5) r e.2.2.1) (m + 2) p (nI ((P p).length + 1))) (m + 5) q = am_i σ' (m + 5) q := fun q hq => by
      rw [ym_io (by omega), ym_ij hq, ym_io (by omega), ym_io (by omega)]
    have b3 : am_i (am_wi (am_wi (am_wi (am_wi σ' (m + 3) r e.1) (m + 4) r e.2.1) (m + 5) r e.2.2.1) (m + 2) p (nI ((P p).length + 1))) (m + 3) r = e.1 := by
      rw [ym_io (by omega), ym_io (by omega), ym_io (by omega), ym_is]
    have b4 : am_i (am_wi (am_wi (am_wi (am_wi σ' (m + 3) r e.1) (m + 4) r e.2.1) (m + 5) r e.2.2.1) (m + 2) p (nI ((P p).length + 1))) (m + 4) r = e.2.1 := by
      rw [ym_io (by omega), ym_io (by omega), ym_is]
    have b5 : am_i (am_wi (am_wi (am_wi (am_wi σ' (m + 3) r e.1) (m + 4) r e.2.1) (m + 5) r e.2.2.1) (m + 2) p (nI ((P p).length + 1))) (m + 5) r = e.2.2.1 := by
      rw [ym_io (by omega), ym_is]
    dsimp only
    by_cases ei : i = p
    · subst ei
      rw [if_pos rfl]
      refine ⟨by rw [ym_is, xr_put_len hj], by rw [xr_put_len hj]; omega, fun q f hq => ?_⟩
      rw [xr_put_get hj] at hq
      by_cases c1 : q < j
      · rw [if_pos c1] at hq
        rw [a3 _ (by omega), a4 _ (by omega), a5 _ (by omega), hJ _ (by omega) (by omega), hJ _ (by omega) (by omega), hJ _ (by omega) (by omega), if_neg (by omega), if_neg (by omega), if_neg (by omega)]
        exact (hP i hi).2.2 q f hq
      · rw [if_neg c1] at hq
        by_cases c2 : q = j
        · rw [if_pos c2, Option.some.injEq] at hq
          rw [c2, ← hr, b3, b4, b5, hq]
          exact ⟨rfl, rfl, rfl⟩
        · rw [if_neg c2] at hq
          have hql := (List.getElem?_eq_some_iff.mp hq).1
          rw [a3 _ (by omega), a4 _ (by omega), a5 _ (by omega), hJ _ (by omega) (by omega), hJ _ (by omega) (by omega), hJ _ (by omega) (by omega), if_pos (by omega), if_pos (by omega), if_pos (by omega), show 6 * i + q - 1 = 6 * i + (q - 1) by omega]
          exact (hP i hi).2.2 (q - 1) f hq
    · rw [if_neg ei]
      obtain ⟨h1, h2, h3⟩ := hP i hi
      refine ⟨?_, h2, fun q f hq => ?_⟩
      · rw [ym_ij ei, ym_io (by omega), ym_io (by omega), ym_io (by omega), hf.i (show ¬ (m + 3 ≤ m + 2 ∧ m + 2 ≤ m + 5) by omega)]
        exact h1
      · have hql := (List.getElem?_eq_some_iff.mp hq).1
        have hne : 6 * i + q ≠ r := by omega
        rw [a3 _ hne, a4 _ hne, a5 _ hne, hJ _ (by omega) (by omega), hJ _ (by omega) (by omega), hJ _ (by omega) (by omega), if_neg (by omega), if_neg (by omega), if_neg (by omega)]
        exact h3 q f hq
  · exact ((((hf.mono (P' := fun b => m + 2 ≤ b ∧ b ≤ m + 5) (fun b x => by omega)).wi (a := m + 3) (by omega)).wi (a := m + 4) (by omega)).wi (a := m + 5) (by omega)).wi (a := m + 2) (by omega)
theorem ym_ins_loop {g : am_G} {l : Launch} {σ : am_S} {m p d : Nat} {e : xr_E} {P : Nat → List xr_E} {Q : Option Value → am_S → Prop} (H : ym_H σ m) (hP : ym_P σ m P) (hp : p < 32) (hn : (P p).length < 6) :
    ∀ (j r : Nat), j ≤ (P p).length → r = 6 * p + j → ∀ σ', ym_J σ σ' m r (6 * p + (P p).length) →
    (∀ σ'', ym_P σ'' m (fun i => if i = p then xr_put (P p) (xr_pos e.1 (P p) j) e else P i) → ym_f (fun b => m + 2 ≤ b ∧ b ≤ m + 5) σ σ'' → Q none σ'') → am_W g l mX10_insert d (am_tp σ, am_us σ) Q 13 [some (.ref m), some (.int (nI p)), some (.int e.1), some (.int e.2.1), some (.int e.2.2.1), some (.int (nI r))] [] σ' := by
  intro j
  induction j with
  | zero =>
    intro r hj hr σ' hJ hQ
    refine kX10_insert_13 ?_
    simp (disch := omega) only [ax_const, ax_iload, ax_lload, ax_aload, ax_istore, ax_astore, ax_iinc, ax_i2, ax_i2n, ax_l2, ax_lsh, ax_ii, ax_il, ax_li, ax_pop, ax_dup, ax_dup2, ax_if, ax_cmp, ax_acmp, ax_goto, ax_getI, ax_getR, ax_putI, ax_putR, ax_gets, ax_getsT, ax_aldI, ax_aldR, ax_astI, ax_astR, ax_alen, ax_ret, ax_aret, ax_vret, am_st, am_kl, List.getElem?_cons_zero, List.getElem?_cons_succ, List.set_cons_zero, List.set_cons_succ, Value.category, true_and, and_true, if_true, if_false, reduceCtorEq, Bool.false_eq_true, false_implies, forall_const, Option.some.injEq, exists_eq_left', exists_eq_left, Sum.inl.injEq, Sum.inr.injEq, Prod.mk.injEq, nI_toInt, nI_clamp, am_ix_nI, am_ix_0, am_ix_1, am_ix_2, am_ix_3, am_n0, am_n1, am_n2, am_n3, am_n4, am_t0, am_t1, am_t2, am_t3, am_t4, am_tm1, am_nS, am_nP, am_nM, Int.ofNat_lt, Int.ofNat_le, yl_6, pk_mul]
    exact ⟨fun h => by omega, fun _ => ym_ins_89 H hP hp hn hj hr hJ hQ⟩
  | succ j ih =>
    intro r hj hr σ' hJ hQ
    obtain ⟨hf, hJ'⟩ := id hJ
    have H' : ym_H σ' m := H.f hf
    have hget : (P p)[j]? = some (P p)[j] := List.getElem?_eq_getElem (by omega)
    obtain ⟨k1, k2, k3⟩ := (hP p hp).2.2 j _ hget
    have hJk : am_i σ' (m + 3) (r - 1) = (P p)[j].1 := by
      rw [hJ' _ (by omega) (by omega), if_neg (by omega), show r - 1 = 6 * p + j by omega]
      exact k1
    have eg : (P p).getD j (0, 0, 0, 0) = (P p)[j] := by rw [List.getD_eq_getElem?_getD, hget]; rfl
    rw [xr_pos, eg] at hQ
    refine kX10_insert_13 ?_
    simp (disch := omega) only [ax_const, ax_iload, ax_lload, ax_aload, ax_istore, ax_astore, ax_iinc, ax_i2, ax_i2n, ax_l2, ax_lsh, ax_ii, ax_il, ax_li, ax_pop, ax_dup, ax_dup2, ax_if, ax_cmp, ax_acmp, ax_goto, ax_getI, ax_getR, ax_putI, ax_putR, ax_gets, ax_getsT, ax_aldI, ax_aldR, ax_astI, ax_astR, ax_alen, ax_ret, ax_aret, ax_vret, am_st, am_kl, List.getElem?_cons_zero, List.getElem?_cons_succ, List.set_cons_zero, List.set_cons_succ, Value.category, true_and, and_true, if_true, if_false, reduceCtorEq, Bool.false_eq_true, false_implies, forall_const, Option.some.injEq, exists_eq_left', exists_eq_left, Sum.inl.injEq, Sum.inr.injEq, Prod.mk.injEq, nI_toInt, nI_clamp, am_ix_nI, am_ix_0, am_ix_1, am_ix_2, am_ix_3, am_n0, am_n1, am_n2, am_n3, am_n4, am_t0, am_t1, am_t2, am_t3, am_t4, am_tm1, am_nS, am_nP, am_nM, Int.ofNat_lt, Int.ofNat_le, am_sh_wi, am_r_wi, am_tp_wi, am_us_wi, ym_is, ym_io, ym_ij, H'.1, H'.r1, H'.s1, H'.r2, H'.s2, H'.r3, H'.s3, H'.r4, H'.s4, yl_6, pk_mul, yl_m1, hJk]
    refine ⟨fun _ => ⟨by omega, fun q => ?_, fun q => ?_⟩, fun h => by omega⟩
    · rw [if_pos q] at hQ
      refine ⟨by omega, by omega, by omega, by omega, kX10_insert_73 ?_⟩
      simp (disch := omega) only [ax_const, ax_iload, ax_lload, ax_aload, ax_istore, ax_astore, ax_iinc, ax_i2, ax_i2n, ax_l2, ax_lsh, ax_ii, ax_il, ax_li, ax_pop, ax_dup, ax_dup2, ax_if, ax_cmp, ax_acmp, ax_goto, ax_getI, ax_getR, ax_putI, ax_putR, ax_gets, ax_getsT, ax_aldI, ax_aldR, ax_astI, ax_astR, ax_alen, ax_ret, ax_aret, ax_vret, am_st, am_kl, List.getElem?_cons_zero, List.getElem?_cons_succ, List.set_cons_zero, List.set_cons_succ, Value.category, true_and, and_true, if_true, if_false, reduceCtorEq, Bool.false_eq_true, false_implies, forall_const, Option.some.injEq, exists_eq_left', exists_eq_left, Sum.inl.injEq, Sum.inr.injEq, Prod.mk.injEq, nI_toInt, nI_clamp, am_ix_nI, am_ix_0, am_ix_1, am_ix_2, am_ix_3, am_n0, am_n1, am_n2, am_n3, am_n4, am_t0, am_t1, am_t2, am_t3, am_t4, am_tm1, am_nS, am_nP, am_nM, Int.ofNat_lt, Int.ofNat_le, am_sh_wi, am_r_wi, am_tp_wi, am_us_wi, ym_is, ym_io, ym_ij, H'.1, H'.r1, H'.s1, H'.r2, H'.s2, H'.r3, H'.s3, H'.r4, H'.s4, yl_m1]
      refine ⟨by omega, by omega, ?_⟩
      refine ih (r - 1) (by omega) (by omega) _ ⟨((hf.wi (a := m + 3) (by omega)).wi (a := m + 4) (by omega)).wi (a := m + 5) (by omega), fun a ha1 ha2 i => ?_⟩ hQ
      by_cases er : i = r
      · rw [if_pos (by omega), er]
        have c : a = m + 3 ∨ a = m + 4 ∨ a = m + 5 := by omega
        rcases c with rfl | rfl | rfl
        · rw [ym_io (by omega), ym_io (by omega), ym_is, ← hJk, hJ' _ (by omega) (by omega), if_neg (by omega)]
        · rw [ym_io (by omega), ym_is, hJ' _ (by omega) (by omega), if_neg (by omega)]
        · rw [ym_is, hJ' _ (by omega) (by omega), if_neg (by omega)]
      · rw [ym_ij er, ym_ij er, ym_ij er, hJ' a ha1 ha2]
        by_cases c : r < i ∧ i ≤ 6 * p + (P p).length
        · rw [if_pos c, if_pos (by omega)]
        · rw [if_neg c, if_neg (by omega)]
    · rw [if_neg q] at hQ
      exact ym_ins_89 H hP hp hn hj hr hJ hQ
theorem c_yinsert {g : am_G} {l : Launch} {σ : am_S} {m p : Nat} {e : xr_E} {P : Nat → List xr_E} {Q : Option Value → am_S → Prop} (H : ym_H σ m) (hP : ym_P σ m P) (hp : p < 32) (hn : (P p).length < 6)
    (hQ : ∀ σ', ym_P σ' m (fun i => if i = p then xr_add (P p) e else P i) → ym_f (fun b => m + 2 ≤ b ∧ b ≤ m + 5) σ σ' → Q none σ') : am_C g l mX10_insert 0 (am_tp σ, am_us σ) [.ref m, .int (nI p), .int e.1, .int e.2.1, .int e.2.2.1] σ Q := by
  refine am_C.go [some (.ref m), some (.int (nI p)), some (.int e.1), some (.int e.2.1), some (.int e.2.2.1), none] (by decide +kernel) (Nat.le_of_ble_eq_true rfl) rfl (kX10_insert_0 ?_)
  obtain ⟨h1, h2, h3⟩ := hP p hp
  simp (disch := omega) only [ax_const, ax_iload, ax_lload, ax_aload, ax_istore, ax_astore, ax_iinc, ax_i2, ax_i2n, ax_l2, ax_lsh, ax_ii, ax_il, ax_li, ax_pop, ax_dup, ax_dup2, ax_if, ax_cmp, ax_acmp, ax_goto, ax_getI, ax_getR, ax_putI, ax_putR, ax_gets, ax_getsT, ax_aldI, ax_aldR, ax_astI, ax_astR, ax_alen, ax_ret, ax_aret, ax_vret, am_st, am_kl, List.getElem?_cons_zero, List.getElem?_cons_succ, List.set_cons_zero, List.set_cons_succ, Value.category, true_and, and_true, if_true, if_false, reduceCtorEq, Bool.false_eq_true, false_implies, forall_const, Option.some.injEq, exists_eq_left', exists_eq_left, Sum.inl.injEq, Sum.inr.injEq, Prod.mk.injEq, nI_toInt, nI_clamp, am_ix_nI, am_ix_0, am_ix_1, am_ix_2, am_ix_3, am_n0, am_n1, am_n2, am_n3, am_n4, am_t0, am_t1, am_t2, am_t3, am_t4, am_tm1, am_nS, am_nP, am_nM, Int.ofNat_lt, Int.ofNat_le, H.1, H.r1, H.s1, yl_6, pk_mul, nI_add, h1]
  exact ⟨hp, ym_ins_loop H hP hp hn (P p).length _ (Nat.le_refl _) rfl σ ⟨.rf, fun a _ _ i => by rw [if_neg (by omega)]⟩ hQ⟩
