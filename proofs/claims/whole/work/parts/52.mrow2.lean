/-! the reference: remove, copy, records -/
def ym_K (σ σ' : am_S) (m p n q r : Nat) : Prop := ym_f (fun b => m + 2 ≤ b ∧ b ≤ m + 5) σ σ' ∧ (∀ i, am_i σ' (m + 2) i = if i = p then nI n else am_i σ (m + 2) i) ∧ ∀ a, m + 3 ≤ a → a ≤ m + 5 → ∀ i, am_i σ' a i = if q ≤ i ∧ i < r then am_i σ a (i + 1) else am_i σ a i
theorem ym_rem_loop {g : am_G} {l : Launch} {σ : am_S} {m p d at_ : Nat} {P : Nat → List xr_E} {z : Int32} {Q : Option Value → am_S → Prop} (H : ym_H σ m) (hP : ym_P σ m P) (hp : p < 32) (hat : at_ < (P p).length)
    (hQ : ∀ σ', ym_P σ' m (fun i => if i = p then (P p).eraseIdx at_ else P i) → ym_f (fun b => m + 2 ≤ b ∧ b ≤ m + 5) σ σ' → Q none σ') :
    ∀ (n r : Nat), at_ ≤ r → r + n + 1 = (P p).length → ∀ σ', ym_K σ σ' m p ((P p).length - 1) (6 * p + at_) (6 * p + r) →
      am_W g l mX10_remove d (am_tp σ, am_us σ) Q 12 [some (.ref m), some (.int (nI p)), some (.int z), some (.int (nI (6 * p + r)))] [] σ' := by
  obtain ⟨k1, k2, k3⟩ := hP p hp
  intro n
  induction n with
  | zero =>
    intro r h1 h2 σ' hK
    obtain ⟨hf, hc, ha⟩ := hK
    have H' : ym_H σ' m := H.f hf
    have hcp : am_i σ' (m + 2) p = nI ((P p).length - 1) := by rw [hc, if_pos rfl]
    refine kX10_remove_12 ?_
    simp (disch := omega) only [ax_const, ax_iload, ax_lload, ax_aload, ax_istore, ax_astore, ax_iinc, ax_i2, ax_i2n, ax_l2, ax_lsh, ax_ii, ax_il, ax_li, ax_pop, ax_dup, ax_dup2, ax_if, ax_cmp, ax_acmp, ax_goto, ax_getI, ax_getR, ax_putI, ax_putR, ax_gets, ax_getsT, ax_aldI, ax_aldR, ax_astI, ax_astR, ax_alen, ax_ret, ax_aret, ax_vret, am_st, am_kl, List.getElem?_cons_zero, List.getElem?_cons_succ, List.set_cons_zero, List.set_cons_succ, Value.category, true_and, and_true, if_true, if_false, reduceCtorEq, Bool.false_eq_true, false_implies, forall_const, Option.some.injEq, exists_eq_left', exists_eq_left, Sum.inl.injEq, Sum.inr.injEq, Prod.mk.injEq, nI_toInt, nI_clamp, am_ix_nI, am_ix_0, am_ix_1, am_ix_2, am_ix_3, am_n0, am_n1, am_n2, am_n3, am_n4, am_t0, am_t1, am_t2, am_t3, am_t4, am_tm1, am_nS, am_nP, am_nM, Int.ofNat_lt, Int.ofNat_le, H'.1, H'.r1, H'.s1, H'.r2, H'.s2, H'.r3, H'.s3, H'.r4, H'.s4, yl_6, pk_mul, nI_add, yl_lt, hcp]
    refine ⟨hp, fun h => by omega, fun _ => ⟨hf.tp, hf.us, hQ σ' (fun i hi => ?_) hf⟩⟩
    dsimp only
    by_cases e : i = p
    · subst e
      rw [if_pos rfl, List.length_eraseIdx_of_lt hat]
      refine ⟨hcp, by omega, fun j f hj => ?_⟩
      have hjl := (List.getElem?_eq_some_iff.mp hj).1
      rw [List.length_eraseIdx_of_lt hat] at hjl
      rw [List.getElem?_eraseIdx] at hj
      rw [ha _ (by omega) (by omega), ha _ (by omega) (by omega), ha _ (by omega) (by omega)]
      by_cases c : j < at_
      · rw [if_pos c] at hj
        rw [if_neg (by omega), if_neg (by omega), if_neg (by omega)]
        exact k3 j f hj
      · rw [if_neg c] at hj
        rw [if_pos (by omega), if_pos (by omega), if_pos (by omega)]
        exact k3 (j + 1) f hj
    · rw [if_neg e]
      obtain ⟨g1, g2, g3⟩ := hP i hi
      refine ⟨by rw [hc, if_neg e]; exact g1, g2, fun j f hj => ?_⟩
      have hjl := (List.getElem?_eq_some_iff.mp hj).1
      rw [ha _ (by omega) (by omega), ha _ (by omega) (by omega), ha _ (by omega) (by omega), if_neg (by omega), if_neg (by omega), if_neg (by omega)]
      exact g3 j f hj
  | succ n ih =>
    intro r h1 h2 σ' hK
    obtain ⟨hf, hc, ha⟩ := hK
    have H' : ym_H σ' m := H.f hf
    have hcp : am_i σ' (m + 2) p = nI ((P p).length - 1) := by rw [hc, if_pos rfl]
    refine kX10_remove_12 ?_
    simp (disch := omega) only [ax_const, ax_iload, ax_lload, ax_aload, ax_istore, ax_astore, ax_iinc, ax_i2, ax_i2n, ax_l2, ax_lsh, ax_ii, ax_il, ax_li, ax_pop, ax_dup, ax_dup2, ax_if, ax_cmp, ax_acmp, ax_goto, ax_getI, ax_getR, ax_putI, ax_putR, ax_gets, ax_getsT, ax_aldI, ax_aldR, ax_astI, ax_astR, ax_alen, ax_ret, ax_aret, ax_vret, am_st, am_kl, List.getElem?_cons_zero, List.getElem?_cons_succ, List.set_cons_zero, List.set_cons_succ, Value.category, true_and, and_true, if_true, if_false, reduceCtorEq, Bool.false_eq_true, false_implies, forall_const, Option.some.injEq, exists_eq_left', exists_eq_left, Sum.inl.injEq, Sum.inr.injEq, Prod.mk.injEq, nI_toInt, nI_clamp, am_ix_nI, am_ix_0, am_ix_1, am_ix_2, am_ix_3, am_n0, am_n1, am_n2, am_n3, am_n4, am_t0, am_t1, am_t2, am_t3, am_t4, am_tm1, am_nS, am_nP, am_nM, Int.ofNat_lt, Int.ofNat_le, am_sh_wi, am_r_wi, am_tp_wi, am_us_wi, ym_is, ym_io, ym_ij, H'.1, H'.r1, H'.s1, H'.r2, H'.s2, H'.r3, H'.s3, H'.r4, H'.s4, yl_6, pk_mul, nI_add, yl_lt, hcp]
    refine ⟨hp, fun _ => ⟨by omega, by omega, by omega, by omega, kX10_remove_60 ?_⟩, fun h => by omega⟩
    simp (disch := omega) only [ax_const, ax_iload, ax_lload, ax_aload, ax_istore, ax_astore, ax_iinc, ax_i2, ax_i2n, ax_l2, ax_lsh, ax_ii, ax_il, ax_li, ax_pop, ax_dup, ax_dup2, ax_if, ax_cmp, ax_acmp, ax_goto, ax_getI, ax_getR, ax_putI, ax_putR, ax_gets, ax_getsT, ax_aldI, ax_aldR, ax_astI, ax_astR, ax_alen, ax_ret, ax_aret, ax_vret, am_st, am_kl, List.getElem?_cons_zero, List.getElem?_cons_succ, List.set_cons_zero, List.set_cons_succ, Value.category, true_and, and_true, if_true, if_false, reduceCtorEq, Bool.false_eq_true, false_implies, forall_const, Option.some.injEq, exists_eq_left', exists_eq_left, Sum.inl.injEq, Sum.inr.injEq, Prod.mk.injEq, nI_toInt, nI_clamp, am_ix_nI, am_ix_0, am_ix_1, am_ix_2, am_ix_3, am_n0, am_n1, am_n2, am_n3, am_n4, am_t0, am_t1, am_t2, am_t3, am_t4, am_tm1, am_nS, am_nP, am_nM, Int.ofNat_lt, Int.ofNat_le, am_sh_wi, am_r_wi, am_tp_wi, am_us_wi, ym_is, ym_io, ym_ij, H'.1, H'.r1, H'.s1, H'.r2, H'.s2, H'.r3, H'.s3, H'.r4, H'.s4, nI_add]
    refine ⟨by omega, by omega, ?_⟩
    refine ih (r + 1) (by omega) (by omega) _ ⟨((hf.wi (a := m + 3) (by omega)).wi (a := m + 4) (by omega)).wi (a := m + 5) (by omega), fun i => ?_, fun a ha1 ha2 i => ?_⟩
    · rw [ym_io (by omega), ym_io (by omega), ym_io (by omega)]
      exact hc i
    · by_cases er : i = 6 * p + r
      · rw [if_pos (by omega), er]
        have c : a = m + 3 ∨ a = m + 4 ∨ a = m + 5 := by omega
        rcases c with rfl | rfl | rfl
        · rw [ym_io (by omega), ym_io (by omega), ym_is, ha _ (by omega) (by omega), if_neg (by omega)]
        · rw [ym_io (by omega), ym_is, ha _ (by omega) (by omega), if_neg (by omega)]
        · rw [ym_is, ha _ (by omega) (by omega), if_neg (by omega)]
      · rw [ym_ij er, ym_ij er, ym_ij er, ha a ha1 ha2]
        by_cases c : 6 * p + at_ ≤ i ∧ i < 6 * p + r
        · rw [if_pos c, if_pos (by omega)]
        · rw [if_neg c, if_neg (by omega)]
theorem c_yremove {g : am_G} {l : Launch} {σ : am_S} {m p at_ : Nat} {P : Nat → List xr_E} {Q : Option Value → am_S → Prop} (H : ym_H σ m) (hP : ym_P σ m P) (hp : p < 32) (hat : at_ < (P p).length)
    (hQ : ∀ σ', ym_P σ' m (fun i => if i = p then (P p).eraseIdx at_ else P i) → ym_f (fun b => m + 2 ≤ b ∧ b ≤ m + 5) σ σ' → Q none σ') : am_C g l mX10_remove 0 (am_tp σ, am_us σ) [.ref m, .int (nI p), .int (nI (6 * p + at_))] σ Q := by
  refine am_C.go [some (.ref m), some (.int (nI p)), some (.int (nI (6 * p + at_))), none] (by decide +kernel) (Nat.le_of_ble_eq_true rfl) rfl (kX10_remove_0 ?_)
  obtain ⟨h1, h2, h3⟩ := hP p hp
  simp (disch := omega) only [ax_const, ax_iload, ax_lload, ax_aload, ax_istore, ax_astore, ax_iinc, ax_i2, ax_i2n, ax_l2, ax_lsh, ax_ii, ax_il, ax_li, ax_pop, ax_dup, ax_dup2, ax_if, ax_cmp, ax_acmp, ax_goto, ax_getI, ax_getR, ax_putI, ax_putR, ax_gets, ax_getsT, ax_aldI, ax_aldR, ax_astI, ax_astR, ax_alen, ax_ret, ax_aret, ax_vret, am_st, am_kl, List.getElem?_cons_zero, List.getElem?_cons_succ, List.set_cons_zero, List.set_cons_succ, Value.category, true_and, and_true, if_true, if_false, reduceCtorEq, Bool.false_eq_true, false_implies, forall_const, Option.some.injEq, exists_eq_left', exists_eq_left, Sum.inl.injEq, Sum.inr.injEq, Prod.mk.injEq, nI_toInt, nI_clamp, am_ix_nI, am_ix_0, am_ix_1, am_ix_2, am_ix_3, am_n0, am_n1, am_n2, am_n3, am_n4, am_t0, am_t1, am_t2, am_t3, am_t4, am_tm1, am_nS, am_nP, am_nM, Int.ofNat_lt, Int.ofNat_le, am_sh_wi, am_r_wi, am_tp_wi, am_us_wi, ym_is, ym_io, ym_ij, H.1, H.r1, H.s1, h1]
  refine ⟨hp, hp, ?_⟩
  refine ym_rem_loop H hP hp hat hQ ((P p).length - at_ - 1) at_ (Nat.le_refl _) (by omega) _ ⟨ym_f.rf.wi (a := m + 2) (by omega), fun i => ?_, fun a a1 a2 i => ?_⟩
  · by_cases e : i = p
    · rw [if_pos e, e, ym_is]
    · rw [if_neg e, ym_ij e]
  · rw [ym_io (by omega), if_neg (by omega)]
/-! copy -/
theorem ym_cpy_44 {g : am_G} {l : Launch} {σ : am_S} {m p q d lb a b t : Nat} {P : Nat → List xr_E} {Q : Option Value → am_S → Prop} (H : ym_H σ m) (hP : ym_P σ m P) (hp : p < 32) (hq : q < 32) (hpq : p ≠ q)
    (hc : ∀ σ', ym_P σ' m (fun i => if i = q then P p else P i) → ym_f (fun b => m + 2 ≤ b ∧ b ≤ m + 5) σ σ' → am_W g l mX10_copy d (am_tp σ, am_us σ) Q 3 [some (.ref m), some (.int (nI lb)), some (.int (nI a)), some (.int (nI b)), some (.int (nI (t + 1))), some (.int (nI p)), some (.int (nI q)), some (.int (nI 6))] [] σ') :
    ∀ (n k : Nat), n + k = 6 → ∀ σ', ym_f (fun b => m + 2 ≤ b ∧ b ≤ m + 5) σ σ' → (∀ i, am_i σ' (m + 2) i = if i = q then nI (P p).length else am_i σ (m + 2) i) → (∀ a, m + 3 ≤ a → a ≤ m + 5 → ∀ i, am_i σ' a i = if 6 * q ≤ i ∧ i < 6 * q + k then am_i σ a (6 * p + (i - 6 * q)) else am_i σ a i) →
      am_W g l mX10_copy d (am_tp σ, am_us σ) Q 44 [some (.ref m), some (.int (nI lb)), some (.int (nI a)), some (.int (nI b)), some (.int (nI t)), some (.int (nI p)), some (.int (nI q)), some (.int (nI k))] [] σ' := by
  intro n
  induction n with
  | zero =>
    intro k hk σ' hf h2 ha
    have ek : k = 6 := by omega
    subst ek
    refine kX10_copy_44 ?_
    simp (disch := omega) only [ax_const, ax_iload, ax_lload, ax_aload, ax_istore, ax_astore, ax_iinc, ax_i2, ax_i2n, ax_l2, ax_lsh, ax_ii, ax_il, ax_li, ax_pop, ax_dup, ax_dup2, ax_if, ax_cmp, ax_acmp, ax_goto, ax_getI, ax_getR, ax_putI, ax_putR, ax_gets, ax_getsT, ax_aldI, ax_aldR, ax_astI, ax_astR, ax_alen, ax_ret, ax_aret, ax_vret, am_st, am_kl, List.getElem?_cons_zero, List.getElem?_cons_succ, List.set_cons_zero, List.set_cons_succ, Value.category, true_and, and_true, if_true, if_false, reduceCtorEq, Bool.false_eq_true, false_implies, forall_const, Option.some.injEq, exists_eq_left', exists_eq_left, Sum.inl.injEq, Sum.inr.injEq, Prod.mk.injEq, nI_toInt, nI_clamp, am_ix_nI, am_ix_0, am_ix_1, am_ix_2, am_ix_3, am_n0, am_n1, am_n2, am_n3, am_n4, am_t0, am_t1, am_t2, am_t3, am_t4, am_tm1, am_nS, am_nP, am_nM, Int.ofNat_lt, Int.ofNat_le, yl_6, yl_lt]
    refine ⟨fun h => by omega, fun _ => hc σ' (fun i hi => ?_) hf⟩
    dsimp only
    obtain ⟨g1, g2, g3⟩ := hP i hi
    obtain ⟨k1, k2, k3⟩ := hP p hp
    rw [h2, ]
    by_cases e : i = q
    · rw [if_pos e, if_pos e]
      refine ⟨rfl, k2, fun j f hj => ?_⟩
      have hjl := (List.getElem?_eq_some_iff.mp hj).1
      rw [e, ha _ (by omega) (by omega), ha _ (by omega) (by omega), ha _ (by omega) (by omega), if_pos (by omega), if_pos (by omega), if_pos (by omega), show 6 * p + (6 * q + j - 6 * q) = 6 * p + j by omega]
      exact k3 j f hj
    · rw [if_neg e, if_neg e]
      refine ⟨g1, g2, fun j f hj => ?_⟩
      have hjl := (List.getElem?_eq_some_iff.mp hj).1
      rw [ha _ (by omega) (by omega), ha _ (by omega) (by omega), ha _ (by omega) (by omega), if_neg (by omega), if_neg (by omega), if_neg (by omega)]
      exact g3 j f hj
  | succ n ih =>
    intro k hk σ' hf h2 ha
    have H' : ym_H σ' m := H.f hf
    refine kX10_copy_44 ?_
    simp (disch := omega) only [ax_const, ax_iload, ax_lload, ax_aload, ax_istore, ax_astore, ax_iinc, ax_i2, ax_i2n, ax_l2, ax_lsh, ax_ii, ax_il, ax_li, ax_pop, ax_dup, ax_dup2, ax_if, ax_cmp, ax_acmp, ax_goto, ax_getI, ax_getR, ax_putI, ax_putR, ax_gets, ax_getsT, ax_aldI, ax_aldR, ax_astI, ax_astR, ax_alen, ax_ret, ax_aret, ax_vret, am_st, am_kl, List.getElem?_cons_zero, List.getElem?_cons_succ, List.set_cons_zero, List.set_cons_succ, Value.category, true_and, and_true, if_true, if_false, reduceCtorEq, Bool.false_eq_true, false_implies, forall_const, Option.some.injEq, exists_eq_left', exists_eq_left, Sum.inl.injEq, Sum.inr.injEq, Prod.mk.injEq, nI_toInt, nI_clamp, am_ix_nI, am_ix_0, am_ix_1, am_ix_2, am_ix_3, am_n0, am_n1, am_n2, am_n3, am_n4, am_t0, am_t1, am_t2, am_t3, am_t4, am_tm1, am_nS, am_nP, am_nM, Int.ofNat_lt, Int.ofNat_le, am_sh_wi, am_r_wi, am_tp_wi, am_us_wi, ym_is, ym_io, ym_ij, H'.1, H'.r1, H'.s1, H'.r2, H'.s2, H'.r3, H'.s3, H'.r4, H'.s4, yl_6, pk_mul, nI_add, yl_lt]
    refine ⟨fun _ => ⟨by omega, by omega, kX10_copy_89 ?_⟩, fun h => by omega⟩
    simp (disch := omega) only [ax_const, ax_iload, ax_lload, ax_aload, ax_istore, ax_astore, ax_iinc, ax_i2, ax_i2n, ax_l2, ax_lsh, ax_ii, ax_il, ax_li, ax_pop, ax_dup, ax_dup2, ax_if, ax_cmp, ax_acmp, ax_goto, ax_getI, ax_getR, ax_putI, ax_putR, ax_gets, ax_getsT, ax_aldI, ax_aldR, ax_astI, ax_astR, ax_alen, ax_ret, ax_aret, ax_vret, am_st, am_kl, List.getElem?_cons_zero, List.getElem?_cons_succ, List.set_cons_zero, List.set_cons_succ, Value.category, true_and, and_true, if_true, if_false, reduceCtorEq, Bool.false_eq_true, false_implies, forall_const, Option.some.injEq, exists_eq_left', exists_eq_left, Sum.inl.injEq, Sum.inr.injEq, Prod.mk.injEq, nI_toInt, nI_clamp, am_ix_nI, am_ix_0, am_ix_1, am_ix_2, am_ix_3, am_n0, am_n1, am_n2, am_n3, am_n4, am_t0, am_t1, am_t2, am_t3, am_t4, am_tm1, am_nS, am_nP, am_nM, Int.ofNat_lt, Int.ofNat_le, am_sh_wi, am_r_wi, am_tp_wi, am_us_wi, ym_is, ym_io, ym_ij, H'.1, H'.r1, H'.s1, H'.r2, H'.s2, H'.r3, H'.s3, H'.r4, H'.s4, yl_6, pk_mul, nI_add]
    refine ⟨by omega, by omega, kX10_copy_127 ?_⟩
    simp (disch := omega) only [ax_const, ax_iload, ax_lload, ax_aload, ax_istore, ax_astore, ax_iinc, ax_i2, ax_i2n, ax_l2, ax_lsh, ax_ii, ax_il, ax_li, ax_pop, ax_dup, ax_dup2, ax_if, ax_cmp, ax_acmp, ax_goto, ax_getI, ax_getR, ax_putI, ax_putR, ax_gets, ax_getsT, ax_aldI, ax_aldR, ax_astI, ax_astR, ax_alen, ax_ret, ax_aret, ax_vret, am_st, am_kl, List.getElem?_cons_zero, List.getElem?_cons_succ, List.set_cons_zero, List.set_cons_succ, Value.category, true_and, and_true, if_true, if_false, reduceCtorEq, Bool.false_eq_true, false_implies, forall_const, Option.some.injEq, exists_eq_left', exists_eq_left, Sum.inl.injEq, Sum.inr.injEq, Prod.mk.injEq, nI_toInt, nI_clamp, am_ix_nI, am_ix_0, am_ix_1, am_ix_2, am_ix_3, am_n0, am_n1, am_n2, am_n3, am_n4, am_t0, am_t1, am_t2, am_t3, am_t4, am_tm1, am_nS, am_nP, am_nM, Int.ofNat_lt, Int.ofNat_le, am_sh_wi, am_r_wi, am_tp_wi, am_us_wi, ym_is, ym_io, ym_ij, H'.1, H'.r1, H'.s1, H'.r2, H'.s2, H'.r3, H'.s3, H'.r4, H'.s4, nI_add]
    refine ⟨by omega, by omega, ?_⟩
    refine ih (k + 1) (by omega) _ (((hf.wi (a := m + 3) (by omega)).wi (a := m + 4) (by omega)).wi (a := m + 5) (by omega)) (fun i => ?_) (fun a ha1 ha2 i => ?_)
    · rw [ym_io (by omega), ym_io (by omega), ym_io (by omega)]
      exact h2 i
    · by_cases er : i = 6 * q + k
      · rw [if_pos (by omega), er, show 6 * p + (6 * q + k - 6 * q) = 6 * p + k by omega]
        have c : a = m + 3 ∨ a = m + 4 ∨ a = m + 5 := by omega
        rcases c with rfl | rfl | rfl
        · rw [ym_io (by omega), ym_io (by omega), ym_is, ha _ (by omega) (by omega), if_neg (by omega)]
        · rw [ym_io (by omega), ym_is, ha _ (by omega) (by omega), if_neg (by omega)]
        · rw [ym_is, ha _ (by omega) (by omega), if_neg (by omega)]
      · rw [ym_ij er, ym_ij er, ym_ij er, ha a ha1 ha2]
        by_cases c : 6 * q ≤ i ∧ i < 6 * q + k
        · rw [if_pos c, if_pos (by omega)]
        · rw [if_neg c, if_neg (by omega)]
theorem ym_pt_lt {v lb t : Nat} (hv : v < 2) (hl : lb < 8) (ht : t < 2) : ym_pt v lb t < 32 := by unfold ym_pt; omega
theorem ym_pt_inj {v lb t v' lb' t' : Nat} (hl : lb < 8) (ht : t < 2) (hl' : lb' < 8) (ht' : t' < 2) : ym_pt v lb t = ym_pt v' lb' t' ↔ v = v' ∧ lb = lb' ∧ t = t' := by unfold ym_pt; omega
def ym_cp (P : Nat → List xr_E) (lb a b : Nat) : Nat → Nat → List xr_E
  | 0 => P
  | t + 1 => fun i => if i = ym_pt b lb t then ym_cp P lb a b t (ym_pt a lb t) else ym_cp P lb a b t i
theorem ym_cpy_3 {g : am_G} {l : Launch} {σ0 : am_S} {m d lb a b : Nat} {P : Nat → List xr_E} {Q : Option Value → am_S → Prop} (hd : 1 ≤ d) (H0 : ym_H σ0 m) (hl : lb < 8) (ha : a < 2) (hb : b < 2) (hab : a ≠ b)
    (hQ : ∀ σ', ym_P σ' m (ym_cp P lb a b 2) → ym_f (fun b => m + 2 ≤ b ∧ b ≤ m + 5) σ0 σ' → Q none σ') :
    ∀ (n t : Nat), n + t = 2 → ∀ (σ : am_S) (z1 z2 z3 : Option Value), ym_P σ m (ym_cp P lb a b t) → ym_f (fun b => m + 2 ≤ b ∧ b ≤ m + 5) σ0 σ →
      am_W g l mX10_copy d (am_tp σ0, am_us σ0) Q 3 [some (.ref m), some (.int (nI lb)), some (.int (nI a)), some (.int (nI b)), some (.int (nI t)), z1, z2, z3] [] σ := by
  intro n
  induction n with
  | zero =>
    intro t ht σ z1 z2 z3 hP hf
    have et : t = 2 := by omega
    subst et
    refine kX10_copy_3 ?_
    simp (disch := omega) only [ax_const, ax_iload, ax_lload, ax_aload, ax_istore, ax_astore, ax_iinc, ax_i2, ax_i2n, ax_l2, ax_lsh, ax_ii, ax_il, ax_li, ax_pop, ax_dup, ax_dup2, ax_if, ax_cmp, ax_acmp, ax_goto, ax_getI, ax_getR, ax_putI, ax_putR, ax_gets, ax_getsT, ax_aldI, ax_aldR, ax_astI, ax_astR, ax_alen, ax_ret, ax_aret, ax_vret, am_st, am_kl, List.getElem?_cons_zero, List.getElem?_cons_succ, List.set_cons_zero, List.set_cons_succ, Value.category, true_and, and_true, if_true, if_false, reduceCtorEq, Bool.false_eq_true, false_implies, forall_const, Option.some.injEq, exists_eq_left', exists_eq_left, Sum.inl.injEq, Sum.inr.injEq, Prod.mk.injEq, nI_toInt, nI_clamp, am_ix_nI, am_ix_0, am_ix_1, am_ix_2, am_ix_3, am_n0, am_n1, am_n2, am_n3, am_n4, am_t0, am_t1, am_t2, am_t3, am_t4, am_tm1, am_nS, am_nP, am_nM, Int.ofNat_lt, Int.ofNat_le, yl_2, yl_lt]
    exact ⟨fun h => by omega, fun _ => ⟨hf.tp, hf.us, hQ σ hP hf⟩⟩
  | succ n ih =>
    intro t ht σ z1 z2 z3 hP hf
    have H : ym_H σ m := H0.f hf
    have hp := ym_pt_lt ha hl (show t < 2 by omega)
    have hq := ym_pt_lt hb hl (show t < 2 by omega)
    have hpq : ym_pt a lb t ≠ ym_pt b lb t := fun e => hab ((ym_pt_inj hl (by omega) hl (by omega)).mp e).1
    have hcp := (hP _ hp).1
    refine kX10_copy_3 ?_
    simp (disch := omega) only [ax_const, ax_iload, ax_lload, ax_aload, ax_istore, ax_astore, ax_iinc, ax_i2, ax_i2n, ax_l2, ax_lsh, ax_ii, ax_il, ax_li, ax_pop, ax_dup, ax_dup2, ax_if, ax_cmp, ax_acmp, ax_goto, ax_getI, ax_getR, ax_putI, ax_putR, ax_gets, ax_getsT, ax_aldI, ax_aldR, ax_astI, ax_astR, ax_alen, ax_ret, ax_aret, ax_vret, am_st, am_kl, List.getElem?_cons_zero, List.getElem?_cons_succ, List.set_cons_zero, List.set_cons_succ, Value.category, true_and, and_true, if_true, if_false, reduceCtorEq, Bool.false_eq_true, false_implies, forall_const, Option.some.injEq, exists_eq_left', exists_eq_left, Sum.inl.injEq, Sum.inr.injEq, Prod.mk.injEq, nI_toInt, nI_clamp, am_ix_nI, am_ix_0, am_ix_1, am_ix_2, am_ix_3, am_n0, am_n1, am_n2, am_n3, am_n4, am_t0, am_t1, am_t2, am_t3, am_t4, am_tm1, am_nS, am_nP, am_nM, Int.ofNat_lt, Int.ofNat_le, yl_2, yl_lt]
    refine ⟨fun _ => ?_, fun h => by omega⟩
    refine am_callK [.int (nI a), .int (nI lb), .int (nI t)] [] (d' := 0) (lim' := (am_tp σ, am_us σ)) rfl (by omega) (Nat.le_of_eq hf.tp) (Nat.le_of_eq hf.us) rfl (by decide) am_stat ?_
    refine c_ypart (fun _ _ => ?_)
    simp (disch := omega) only [ax_const, ax_iload, ax_lload, ax_aload, ax_istore, ax_astore, ax_iinc, ax_i2, ax_i2n, ax_l2, ax_lsh, ax_ii, ax_il, ax_li, ax_pop, ax_dup, ax_dup2, ax_if, ax_cmp, ax_acmp, ax_goto, ax_getI, ax_getR, ax_putI, ax_putR, ax_gets, ax_getsT, ax_aldI, ax_aldR, ax_astI, ax_astR, ax_alen, ax_ret, ax_aret, ax_vret, am_st, am_kl, List.getElem?_cons_zero, List.getElem?_cons_succ, List.set_cons_zero, List.set_cons_succ, Value.category, true_and, and_true, if_true, if_false, reduceCtorEq, Bool.false_eq_true, false_implies, forall_const, Option.some.injEq, exists_eq_left', exists_eq_left, Sum.inl.injEq, Sum.inr.injEq, Prod.mk.injEq, nI_toInt, nI_clamp, am_ix_nI, am_ix_0, am_ix_1, am_ix_2, am_ix_3, am_n0, am_n1, am_n2, am_n3, am_n4, am_t0, am_t1, am_t2, am_t3, am_t4, am_tm1, am_nS, am_nP, am_nM, Int.ofNat_lt, Int.ofNat_le, Option.toList_some, Option.toList_none, List.cons_append, List.nil_append, List.append_nil]
    refine am_callK [.int (nI b), .int (nI lb), .int (nI t)] [] (d' := 0) (lim' := (am_tp σ, am_us σ)) rfl (by omega) (Nat.le_of_eq hf.tp) (Nat.le_of_eq hf.us) rfl (by decide) am_stat ?_
    refine c_ypart (fun _ _ => ?_)
    simp (disch := omega) only [ax_const, ax_iload, ax_lload, ax_aload, ax_istore, ax_astore, ax_iinc, ax_i2, ax_i2n, ax_l2, ax_lsh, ax_ii, ax_il, ax_li, ax_pop, ax_dup, ax_dup2, ax_if, ax_cmp, ax_acmp, ax_goto, ax_getI, ax_getR, ax_putI, ax_putR, ax_gets, ax_getsT, ax_aldI, ax_aldR, ax_astI, ax_astR, ax_alen, ax_ret, ax_aret, ax_vret, am_st, am_kl, List.getElem?_cons_zero, List.getElem?_cons_succ, List.set_cons_zero, List.set_cons_succ, Value.category, true_and, and_true, if_true, if_false, reduceCtorEq, Bool.false_eq_true, false_implies, forall_const, Option.some.injEq, exists_eq_left', exists_eq_left, Sum.inl.injEq, Sum.inr.injEq, Prod.mk.injEq, nI_toInt, nI_clamp, am_ix_nI, am_ix_0, am_ix_1, am_ix_2, am_ix_3, am_n0, am_n1, am_n2, am_n3, am_n4, am_t0, am_t1, am_t2, am_t3, am_t4, am_tm1, am_nS, am_nP, am_nM, Int.ofNat_lt, Int.ofNat_le, Option.toList_some, Option.toList_none, List.cons_append, List.nil_append, List.append_nil, am_sh_wi, am_r_wi, am_tp_wi, am_us_wi, ym_is, ym_io, ym_ij, H.1, H.r1, H.s1, hcp]
    refine ⟨hp, hq, ?_⟩
    have := ym_cpy_44 (g := g) (l := l) (d := d) (lb := lb) (a := a) (b := b) (t := t) (Q := Q) H hP hp hq hpq (fun σ' hP' hf' => ?_) 6 0 rfl (am_wi σ (m + 2) (ym_pt b lb t) (nI (ym_cp P lb a b t (ym_pt a lb t)).length)) (ym_f.rf.wi (a := m + 2) (by omega)) (fun i => ?_) (fun a a1 a2 i => by rw [ym_io (by omega), if_neg (by omega)])
    · rw [hf.tp, hf.us] at this
      exact this
    · rw [hf.tp, hf.us]
      exact ih (t + 1) (by omega) σ' _ _ _ hP' (hf.tr hf')
    · by_cases e : i = ym_pt b lb t
      · rw [if_pos e, e, ym_is]
      · rw [if_neg e, ym_ij e]
theorem c_ycopy {g : am_G} {l : Launch} {σ : am_S} {m lb a b : Nat} {P : Nat → List xr_E} {Q : Option Value → am_S → Prop} (H : ym_H σ m) (hP : ym_P σ m P) (hl : lb < 8) (ha : a < 2) (hb : b < 2) (hab : a ≠ b)
    (hQ : ∀ σ', ym_P σ' m (ym_cp P lb a b 2) → ym_f (fun b => m + 2 ≤ b ∧ b ≤ m + 5) σ σ' → Q none σ') : am_C g l mX10_copy 1 (am_tp σ, am_us σ) [.ref m, .int (nI lb), .int (nI a), .int (nI b)] σ Q := by
  refine am_C.go [some (.ref m), some (.int (nI lb)), some (.int (nI a)), some (.int (nI b)), none, none, none, none] (by decide +kernel) (Nat.le_of_ble_eq_true rfl) rfl (kX10_copy_0 ?_)
  simp (disch := omega) only [ax_const, ax_iload, ax_lload, ax_aload, ax_istore, ax_astore, ax_iinc, ax_i2, ax_i2n, ax_l2, ax_lsh, ax_ii, ax_il, ax_li, ax_pop, ax_dup, ax_dup2, ax_if, ax_cmp, ax_acmp, ax_goto, ax_getI, ax_getR, ax_putI, ax_putR, ax_gets, ax_getsT, ax_aldI, ax_aldR, ax_astI, ax_astR, ax_alen, ax_ret, ax_aret, ax_vret, am_st, am_kl, List.getElem?_cons_zero, List.getElem?_cons_succ, List.set_cons_zero, List.set_cons_succ, Value.category, true_and, and_true, if_true, if_false, reduceCtorEq, Bool.false_eq_true, false_implies, forall_const, Option.some.injEq, exists_eq_left', exists_eq_left, Sum.inl.injEq, Sum.inr.injEq, Prod.mk.injEq, nI_toInt, nI_clamp, am_ix_nI, am_ix_0, am_ix_1, am_ix_2, am_ix_3, am_n0, am_n1, am_n2, am_n3, am_n4, am_t0, am_t1, am_t2, am_t3, am_t4, am_tm1, am_nS, am_nP, am_nM, Int.ofNat_lt, Int.ofNat_le]
  exact ym_cpy_3 (Nat.le_refl _) H hl ha hb hab hQ 2 0 rfl σ _ _ _ hP .rf
/-! records -/
theorem ym_rec_32 {g : am_G} {l : Launch} {σ : am_S} {m d lb a b t : Nat} {P : Nat → List xr_E} {z : Option Value} {Q : Option Value → am_S → Prop} (hd : 1 ≤ d) (H : ym_H σ m) (hP : ym_P σ m P) (ha : a < 32) (hb : b < 32) :
    ∀ (T pre : List xr_E) (n : Nat), P a = pre ++ T → n + T.length < 1000 → am_W g l mX10_records d (am_tp σ, am_us σ) Q 87 [some (.ref m), some (.int (nI lb)), some (.int (nI (n + xr_sum (xr_mis (P b)) T))), some (.int (nI t)), some (.int (nI a)), some (.int (nI b)), some (.int (nI (6 * b))), z] [] σ →
      am_W g l mX10_records d (am_tp σ, am_us σ) Q 32 [some (.ref m), some (.int (nI lb)), some (.int (nI n)), some (.int (nI t)), some (.int (nI a)), some (.int (nI b)), some (.int (nI (6 * a + pre.length))), z] [] σ := by
  obtain ⟨k1, k2, k3⟩ := hP a ha
  intro T
  induction T with
  | nil =>
    intro pre n hT hn hc
    rw [List.append_nil] at hT
    rw [hT] at k1 k2
    refine kX10_records_32 ?_
    simp (disch := omega) only [ax_const, ax_iload, ax_lload, ax_aload, ax_istore, ax_astore, ax_iinc, ax_i2, ax_i2n, ax_l2, ax_lsh, ax_ii, ax_il, ax_li, ax_pop, ax_dup, ax_dup2, ax_if, ax_cmp, ax_acmp, ax_goto, ax_getI, ax_getR, ax_putI, ax_putR, ax_gets, ax_getsT, ax_aldI, ax_aldR, ax_astI, ax_astR, ax_alen, ax_ret, ax_aret, ax_vret, am_st, am_kl, List.getElem?_cons_zero, List.getElem?_cons_succ, List.set_cons_zero, List.set_cons_succ, Value.category, true_and, and_true, if_true, if_false, reduceCtorEq, Bool.false_eq_true, false_implies, forall_const, Option.some.injEq, exists_eq_left', exists_eq_left, Sum.inl.injEq, Sum.inr.injEq, Prod.mk.injEq, nI_toInt, nI_clamp, am_ix_nI, am_ix_0, am_ix_1, am_ix_2, am_ix_3, am_n0, am_n1, am_n2, am_n3, am_n4, am_t0, am_t1, am_t2, am_t3, am_t4, am_tm1, am_nS, am_nP, am_nM, Int.ofNat_lt, Int.ofNat_le, H.1, H.r1, H.s1, yl_6, pk_mul, nI_add, yl_lt, k1]
    exact ⟨ha, fun h => by omega, fun _ => hc⟩
  | cons e T ih =>
    intro pre n hT hn hc
    rw [List.length_cons] at hn
    have hl : (P a).length = pre.length + (T.length + 1) := by rw [hT, List.length_append, List.length_cons]
    obtain ⟨e1, e2, e3⟩ := k3 pre.length e (by rw [hT]; simp)
    rw [hl] at k1 k2
    have hs : xr_sum (xr_mis (P b)) (e :: T) = xr_mis (P b) e + xr_sum (xr_mis (P b)) T := rfl
    rw [hs, ← Nat.add_assoc] at hc
    have hnx : (pre ++ [e]).length = pre.length + 1 := by simp
    refine kX10_records_32 ?_
    simp (disch := omega) only [ax_const, ax_iload, ax_lload, ax_aload, ax_istore, ax_astore, ax_iinc, ax_i2, ax_i2n, ax_l2, ax_lsh, ax_ii, ax_il, ax_li, ax_pop, ax_dup, ax_dup2, ax_if, ax_cmp, ax_acmp, ax_goto, ax_getI, ax_getR, ax_putI, ax_putR, ax_gets, ax_getsT, ax_aldI, ax_aldR, ax_astI, ax_astR, ax_alen, ax_ret, ax_aret, ax_vret, am_st, am_kl, List.getElem?_cons_zero, List.getElem?_cons_succ, List.set_cons_zero, List.set_cons_succ, Value.category, true_and, and_true, if_true, if_false, reduceCtorEq, Bool.false_eq_true, false_implies, forall_const, Option.some.injEq, exists_eq_left', exists_eq_left, Sum.inl.injEq, Sum.inr.injEq, Prod.mk.injEq, nI_toInt, nI_clamp, am_ix_nI, am_ix_0, am_ix_1, am_ix_2, am_ix_3, am_n0, am_n1, am_n2, am_n3, am_n4, am_t0, am_t1, am_t2, am_t3, am_t4, am_tm1, am_nS, am_nP, am_nM, Int.ofNat_lt, Int.ofNat_le, H.1, H.r1, H.s1, H.r2, H.s2, yl_6, pk_mul, nI_add, yl_lt, k1, e1]
    refine ⟨ha, fun _ => ⟨by omega, ?_⟩, fun h => by omega⟩
    refine am_callK [.ref m, .int (nI b), .int e.1] [] (d' := 0) (lim' := (am_tp σ, am_us σ)) rfl (by omega) (Nat.le_refl _) (Nat.le_refl _) rfl (Nat.le_of_ble_eq_true rfl) (am_recv H.1) ?_
    refine c_yfind H hP hb (fun _ _ => ?_)
    simp (disch := omega) only [ax_const, ax_iload, ax_lload, ax_aload, ax_istore, ax_astore, ax_iinc, ax_i2, ax_i2n, ax_l2, ax_lsh, ax_ii, ax_il, ax_li, ax_pop, ax_dup, ax_dup2, ax_if, ax_cmp, ax_acmp, ax_goto, ax_getI, ax_getR, ax_putI, ax_putR, ax_gets, ax_getsT, ax_aldI, ax_aldR, ax_astI, ax_astR, ax_alen, ax_ret, ax_aret, ax_vret, am_st, am_kl, List.getElem?_cons_zero, List.getElem?_cons_succ, List.set_cons_zero, List.set_cons_succ, Value.category, true_and, and_true, if_true, if_false, reduceCtorEq, Bool.false_eq_true, false_implies, forall_const, Option.some.injEq, exists_eq_left', exists_eq_left, Sum.inl.injEq, Sum.inr.injEq, Prod.mk.injEq, nI_toInt, nI_clamp, am_ix_nI, am_ix_0, am_ix_1, am_ix_2, am_ix_3, am_n0, am_n1, am_n2, am_n3, am_n4, am_t0, am_t1, am_t2, am_t3, am_t4, am_tm1, am_nS, am_nP, am_nM, Int.ofNat_lt, Int.ofNat_le, Option.toList_some, Option.toList_none, List.cons_append, List.nil_append, List.append_nil]
    rcases xr_find_spec e.1 (P b) (6 * b) (by have := (hP b hb).2.1; omega) with ⟨q1, q2⟩ | ⟨j, f, q0, q1, q2⟩
    · rw [q2]
      have hm : xr_mis (P b) e = 1 := by unfold xr_mis; rw [q1]
      rw [hm] at hc
      refine ⟨fun _ => ?_, fun h => absurd (by decide) h⟩
      have := ih (pre ++ [e]) (n + 1) (by rw [hT]; simp) (by omega) hc
      rw [hnx] at this
      exact this
    · rw [q2]
      have hm : xr_mis (P b) e = 0 := by unfold xr_mis; rw [q1]
      rw [hm, Nat.add_zero] at hc
      have hj := (List.getElem?_eq_some_iff.mp q0).1
      have := (hP b hb).2.1
      refine ⟨fun h => absurd ((yl_tn (by omega)).mp h) id, fun _ => ?_⟩
      have := ih (pre ++ [e]) n (by rw [hT]; simp) (by omega) hc
      rw [hnx] at this
      exact this
theorem ym_rec_87 {g : am_G} {l : Launch} {σ : am_S} {m d lb a b t : Nat} {P : Nat → List xr_E} {Q : Option Value → am_S → Prop} (hd : 1 ≤ d) (H : ym_H σ m) (hP : ym_P σ m P) (ha : a < 32) (hb : b < 32) :
    ∀ (T pre : List xr_E) (n : Nat) (z : Option Value), P b = pre ++ T → n + T.length < 1000 → (∀ z1 z2, am_W g l mX10_records d (am_tp σ, am_us σ) Q 4 [some (.ref m), some (.int (nI lb)), some (.int (nI (n + xr_sum (xr_dif (P a)) T))), some (.int (nI (t + 1))), some (.int (nI a)), some (.int (nI b)), z1, z2] [] σ) →
      am_W g l mX10_records d (am_tp σ, am_us σ) Q 87 [some (.ref m), some (.int (nI lb)), some (.int (nI n)), some (.int (nI t)), some (.int (nI a)), some (.int (nI b)), some (.int (nI (6 * b + pre.length))), z] [] σ := by
  obtain ⟨k1, k2, k3⟩ := hP b hb
  obtain ⟨g1, g2, g3⟩ := hP a ha
  intro T
  induction T with
  | nil =>
    intro pre n z hT hn hc
    rw [List.append_nil] at hT
    rw [hT] at k1 k2
    refine kX10_records_87 ?_
    simp (disch := omega) only [ax_const, ax_iload, ax_lload, ax_aload, ax_istore, ax_astore, ax_iinc, ax_i2, ax_i2n, ax_l2, ax_lsh, ax_ii, ax_il, ax_li, ax_pop, ax_dup, ax_dup2, ax_if, ax_cmp, ax_acmp, ax_goto, ax_getI, ax_getR, ax_putI, ax_putR, ax_gets, ax_getsT, ax_aldI, ax_aldR, ax_astI, ax_astR, ax_alen, ax_ret, ax_aret, ax_vret, am_st, am_kl, List.getElem?_cons_zero, List.getElem?_cons_succ, List.set_cons_zero, List.set_cons_succ, Value.category, true_and, and_true, if_true, if_false, reduceCtorEq, Bool.false_eq_true, false_implies, forall_const, Option.some.injEq, exists_eq_left', exists_eq_left, Sum.inl.injEq, Sum.inr.injEq, Prod.mk.injEq, nI_toInt, nI_clamp, am_ix_nI, am_ix_0, am_ix_1, am_ix_2, am_ix_3, am_n0, am_n1, am_n2, am_n3, am_n4, am_t0, am_t1, am_t2, am_t3, am_t4, am_tm1, am_nS, am_nP, am_nM, Int.ofNat_lt, Int.ofNat_le, H.1, H.r1, H.s1, yl_6, pk_mul, nI_add, yl_lt, k1]
    exact ⟨hb, fun h => by omega, fun _ => hc _ _⟩
  | cons e T ih =>
    intro pre n z hT hn hc
    rw [List.length_cons] at hn
    have hl : (P b).length = pre.length + (T.length + 1) := by rw [hT, List.length_append, List.length_cons]
    obtain ⟨e1, e2, e3⟩ := k3 pre.length e (by rw [hT]; simp)
    rw [hl] at k1 k2
    have hs : xr_sum (xr_dif (P a)) (e :: T) = xr_dif (P a) e + xr_sum (xr_dif (P a)) T := rfl
    rw [hs, ← Nat.add_assoc] at hc
    have hnx : (pre ++ [e]).length = pre.length + 1 := by simp
    have go1 : xr_dif (P a) e = 1 → ∀ z, am_W g l mX10_records d (am_tp σ, am_us σ) Q 159 [some (.ref m), some (.int (nI lb)), some (.int (nI n)), some (.int (nI t)), some (.int (nI a)), some (.int (nI b)), some (.int (nI (6 * b + pre.length))), z] [] σ := fun hm z => by
      rw [hm] at hc
      refine kX10_records_159 ?_
      simp (disch := omega) only [ax_const, ax_iload, ax_lload, ax_aload, ax_istore, ax_astore, ax_iinc, ax_i2, ax_i2n, ax_l2, ax_lsh, ax_ii, ax_il, ax_li, ax_pop, ax_dup, ax_dup2, ax_if, ax_cmp, ax_acmp, ax_goto, ax_getI, ax_getR, ax_putI, ax_putR, ax_gets, ax_getsT, ax_aldI, ax_aldR, ax_astI, ax_astR, ax_alen, ax_ret, ax_aret, ax_vret, am_st, am_kl, List.getElem?_cons_zero, List.getElem?_cons_succ, List.set_cons_zero, List.set_cons_succ, Value.category, true_and, and_true, if_true, if_false, reduceCtorEq, Bool.false_eq_true, false_implies, forall_const, Option.some.injEq, exists_eq_left', exists_eq_left, Sum.inl.injEq, Sum.inr.injEq, Prod.mk.injEq, nI_toInt, nI_clamp, am_ix_nI, am_ix_0, am_ix_1, am_ix_2, am_ix_3, am_n0, am_n1, am_n2, am_n3, am_n4, am_t0, am_t1, am_t2, am_t3, am_t4, am_tm1, am_nS, am_nP, am_nM, Int.ofNat_lt, Int.ofNat_le]
      have := ih (pre ++ [e]) (n + 1) z (by rw [hT]; simp) (by omega) hc
      rw [hnx] at this
      exact this
    refine kX10_records_87 ?_
    simp (disch := omega) only [ax_const, ax_iload, ax_lload, ax_aload, ax_istore, ax_astore, ax_iinc, ax_i2, ax_i2n, ax_l2, ax_lsh, ax_ii, ax_il, ax_li, ax_pop, ax_dup, ax_dup2, ax_if, ax_cmp, ax_acmp, ax_goto, ax_getI, ax_getR, ax_putI, ax_putR, ax_gets, ax_getsT, ax_aldI, ax_aldR, ax_astI, ax_astR, ax_alen, ax_ret, ax_aret, ax_vret, am_st, am_kl, List.getElem?_cons_zero, List.getElem?_cons_succ, List.set_cons_zero, List.set_cons_succ, Value.category, true_and, and_true, if_true, if_false, reduceCtorEq, Bool.false_eq_true, false_implies, forall_const, Option.some.injEq, exists_eq_left', exists_eq_left, Sum.inl.injEq, Sum.inr.injEq, Prod.mk.injEq, nI_toInt, nI_clamp, am_ix_nI, am_ix_0, am_ix_1, am_ix_2, am_ix_3, am_n0, am_n1, am_n2, am_n3, am_n4, am_t0, am_t1, am_t2, am_t3, am_t4, am_tm1, am_nS, am_nP, am_nM, Int.ofNat_lt, Int.ofNat_le, H.1, H.r1, H.s1, H.r2, H.s2, yl_6, pk_mul, nI_add, yl_lt, k1, e1]
    refine ⟨hb, fun _ => ⟨by omega, ?_⟩, fun h => by omega⟩
    refine am_callK [.ref m, .int (nI a), .int e.1] [] (d' := 0) (lim' := (am_tp σ, am_us σ)) rfl (by omega) (Nat.le_refl _) (Nat.le_refl _) rfl (Nat.le_of_ble_eq_true rfl) (am_recv H.1) ?_
    refine c_yfind H hP ha (fun _ _ => ?_)
    rcases xr_find_spec e.1 (P a) (6 * a) (by omega) with ⟨q1, q2⟩ | ⟨j, f, q0, q1, q2⟩
    · rw [q2]
      simp (disch := omega) only [ax_const, ax_iload, ax_lload, ax_aload, ax_istore, ax_astore, ax_iinc, ax_i2, ax_i2n, ax_l2, ax_lsh, ax_ii, ax_il, ax_li, ax_pop, ax_dup, ax_dup2, ax_if, ax_cmp, ax_acmp, ax_goto, ax_getI, ax_getR, ax_putI, ax_putR, ax_gets, ax_getsT, ax_aldI, ax_aldR, ax_astI, ax_astR, ax_alen, ax_ret, ax_aret, ax_vret, am_st, am_kl, List.getElem?_cons_zero, List.getElem?_cons_succ, List.set_cons_zero, List.set_cons_succ, Value.category, true_and, and_true, if_true, if_false, reduceCtorEq, Bool.false_eq_true, false_implies, forall_const, Option.some.injEq, exists_eq_left', exists_eq_left, Sum.inl.injEq, Sum.inr.injEq, Prod.mk.injEq, nI_toInt, nI_clamp, am_ix_nI, am_ix_0, am_ix_1, am_ix_2, am_ix_3, am_n0, am_n1, am_n2, am_n3, am_n4, am_t0, am_t1, am_t2, am_t3, am_t4, am_tm1, am_nS, am_nP, am_nM, Int.ofNat_lt, Int.ofNat_le, Option.toList_some, Option.toList_none, List.cons_append, List.nil_append, List.append_nil]
      exact ⟨fun _ => go1 (by unfold xr_dif; rw [q1]) _, fun h => absurd (by decide) h⟩
    · rw [q2]
      have hj := (List.getElem?_eq_some_iff.mp q0).1
      obtain ⟨f1, f2, f3⟩ := g3 j f q0
      have hm : xr_dif (P a) e = if e.2.1 = f.2.1 ∧ e.2.2.1 = f.2.2.1 then 0 else 1 := by unfold xr_dif; rw [q1]
      simp (disch := omega) only [ax_const, ax_iload, ax_lload, ax_aload, ax_istore, ax_astore, ax_iinc, ax_i2, ax_i2n, ax_l2, ax_lsh, ax_ii, ax_il, ax_li, ax_pop, ax_dup, ax_dup2, ax_if, ax_cmp, ax_acmp, ax_goto, ax_getI, ax_getR, ax_putI, ax_putR, ax_gets, ax_getsT, ax_aldI, ax_aldR, ax_astI, ax_astR, ax_alen, ax_ret, ax_aret, ax_vret, am_st, am_kl, List.getElem?_cons_zero, List.getElem?_cons_succ, List.set_cons_zero, List.set_cons_succ, Value.category, true_and, and_true, if_true, if_false, reduceCtorEq, Bool.false_eq_true, false_implies, forall_const, Option.some.injEq, exists_eq_left', exists_eq_left, Sum.inl.injEq, Sum.inr.injEq, Prod.mk.injEq, nI_toInt, nI_clamp, am_ix_nI, am_ix_0, am_ix_1, am_ix_2, am_ix_3, am_n0, am_n1, am_n2, am_n3, am_n4, am_t0, am_t1, am_t2, am_t3, am_t4, am_tm1, am_nS, am_nP, am_nM, Int.ofNat_lt, Int.ofNat_le, Option.toList_some, Option.toList_none, List.cons_append, List.nil_append, List.append_nil, H.1, H.r3, H.s3, H.r4, H.s4, yl_tn, e2, e3, f2, f3]
      refine ⟨fun h => by omega, fun _ => ⟨by omega, by omega, fun hv => ⟨by omega, by omega, fun hw => ?_, fun hw => go1 (by rw [hm, if_neg (fun q => hw q.2.symm)]) _⟩, fun hv => go1 (by rw [hm, if_neg (fun q => hv q.1.symm)]) _⟩⟩
      rw [hm, if_pos ⟨hv.symm, hw.symm⟩, Nat.add_zero] at hc
      have := ih (pre ++ [e]) n (some (.int (nI (6 * a + j)))) (by rw [hT]; simp) (by omega) hc
      rw [hnx] at this
      exact this
def ym_C (P : Nat → List xr_E) (v lb t : Nat) : List xr_E := P (ym_pt v lb t)
theorem ym_df_le {σ : am_S} {m lb t : Nat} {P : Nat → List xr_E} (hP : ym_P σ m P) (hl : lb < 8) (ht : t < 2) : xo_df (ym_C P 0 lb) (ym_C P 1 lb) t ≤ 12 := by
  have a1 := (hP _ (ym_pt_lt (show 0 < 2 by decide) hl ht)).2.1
  have a2 := (hP _ (ym_pt_lt (show 1 < 2 by decide) hl ht)).2.1
  have a3 := xr_sum_le (xr_dif (ym_C P 0 lb t)) (xr_dif_le _) (ym_C P 1 lb t)
  have a4 := xr_sum_le (xr_mis (ym_C P 1 lb t)) (xr_mis_le _) (ym_C P 0 lb t)
  unfold xo_df
  unfold ym_C at *
  omega
theorem ym_rec_4 {g : am_G} {l : Launch} {σ : am_S} {m d lb : Nat} {P : Nat → List xr_E} {Q : Option Value → am_S → Prop} (hd : 1 ≤ d) (H : ym_H σ m) (hP : ym_P σ m P) (hl : lb < 8) :
    ∀ (k t n : Nat) (z1 z2 z3 z4 : Option Value), k + t = 2 → n ≤ 12 * t → Q (some (.int (nI (xo_mk (n + xo_s (xo_df (ym_C P 0 lb) (ym_C P 1 lb)) k t))))) σ →
      am_W g l mX10_records d (am_tp σ, am_us σ) Q 4 [some (.ref m), some (.int (nI lb)), some (.int (nI n)), some (.int (nI t)), z1, z2, z3, z4] [] σ := by
  intro k
  induction k with
  | zero =>
    intro t n z1 z2 z3 z4 hk hn hQ
    refine kX10_records_4 ?_
    simp (disch := omega) only [ax_const, ax_iload, ax_lload, ax_aload, ax_istore, ax_astore, ax_iinc, ax_i2, ax_i2n, ax_l2, ax_lsh, ax_ii, ax_il, ax_li, ax_pop, ax_dup, ax_dup2, ax_if, ax_cmp, ax_acmp, ax_goto, ax_getI, ax_getR, ax_putI, ax_putR, ax_gets, ax_getsT, ax_aldI, ax_aldR, ax_astI, ax_astR, ax_alen, ax_ret, ax_aret, ax_vret, am_st, am_kl, List.getElem?_cons_zero, List.getElem?_cons_succ, List.set_cons_zero, List.set_cons_succ, Value.category, true_and, and_true, if_true, if_false, reduceCtorEq, Bool.false_eq_true, false_implies, forall_const, Option.some.injEq, exists_eq_left', exists_eq_left, Sum.inl.injEq, Sum.inr.injEq, Prod.mk.injEq, nI_toInt, nI_clamp, am_ix_nI, am_ix_0, am_ix_1, am_ix_2, am_ix_3, am_n0, am_n1, am_n2, am_n3, am_n4, am_t0, am_t1, am_t2, am_t3, am_t4, am_tm1, am_nS, am_nP, am_nM, Int.ofNat_lt, Int.ofNat_le, yl_2, yl_lt, yl_t0]
    have hQ : Q (some (.int (nI (xo_mk n)))) σ := hQ
    unfold xo_mk at hQ
    refine ⟨fun h => by omega, fun _ => ⟨fun h => ?_, fun h => ?_⟩⟩
    · rwa [if_neg (by omega)] at hQ
    · rwa [if_pos (by omega)] at hQ
  | succ k ih =>
    intro t n z1 z2 z3 z4 hk hn hQ
    have hp := ym_pt_lt (show 0 < 2 by decide) hl (show t < 2 by omega)
    have hq := ym_pt_lt (show 1 < 2 by decide) hl (show t < 2 by omega)
    have hdf := ym_df_le hP hl (show t < 2 by omega)
    have hdf2 := hdf
    unfold xo_df at hdf2
    refine kX10_records_4 ?_
    simp (disch := omega) only [ax_const, ax_iload, ax_lload, ax_aload, ax_istore, ax_astore, ax_iinc, ax_i2, ax_i2n, ax_l2, ax_lsh, ax_ii, ax_il, ax_li, ax_pop, ax_dup, ax_dup2, ax_if, ax_cmp, ax_acmp, ax_goto, ax_getI, ax_getR, ax_putI, ax_putR, ax_gets, ax_getsT, ax_aldI, ax_aldR, ax_astI, ax_astR, ax_alen, ax_ret, ax_aret, ax_vret, am_st, am_kl, List.getElem?_cons_zero, List.getElem?_cons_succ, List.set_cons_zero, List.set_cons_succ, Value.category, true_and, and_true, if_true, if_false, reduceCtorEq, Bool.false_eq_true, false_implies, forall_const, Option.some.injEq, exists_eq_left', exists_eq_left, Sum.inl.injEq, Sum.inr.injEq, Prod.mk.injEq, nI_toInt, nI_clamp, am_ix_nI, am_ix_0, am_ix_1, am_ix_2, am_ix_3, am_n0, am_n1, am_n2, am_n3, am_n4, am_t0, am_t1, am_t2, am_t3, am_t4, am_tm1, am_nS, am_nP, am_nM, Int.ofNat_lt, Int.ofNat_le, yl_2, yl_lt]
    refine ⟨fun _ => ?_, fun h => by omega⟩
    refine am_callK [.int (nI 0), .int (nI lb), .int (nI t)] [] (d' := 0) (lim' := (am_tp σ, am_us σ)) rfl (by omega) (Nat.le_refl _) (Nat.le_refl _) rfl (Nat.le_of_ble_eq_true rfl) am_stat ?_
    refine c_ypart (fun _ _ => ?_)
    simp (disch := omega) only [ax_const, ax_iload, ax_lload, ax_aload, ax_istore, ax_astore, ax_iinc, ax_i2, ax_i2n, ax_l2, ax_lsh, ax_ii, ax_il, ax_li, ax_pop, ax_dup, ax_dup2, ax_if, ax_cmp, ax_acmp, ax_goto, ax_getI, ax_getR, ax_putI, ax_putR, ax_gets, ax_getsT, ax_aldI, ax_aldR, ax_astI, ax_astR, ax_alen, ax_ret, ax_aret, ax_vret, am_st, am_kl, List.getElem?_cons_zero, List.getElem?_cons_succ, List.set_cons_zero, List.set_cons_succ, Value.category, true_and, and_true, if_true, if_false, reduceCtorEq, Bool.false_eq_true, false_implies, forall_const, Option.some.injEq, exists_eq_left', exists_eq_left, Sum.inl.injEq, Sum.inr.injEq, Prod.mk.injEq, nI_toInt, nI_clamp, am_ix_nI, am_ix_0, am_ix_1, am_ix_2, am_ix_3, am_n0, am_n1, am_n2, am_n3, am_n4, am_t0, am_t1, am_t2, am_t3, am_t4, am_tm1, am_nS, am_nP, am_nM, Int.ofNat_lt, Int.ofNat_le, Option.toList_some, Option.toList_none, List.cons_append, List.nil_append, List.append_nil]
    refine am_callK [.int (nI 1), .int (nI lb), .int (nI t)] [] (d' := 0) (lim' := (am_tp σ, am_us σ)) rfl (by omega) (Nat.le_refl _) (Nat.le_refl _) rfl (Nat.le_of_ble_eq_true rfl) am_stat ?_
    refine c_ypart (fun _ _ => ?_)
    simp (disch := omega) only [ax_const, ax_iload, ax_lload, ax_aload, ax_istore, ax_astore, ax_iinc, ax_i2, ax_i2n, ax_l2, ax_lsh, ax_ii, ax_il, ax_li, ax_pop, ax_dup, ax_dup2, ax_if, ax_cmp, ax_acmp, ax_goto, ax_getI, ax_getR, ax_putI, ax_putR, ax_gets, ax_getsT, ax_aldI, ax_aldR, ax_astI, ax_astR, ax_alen, ax_ret, ax_aret, ax_vret, am_st, am_kl, List.getElem?_cons_zero, List.getElem?_cons_succ, List.set_cons_zero, List.set_cons_succ, Value.category, true_and, and_true, if_true, if_false, reduceCtorEq, Bool.false_eq_true, false_implies, forall_const, Option.some.injEq, exists_eq_left', exists_eq_left, Sum.inl.injEq, Sum.inr.injEq, Prod.mk.injEq, nI_toInt, nI_clamp, am_ix_nI, am_ix_0, am_ix_1, am_ix_2, am_ix_3, am_n0, am_n1, am_n2, am_n3, am_n4, am_t0, am_t1, am_t2, am_t3, am_t4, am_tm1, am_nS, am_nP, am_nM, Int.ofNat_lt, Int.ofNat_le, Option.toList_some, Option.toList_none, List.cons_append, List.nil_append, List.append_nil, yl_6, pk_mul]
    refine ym_rec_32 hd H hP hp hq (P (ym_pt 0 lb t)) [] n rfl (by have := (hP _ hp).2.1; omega) ?_
    refine ym_rec_87 hd H hP hp hq (P (ym_pt 1 lb t)) [] _ _ rfl (by have := (hP _ hq).2.1; unfold ym_C at hdf2; omega) (fun y1 y2 => ?_)
    refine ih (t + 1) _ _ _ _ _ (by omega) (by unfold ym_C at hdf2; omega) ?_
    rw [xo_s] at hQ
    have e : n + xr_sum (xr_mis (P (ym_pt 1 lb t))) (P (ym_pt 0 lb t)) + xr_sum (xr_dif (P (ym_pt 0 lb t))) (P (ym_pt 1 lb t)) + xo_s (xo_df (ym_C P 0 lb) (ym_C P 1 lb)) k (t + 1) = n + (xo_df (ym_C P 0 lb) (ym_C P 1 lb) t + xo_s (xo_df (ym_C P 0 lb) (ym_C P 1 lb)) k (t + 1)) := by
      show _ = n + (xr_sum (xr_dif (P (ym_pt 0 lb t))) (P (ym_pt 1 lb t)) + xr_sum (xr_mis (P (ym_pt 1 lb t))) (P (ym_pt 0 lb t)) + _)
      omega
    rw [e]
    exact hQ
theorem c_yrecords {g : am_G} {l : Launch} {σ : am_S} {m lb : Nat} {P : Nat → List xr_E} {Q : Option Value → am_S → Prop} (H : ym_H σ m) (hP : ym_P σ m P) (hl : lb < 8) (hQ : Q (some (.int (nI (xo_due (ym_C P 0 lb) (ym_C P 1 lb))))) σ) : am_C g l mX10_records 1 (am_tp σ, am_us σ) [.ref m, .int (nI lb)] σ Q := by
  refine am_C.go [some (.ref m), some (.int (nI lb)), none, none, none, none, none, none] (by decide +kernel) (Nat.le_of_ble_eq_true rfl) rfl (kX10_records_0 ?_)
  simp (disch := omega) only [ax_const, ax_iload, ax_lload, ax_aload, ax_istore, ax_astore, ax_iinc, ax_i2, ax_i2n, ax_l2, ax_lsh, ax_ii, ax_il, ax_li, ax_pop, ax_dup, ax_dup2, ax_if, ax_cmp, ax_acmp, ax_goto, ax_getI, ax_getR, ax_putI, ax_putR, ax_gets, ax_getsT, ax_aldI, ax_aldR, ax_astI, ax_astR, ax_alen, ax_ret, ax_aret, ax_vret, am_st, am_kl, List.getElem?_cons_zero, List.getElem?_cons_succ, List.set_cons_zero, List.set_cons_succ, Value.category, true_and, and_true, if_true, if_false, reduceCtorEq, Bool.false_eq_true, false_implies, forall_const, Option.some.injEq, exists_eq_left', exists_eq_left, Sum.inl.injEq, Sum.inr.injEq, Prod.mk.injEq, nI_toInt, nI_clamp, am_ix_nI, am_ix_0, am_ix_1, am_ix_2, am_ix_3, am_n0, am_n1, am_n2, am_n3, am_n4, am_t0, am_t1, am_t2, am_t3, am_t4, am_tm1, am_nS, am_nP, am_nM, Int.ofNat_lt, Int.ofNat_le]
  exact ym_rec_4 (Nat.le_refl _) H hP hl 2 0 0 _ _ _ _ rfl (Nat.le_refl _) (by rw [Nat.zero_add]; exact hQ)
