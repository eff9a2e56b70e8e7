/-! select: gather, the group is noted -/
theorem ygt_182 {g : am_G} {l : Launch} {σ : am_S} {m d q x tp us : Nat} {GO FS : List Nat} {fl v4 : Int32} {z5 : Option Value} {Q : Option Value → am_S → Prop} (hH : ym_H σ m) (hG : yGr σ m GO FS) (hq : GO.length = q) (hq40 : q < 40) (hF : FS.length < 40) (hx : x ≤ FS.length)
    (hK : ∀ σ', yGr σ' m (GO ++ [x]) (if x = FS.length then FS ++ [q] else FS) → ym_f (fun b => b = m ∨ b = m + 26 ∨ b = m + 28) σ σ' → (∀ k, k ≠ 45 → am_i σ' m k = am_i σ m k) → am_W g l mX10_gather d (tp, us) Q 64 [some (.ref m), some (.int fl), some (.int (nI (q + 1))), some (.int (nI x)), some (.int v4), z5] [] σ') :
    am_W g l mX10_gather d (tp, us) Q 182 [some (.ref m), some (.int fl), some (.int (nI q)), some (.int (nI x)), some (.int v4), z5] [] σ := by
  obtain ⟨g1, g2, g3⟩ := hG
  have app : ∀ (σ' : am_S), am_i σ' (m + 26) = am_i (am_wi σ (m + 26) q (nI x)) (m + 26) → ∀ (k y : Nat), (GO ++ [x])[k]? = some y → am_i σ' (m + 26) k = nI y := by
    intro σ' e k y hk
    rw [e]
    by_cases c : k < GO.length
    · rw [List.getElem?_append_left c] at hk
      rw [ym_ij (by omega)]
      exact g2 k y hk
    · have ek : k = GO.length := by
        have := (List.getElem?_eq_some_iff.mp hk).1
        simp at this
        omega
      subst ek
      rw [List.getElem?_append_right (Nat.le_refl _), Nat.sub_self, List.getElem?_cons_zero, Option.some.injEq] at hk
      rw [hq, ym_is, hk]
  refine kX10_gather_182 ?_
  simp (disch := omega) only [ax_const, ax_iload, ax_lload, ax_aload, ax_istore, ax_astore, ax_iinc, ax_i2, ax_i2n, ax_l2, ax_lsh, ax_ii, ax_il, ax_li, ax_pop, ax_dup, ax_dup2, ax_if, ax_cmp, ax_acmp, ax_goto, ax_getI, ax_getR, ax_putI, ax_putR, ax_gets, ax_getsT, ax_aldI, ax_aldR, ax_astI, ax_astR, ax_alen, ax_ret, ax_aret, ax_vret, am_st, am_kl, List.getElem?_cons_zero, List.getElem?_cons_succ, List.set_cons_zero, List.set_cons_succ, Value.category, true_and, and_true, if_true, if_false, reduceCtorEq, Bool.false_eq_true, false_implies, forall_const, Option.some.injEq, exists_eq_left', exists_eq_left, Sum.inl.injEq, Sum.inr.injEq, Prod.mk.injEq, nI_toInt, nI_clamp, am_ix_nI, am_ix_0, am_ix_1, am_ix_2, am_ix_3, am_n0, am_n1, am_n2, am_n3, am_n4, am_t0, am_t1, am_t2, am_t3, am_t4, am_tm1, am_nS, am_nP, am_nM, Int.ofNat_lt, Int.ofNat_le, am_sh_wi, am_r_wi, am_tp_wi, am_us_wi, ym_is, ym_io, ym_ij, hH.1, hH.r48, hH.s48, hH.r50, hH.s50, g1, yl_eq]
  refine ⟨by omega, fun e => ⟨by omega, hK _ ?_ ?_ ?_⟩, fun e => hK _ ?_ ?_ ?_⟩
  · rw [if_pos e]
    refine ⟨by rw [ym_is, List.length_append]; rfl, app _ (by funext k; rw [ym_io (by omega), ym_io (by omega)]), fun k hk => ?_⟩
    rw [List.length_append, List.length_cons, List.length_nil] at hk
    rw [ym_io (by omega)]
    by_cases c : k < FS.length
    · rw [gD_lt c, ym_ij (by omega), ym_io (by omega)]
      exact g3 k c
    · have ek : k = FS.length := by omega
      rw [ek, gD_eq, ← e, ym_is]
  · exact (((ym_f.rf (P := fun b => b = m ∨ b = m + 26 ∨ b = m + 28)).wi (a := m + 26) (by omega)).wi (a := m + 28) (by omega)).wi (a := m) (by omega)
  · intro k hk
    rw [ym_ij hk, ym_io (by omega), ym_io (by omega)]
  · rw [if_neg e]
    refine ⟨by rw [ym_io (by omega)]; exact g1, app _ rfl, fun k hk => ?_⟩
    rw [ym_io (by omega)]
    exact g3 k hk
  · exact (ym_f.rf (P := fun b => b = m ∨ b = m + 26 ∨ b = m + 28)).wi (a := m + 26) (by omega)
  · intro k hk
    rw [ym_io (by omega)]
