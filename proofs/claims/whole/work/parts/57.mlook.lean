/-! the reference: look, rows, cell -/
def ym_cells (σ : am_S) (m pl : Nat) (L : List xr_E) : Prop := ∀ j e, L[j]? = some e → ∀ c, c < 4 → am_i σ (m + 20) (192 * pl + 4 * j + c) = xr_col e c
/-- the rows that were looked at, of place pl -/
def ym_N (σ : am_S) (m pl : Nat) (L : List xr_E) : Prop := am_i σ (m + 21) pl = nI L.length ∧ L.length ≤ 48 ∧ ym_cells σ m pl L
def ym_out (σ σ' : am_S) (m pl : Nat) : Prop := ∀ q, q < 192 * pl ∨ 192 * pl + 192 ≤ q → am_i σ' (m + 20) q = am_i σ (m + 20) q
theorem c_yversion {g : am_G} {l : Launch} {σ : am_S} {m lb : Nat} {D : xx_D} {Q : Option Value → am_S → Prop} (h : ym_O σ m D) (hl : lb < 8) (hQ : Q (some (.int (nI (if D.2.2.2.1 lb = -1 then 0 else 1)))) σ) : am_C g l mX10_version 0 (am_tp σ, am_us σ) [.ref m, .int (nI lb)] σ Q := by
  have H := h.1
  obtain ⟨b3, b4, b5⟩ := h.2.2.2.1 lb hl
  refine am_C.go [some (.ref m), some (.int (nI lb))] (by decide +kernel) (Nat.le_of_ble_eq_true rfl) rfl (kX10_version_0 ?_)
  simp (disch := omega) only [ax_const, ax_iload, ax_lload, ax_aload, ax_istore, ax_astore, ax_iinc, ax_i2, ax_i2n, ax_l2, ax_lsh, ax_ii, ax_il, ax_li, ax_pop, ax_dup, ax_dup2, ax_if, ax_cmp, ax_acmp, ax_goto, ax_getI, ax_getR, ax_putI, ax_putR, ax_gets, ax_getsT, ax_aldI, ax_aldR, ax_astI, ax_astR, ax_alen, ax_ret, ax_aret, ax_vret, am_st, am_kl, List.getElem?_cons_zero, List.getElem?_cons_succ, List.set_cons_zero, List.set_cons_succ, Value.category, true_and, and_true, if_true, if_false, reduceCtorEq, Bool.false_eq_true, false_implies, forall_const, Option.some.injEq, exists_eq_left', exists_eq_left, Sum.inl.injEq, Sum.inr.injEq, Prod.mk.injEq, nI_toInt, nI_clamp, am_ix_nI, am_ix_0, am_ix_1, am_ix_2, am_ix_3, am_n0, am_n1, am_n2, am_n3, am_n4, am_t0, am_t1, am_t2, am_t3, am_t4, am_tm1, am_nS, am_nP, am_nM, Int.ofNat_lt, Int.ofNat_le, H.1, H.r5, H.s5, b3.pos]
  refine ⟨hl, fun c => ?_, fun c => ?_⟩
  · rwa [if_neg c] at hQ
  · rwa [if_pos (Classical.not_not.mp c)] at hQ
theorem ym_look_158 {g : am_G} {l : Launch} {σ σ' : am_S} {m d pl p r o n j : Nat} {lab t : Int32} {L : List xr_E} {e : xr_E} {z : Option Value} {Q : Option Value → am_S → Prop} (H : ym_H σ m) (hpl : pl < 2) (hL : ym_cells σ m pl L) (hn : n = L.length) (hn48 : n < 48) (hr : r < 192) (e1 : am_i σ (m + 3) r = e.1) (e2 : am_i σ (m + 4) r = e.2.1) (e3 : am_i σ (m + 5) r = e.2.2.1) (e4 : nI o = e.2.2.2)
    (K : ∀ σ'' y, ym_cells σ'' m pl (xr_put L j e) → ym_f (fun b => b = m + 20) σ σ'' → ym_out σ σ'' m pl → am_W g l mX10_look d (am_tp σ, am_us σ) Q 44 [some (.ref m), some (.int lab), some (.int t), some (.int (nI pl)), some (.int (nI (n + 1))), some (.int (nI o)), some (.int (nI p)), some (.int (nI (r + 1))), y, z] [] σ'')
    (hj : j ≤ n) (hf : ym_f (fun b => b = m + 20) σ σ') (hJ : ∀ q, am_i σ' (m + 20) q = if 192 * pl + 4 * j + 4 ≤ q ∧ q < 192 * pl + 4 * n + 4 then am_i σ (m + 20) (q - 4) else am_i σ (m + 20) q) :
    am_W g l mX10_look d (am_tp σ, am_us σ) Q 158 [some (.ref m), some (.int lab), some (.int t), some (.int (nI pl)), some (.int (nI n)), some (.int (nI o)), some (.int (nI p)), some (.int (nI r)), some (.int (nI (192 * pl + 4 * j))), z] [] σ' := by
  have H' : ym_H σ' m := H.f hf
  have f3 : am_i σ' (m + 3) r = e.1 := by rw [hf.i (by omega)]; exact e1
  have f4 : am_i σ' (m + 4) r = e.2.1 := by rw [hf.i (by omega)]; exact e2
  have f5 : am_i σ' (m + 5) r = e.2.2.1 := by rw [hf.i (by omega)]; exact e3
  refine kX10_look_158 ?_
  simp (disch := omega) only [ax_const, ax_iload, ax_lload, ax_aload, ax_istore, ax_astore, ax_iinc, ax_i2, ax_i2n, ax_l2, ax_lsh, ax_ii, ax_il, ax_li, ax_pop, ax_dup, ax_dup2, ax_if, ax_cmp, ax_acmp, ax_goto, ax_getI, ax_getR, ax_putI, ax_putR, ax_gets, ax_getsT, ax_aldI, ax_aldR, ax_astI, ax_astR, ax_alen, ax_ret, ax_aret, ax_vret, am_st, am_kl, List.getElem?_cons_zero, List.getElem?_cons_succ, List.set_cons_zero, List.set_cons_succ, Value.category, true_and, and_true, if_true, if_false, reduceCtorEq, Bool.false_eq_true, false_implies, forall_const, Option.some.injEq, exists_eq_left', exists_eq_left, Sum.inl.injEq, Sum.inr.injEq, Prod.mk.injEq, nI_toInt, nI_clamp, am_ix_nI, am_ix_0, am_ix_1, am_ix_2, am_ix_3, am_n0, am_n1, am_n2, am_n3, am_n4, am_t0, am_t1, am_t2, am_t3, am_t4, am_tm1, am_nS, am_nP, am_nM, Int.ofNat_lt, Int.ofNat_le, am_sh_wi, am_r_wi, am_tp_wi, am_us_wi, ym_is, ym_io, ym_ij, H'.1, H'.r2, H'.s2, H'.r3, H'.s3, H'.r4, H'.s4, H'.r40, H'.s40, yl_2, nI_add, f3, f4]
  refine ⟨hr, by omega, hr, by omega, kX10_look_196 ?_⟩
  simp (disch := omega) only [ax_const, ax_iload, ax_lload, ax_aload, ax_istore, ax_astore, ax_iinc, ax_i2, ax_i2n, ax_l2, ax_lsh, ax_ii, ax_il, ax_li, ax_pop, ax_dup, ax_dup2, ax_if, ax_cmp, ax_acmp, ax_goto, ax_getI, ax_getR, ax_putI, ax_putR, ax_gets, ax_getsT, ax_aldI, ax_aldR, ax_astI, ax_astR, ax_alen, ax_ret, ax_aret, ax_vret, am_st, am_kl, List.getElem?_cons_zero, List.getElem?_cons_succ, List.set_cons_zero, List.set_cons_succ, Value.category, true_and, and_true, if_true, if_false, reduceCtorEq, Bool.false_eq_true, false_implies, forall_const, Option.some.injEq, exists_eq_left', exists_eq_left, Sum.inl.injEq, Sum.inr.injEq, Prod.mk.injEq, nI_toInt, nI_clamp, am_ix_nI, am_ix_0, am_ix_1, am_ix_2, am_ix_3, am_n0, am_n1, am_n2, am_n3, am_n4, am_t0, am_t1, am_t2, am_t3, am_t4, am_tm1, am_nS, am_nP, am_nM, Int.ofNat_lt, Int.ofNat_le, am_sh_wi, am_r_wi, am_tp_wi, am_us_wi, ym_is, ym_io, ym_ij, H'.1, H'.r2, H'.s2, H'.r3, H'.s3, H'.r4, H'.s4, H'.r40, H'.s40, yl_3, nI_add, f5]
  refine ⟨hr, by omega, by omega, ?_⟩
  generalize hb : 192 * pl + 4 * j = at_ at *
  refine K _ _ (fun q f hq c hc => ?_) ((((hf.wi (a := m + 20) rfl).wi (a := m + 20) rfl).wi (a := m + 20) rfl).wi (a := m + 20) rfl) (fun q hq => ?_)
  · subst hn
    rw [xr_put_get hj] at hq
    by_cases c1 : q = j
    · rw [if_neg (by omega), if_pos c1, Option.some.injEq] at hq
      subst c1
      subst hq
      rw [hb]
      have ec : c = 0 ∨ c = 1 ∨ c = 2 ∨ c = 3 := by omega
      rcases ec with rfl | rfl | rfl | rfl
      · rw [ym_ij (by omega), ym_ij (by omega), ym_ij (by omega)]
        exact ym_is
      · rw [ym_ij (by omega), ym_ij (by omega)]
        exact ym_is
      · rw [ym_ij (by omega)]
        exact ym_is
      · rw [ym_is]
        exact e4
    · rw [ym_ij (by omega), ym_ij (by omega), ym_ij (by omega), ym_ij (by omega), hJ]
      by_cases c2 : q < j
      · rw [if_pos c2] at hq
        rw [if_neg (by omega)]
        exact hL q f hq c hc
      · rw [if_neg c2, if_neg c1] at hq
        have hql := (List.getElem?_eq_some_iff.mp hq).1
        rw [if_pos (by omega), show 192 * pl + 4 * q + c - 4 = 192 * pl + 4 * (q - 1) + c by omega]
        exact hL (q - 1) f hq c hc
  · rw [ym_ij (by omega), ym_ij (by omega), ym_ij (by omega), ym_ij (by omega), hJ, if_neg (by omega)]
theorem ym_look_115 {g : am_G} {l : Launch} {σ : am_S} {m d pl p r o n j : Nat} {lab t : Int32} {Q : Option Value → am_S → Prop} (H : ym_H σ m) (hpl : pl < 2) (hn48 : n < 48) (hj : j + 1 ≤ n)
    (K : ∀ σ' z, ym_f (fun b => b = m + 20) σ σ' → (∀ q, am_i σ' (m + 20) q = if 192 * pl + 4 * j + 4 ≤ q ∧ q < 192 * pl + 4 * n + 4 then am_i σ (m + 20) (q - 4) else am_i σ (m + 20) q) → am_W g l mX10_look d (am_tp σ, am_us σ) Q 83 [some (.ref m), some (.int lab), some (.int t), some (.int (nI pl)), some (.int (nI n)), some (.int (nI o)), some (.int (nI p)), some (.int (nI r)), some (.int (nI (192 * pl + 4 * j))), z] [] σ') :
    ∀ (w k : Nat), w + k = 4 → ∀ σ', ym_f (fun b => b = m + 20) σ σ' → (∀ q, am_i σ' (m + 20) q = if (192 * pl + 4 * j + 4 ≤ q ∧ q < 192 * pl + 4 * j + 4 + k) ∨ (192 * pl + 4 * j + 8 ≤ q ∧ q < 192 * pl + 4 * n + 4) then am_i σ (m + 20) (q - 4) else am_i σ (m + 20) q) →
      am_W g l mX10_look d (am_tp σ, am_us σ) Q 115 [some (.ref m), some (.int lab), some (.int t), some (.int (nI pl)), some (.int (nI n)), some (.int (nI o)), some (.int (nI p)), some (.int (nI r)), some (.int (nI (192 * pl + 4 * j + 4))), some (.int (nI k))] [] σ' := by
  intro w
  induction w with
  | zero =>
    intro k hk σ' hf hJ
    refine kX10_look_115 ?_
    simp (disch := omega) only [ax_const, ax_iload, ax_lload, ax_aload, ax_istore, ax_astore, ax_iinc, ax_i2, ax_i2n, ax_l2, ax_lsh, ax_ii, ax_il, ax_li, ax_pop, ax_dup, ax_dup2, ax_if, ax_cmp, ax_acmp, ax_goto, ax_getI, ax_getR, ax_putI, ax_putR, ax_gets, ax_getsT, ax_aldI, ax_aldR, ax_astI, ax_astR, ax_alen, ax_ret, ax_aret, ax_vret, am_st, am_kl, List.getElem?_cons_zero, List.getElem?_cons_succ, List.set_cons_zero, List.set_cons_succ, Value.category, true_and, and_true, if_true, if_false, reduceCtorEq, Bool.false_eq_true, false_implies, forall_const, Option.some.injEq, exists_eq_left', exists_eq_left, Sum.inl.injEq, Sum.inr.injEq, Prod.mk.injEq, nI_toInt, nI_clamp, am_ix_nI, am_ix_0, am_ix_1, am_ix_2, am_ix_3, am_n0, am_n1, am_n2, am_n3, am_n4, am_t0, am_t1, am_t2, am_t3, am_t4, am_tm1, am_nS, am_nP, am_nM, Int.ofNat_lt, Int.ofNat_le, yl_4, yl_lt, pk_sub, Nat.add_sub_cancel]
    refine ⟨fun h => by omega, fun _ => K σ' _ hf (fun q => ?_)⟩
    rw [hJ]
    by_cases c : 192 * pl + 4 * j + 4 ≤ q ∧ q < 192 * pl + 4 * n + 4
    · rw [if_pos c, if_pos (by omega)]
    · rw [if_neg c, if_neg (by omega)]
  | succ w ih =>
    intro k hk σ' hf hJ
    have H' : ym_H σ' m := H.f hf
    refine kX10_look_115 ?_
    simp (disch := omega) only [ax_const, ax_iload, ax_lload, ax_aload, ax_istore, ax_astore, ax_iinc, ax_i2, ax_i2n, ax_l2, ax_lsh, ax_ii, ax_il, ax_li, ax_pop, ax_dup, ax_dup2, ax_if, ax_cmp, ax_acmp, ax_goto, ax_getI, ax_getR, ax_putI, ax_putR, ax_gets, ax_getsT, ax_aldI, ax_aldR, ax_astI, ax_astR, ax_alen, ax_ret, ax_aret, ax_vret, am_st, am_kl, List.getElem?_cons_zero, List.getElem?_cons_succ, List.set_cons_zero, List.set_cons_succ, Value.category, true_and, and_true, if_true, if_false, reduceCtorEq, Bool.false_eq_true, false_implies, forall_const, Option.some.injEq, exists_eq_left', exists_eq_left, Sum.inl.injEq, Sum.inr.injEq, Prod.mk.injEq, nI_toInt, nI_clamp, am_ix_nI, am_ix_0, am_ix_1, am_ix_2, am_ix_3, am_n0, am_n1, am_n2, am_n3, am_n4, am_t0, am_t1, am_t2, am_t3, am_t4, am_tm1, am_nS, am_nP, am_nM, Int.ofNat_lt, Int.ofNat_le, H'.1, H'.r40, H'.s40, yl_4, yl_lt, nI_add, pk_sub]
    refine ⟨fun _ => ⟨by omega, by omega, ih (k + 1) (by omega) _ (hf.wi (a := m + 20) rfl) (fun q => ?_)⟩, fun h => by omega⟩
    by_cases e : q = 192 * pl + 4 * j + 4 + k
    · rw [e, ym_is, hJ, if_neg (by omega), if_pos (by omega)]
    · rw [ym_ij e, hJ]
      by_cases c : (192 * pl + 4 * j + 4 ≤ q ∧ q < 192 * pl + 4 * j + 4 + k) ∨ (192 * pl + 4 * j + 8 ≤ q ∧ q < 192 * pl + 4 * n + 4)
      · rw [if_pos c, if_pos (by omega)]
      · rw [if_neg c, if_neg (by omega)]
theorem ym_look_83 {g : am_G} {l : Launch} {σ : am_S} {m d pl p r o n : Nat} {lab t : Int32} {L : List xr_E} {e : xr_E} {Q : Option Value → am_S → Prop} (H : ym_H σ m) (hpl : pl < 2) (hL : ym_cells σ m pl L) (hn : n = L.length) (hn48 : n < 48) (hr : r < 192) (e1 : am_i σ (m + 3) r = e.1) (e2 : am_i σ (m + 4) r = e.2.1) (e3 : am_i σ (m + 5) r = e.2.2.1) (e4 : nI o = e.2.2.2) :
    ∀ (j : Nat), (∀ σ'' y z, ym_cells σ'' m pl (xr_put L (xr_pos e.1 L j) e) → ym_f (fun b => b = m + 20) σ σ'' → ym_out σ σ'' m pl → am_W g l mX10_look d (am_tp σ, am_us σ) Q 44 [some (.ref m), some (.int lab), some (.int t), some (.int (nI pl)), some (.int (nI (n + 1))), some (.int (nI o)), some (.int (nI p)), some (.int (nI (r + 1))), y, z] [] σ'') →
      j ≤ n → ∀ (σ' : am_S) (z : Option Value), ym_f (fun b => b = m + 20) σ σ' → (∀ q, am_i σ' (m + 20) q = if 192 * pl + 4 * j + 4 ≤ q ∧ q < 192 * pl + 4 * n + 4 then am_i σ (m + 20) (q - 4) else am_i σ (m + 20) q) →
      am_W g l mX10_look d (am_tp σ, am_us σ) Q 83 [some (.ref m), some (.int lab), some (.int t), some (.int (nI pl)), some (.int (nI n)), some (.int (nI o)), some (.int (nI p)), some (.int (nI r)), some (.int (nI (192 * pl + 4 * j))), z] [] σ' := by
  intro j
  induction j with
  | zero =>
    intro K hj σ' z hf hJ
    refine kX10_look_83 ?_
    simp (disch := omega) only [ax_const, ax_iload, ax_lload, ax_aload, ax_istore, ax_astore, ax_iinc, ax_i2, ax_i2n, ax_l2, ax_lsh, ax_ii, ax_il, ax_li, ax_pop, ax_dup, ax_dup2, ax_if, ax_cmp, ax_acmp, ax_goto, ax_getI, ax_getR, ax_putI, ax_putR, ax_gets, ax_getsT, ax_aldI, ax_aldR, ax_astI, ax_astR, ax_alen, ax_ret, ax_aret, ax_vret, am_st, am_kl, List.getElem?_cons_zero, List.getElem?_cons_succ, List.set_cons_zero, List.set_cons_succ, Value.category, true_and, and_true, if_true, if_false, reduceCtorEq, Bool.false_eq_true, false_implies, forall_const, Option.some.injEq, exists_eq_left', exists_eq_left, Sum.inl.injEq, Sum.inr.injEq, Prod.mk.injEq, nI_toInt, nI_clamp, am_ix_nI, am_ix_0, am_ix_1, am_ix_2, am_ix_3, am_n0, am_n1, am_n2, am_n3, am_n4, am_t0, am_t1, am_t2, am_t3, am_t4, am_tm1, am_nS, am_nP, am_nM, Int.ofNat_lt, Int.ofNat_le, yl_192, pk_mul, yl_lt]
    exact ⟨fun h => by omega, fun _ => ym_look_158 H hpl hL hn hn48 hr e1 e2 e3 e4 (fun σ'' y a b c => K σ'' y z a b c) hj hf hJ⟩
  | succ j ih =>
    intro K hj σ' z hf hJ
    have H' : ym_H σ' m := H.f hf
    have hget : L[j]? = some L[j] := List.getElem?_eq_getElem (by omega)
    have eg : L.getD j (0, 0, 0, 0) = L[j] := by rw [List.getD_eq_getElem?_getD, hget]; rfl
    have hk : am_i σ' (m + 20) (192 * pl + 4 * (j + 1) - 4) = L[j].1 := by
      rw [hJ, if_neg (by omega), show 192 * pl + 4 * (j + 1) - 4 = 192 * pl + 4 * j + 0 by omega]
      exact hL j _ hget 0 (by decide)
    have hkey : am_i σ' (m + 3) r = e.1 := by rw [hf.i (by omega)]; exact e1
    rw [xr_pos, eg] at K
    refine kX10_look_83 ?_
    simp (disch := omega) only [ax_const, ax_iload, ax_lload, ax_aload, ax_istore, ax_astore, ax_iinc, ax_i2, ax_i2n, ax_l2, ax_lsh, ax_ii, ax_il, ax_li, ax_pop, ax_dup, ax_dup2, ax_if, ax_cmp, ax_acmp, ax_goto, ax_getI, ax_getR, ax_putI, ax_putR, ax_gets, ax_getsT, ax_aldI, ax_aldR, ax_astI, ax_astR, ax_alen, ax_ret, ax_aret, ax_vret, am_st, am_kl, List.getElem?_cons_zero, List.getElem?_cons_succ, List.set_cons_zero, List.set_cons_succ, Value.category, true_and, and_true, if_true, if_false, reduceCtorEq, Bool.false_eq_true, false_implies, forall_const, Option.some.injEq, exists_eq_left', exists_eq_left, Sum.inl.injEq, Sum.inr.injEq, Prod.mk.injEq, nI_toInt, nI_clamp, am_ix_nI, am_ix_0, am_ix_1, am_ix_2, am_ix_3, am_n0, am_n1, am_n2, am_n3, am_n4, am_t0, am_t1, am_t2, am_t3, am_t4, am_tm1, am_nS, am_nP, am_nM, Int.ofNat_lt, Int.ofNat_le, H'.1, H'.r2, H'.s2, H'.r40, H'.s40, yl_192, yl_4, pk_mul, yl_lt, pk_sub, hk, hkey]
    refine ⟨fun _ => ⟨by omega, hr, fun q => ?_, fun q => ?_⟩, fun h => by omega⟩
    · rw [if_pos q] at K
      have := ym_look_115 (g := g) (l := l) (d := d) (p := p) (r := r) (o := o) (lab := lab) (t := t) (Q := Q) H hpl hn48 hj (fun σ2 z2 hf2 hJ2 => ih K (by omega) σ2 z2 hf2 hJ2) 4 0 rfl σ' hf (fun q => by
        rw [hJ]
        by_cases c : 192 * pl + 4 * (j + 1) + 4 ≤ q ∧ q < 192 * pl + 4 * n + 4
        · rw [if_pos c, if_pos (by omega)]
        · rw [if_neg c, if_neg (by omega)])
      rw [show 192 * pl + 4 * (j + 1) = 192 * pl + 4 * j + 4 by omega]
      exact this
    · rw [if_neg q] at K
      exact ym_look_158 H hpl hL hn hn48 hr e1 e2 e3 e4 (fun σ'' y a b c => K σ'' y z a b c) hj hf hJ
theorem ym_look_44 {g : am_G} {l : Launch} {σ0 : am_S} {m d pl p o lab : Nat} {t : Int32} {P : Nat → List xr_E} {Q : Option Value → am_S → Prop} (H0 : ym_H σ0 m) (hP : ym_P σ0 m P) (hpl : pl < 2) (hp : p < 32) (hlb : ∀ e, e ∈ P p → e.2.2.2 = nI o) {F : List xr_E}
    (K : ∀ σ' y1 y2 y3, ym_cells σ' m pl F → ym_f (fun b => b = m + 20) σ0 σ' → ym_out σ0 σ' m pl → am_W g l mX10_look d (am_tp σ0, am_us σ0) Q 6 [some (.ref m), some (.int (nI lab)), some (.int t), some (.int (nI pl)), some (.int (nI F.length)), some (.int (nI (o + 1))), some (.int (nI p)), y1, y2, y3] [] σ') :
    ∀ (T pre L : List xr_E), P p = pre ++ T → L.length + T.length ≤ 48 → F = (if nI o &&& nI lab = nI o then T.foldl xr_add L else L) → ∀ (σ : am_S) (z1 z2 : Option Value), ym_cells σ m pl L → ym_f (fun b => b = m + 20) σ0 σ → ym_out σ0 σ m pl →
      am_W g l mX10_look d (am_tp σ0, am_us σ0) Q 44 [some (.ref m), some (.int (nI lab)), some (.int t), some (.int (nI pl)), some (.int (nI L.length)), some (.int (nI o)), some (.int (nI p)), some (.int (nI (6 * p + pre.length))), z1, z2] [] σ := by
  obtain ⟨k1, k2, k3⟩ := hP p hp
  intro T
  induction T with
  | nil =>
    intro pre L hT hl hF σ z1 z2 hL hf ho
    have H : ym_H σ m := H0.f hf
    have hFL : F = L := by rw [hF]; split <;> rfl
    subst hFL
    rw [List.append_nil] at hT
    rw [hT] at k1
    have k1' : am_i σ (m + 2) p = nI pre.length := by rw [hf.i (by omega)]; exact k1
    rw [hT] at k2
    refine kX10_look_44 ?_
    simp (disch := omega) only [ax_const, ax_iload, ax_lload, ax_aload, ax_istore, ax_astore, ax_iinc, ax_i2, ax_i2n, ax_l2, ax_lsh, ax_ii, ax_il, ax_li, ax_pop, ax_dup, ax_dup2, ax_if, ax_cmp, ax_acmp, ax_goto, ax_getI, ax_getR, ax_putI, ax_putR, ax_gets, ax_getsT, ax_aldI, ax_aldR, ax_astI, ax_astR, ax_alen, ax_ret, ax_aret, ax_vret, am_st, am_kl, List.getElem?_cons_zero, List.getElem?_cons_succ, List.set_cons_zero, List.set_cons_succ, Value.category, true_and, and_true, if_true, if_false, reduceCtorEq, Bool.false_eq_true, false_implies, forall_const, Option.some.injEq, exists_eq_left', exists_eq_left, Sum.inl.injEq, Sum.inr.injEq, Prod.mk.injEq, nI_toInt, nI_clamp, am_ix_nI, am_ix_0, am_ix_1, am_ix_2, am_ix_3, am_n0, am_n1, am_n2, am_n3, am_n4, am_t0, am_t1, am_t2, am_t3, am_t4, am_tm1, am_nS, am_nP, am_nM, Int.ofNat_lt, Int.ofNat_le, H.1, H.r1, H.s1, yl_6, pk_mul, nI_add, k1', yl_lt]
    exact ⟨hp, fun h => by omega, fun _ => K σ _ _ _ hL hf ho⟩
  | cons e T ih =>
    intro pre L hT hl hF σ z1 z2 hL hf ho
    have H : ym_H σ m := H0.f hf
    have hle : (P p).length = pre.length + (T.length + 1) := by rw [hT, List.length_append, List.length_cons]
    obtain ⟨e1, e2, e3⟩ := k3 pre.length e (by rw [hT]; simp)
    have k1' : am_i σ (m + 2) p = nI (pre.length + (T.length + 1)) := by rw [hf.i (by omega), k1, hle]
    rw [List.length_cons] at hl
    have e4 : nI o = e.2.2.2 := (hlb e (by rw [hT]; simp)).symm
    refine kX10_look_44 ?_
    simp (disch := omega) only [ax_const, ax_iload, ax_lload, ax_aload, ax_istore, ax_astore, ax_iinc, ax_i2, ax_i2n, ax_l2, ax_lsh, ax_ii, ax_il, ax_li, ax_pop, ax_dup, ax_dup2, ax_if, ax_cmp, ax_acmp, ax_goto, ax_getI, ax_getR, ax_putI, ax_putR, ax_gets, ax_getsT, ax_aldI, ax_aldR, ax_astI, ax_astR, ax_alen, ax_ret, ax_aret, ax_vret, am_st, am_kl, List.getElem?_cons_zero, List.getElem?_cons_succ, List.set_cons_zero, List.set_cons_succ, Value.category, true_and, and_true, if_true, if_false, reduceCtorEq, Bool.false_eq_true, false_implies, forall_const, Option.some.injEq, exists_eq_left', exists_eq_left, Sum.inl.injEq, Sum.inr.injEq, Prod.mk.injEq, nI_toInt, nI_clamp, am_ix_nI, am_ix_0, am_ix_1, am_ix_2, am_ix_3, am_n0, am_n1, am_n2, am_n3, am_n4, am_t0, am_t1, am_t2, am_t3, am_t4, am_tm1, am_nS, am_nP, am_nM, Int.ofNat_lt, Int.ofNat_le, H.1, H.r1, H.s1, yl_6, yl_4, yl_192, pk_mul, nI_add, k1', yl_lt]
    refine ⟨hp, fun _ => ⟨fun c => ?_, fun c => ?_⟩, fun h => by omega⟩
    · rw [if_pos c, List.foldl_cons] at hF
      have := ym_look_83 (g := g) (l := l) (d := d) (p := p) (o := o) (lab := nI lab) (t := t) (Q := Q) (r := 6 * p + pre.length) (e := e) H hpl hL rfl (by omega) (by omega) (by rw [hf.i (by omega)]; exact e1) (by rw [hf.i (by omega)]; exact e2) (by rw [hf.i (by omega)]; exact e3) e4 L.length (fun σ'' y z hc' hf' ho' => ?_) (Nat.le_refl _) σ z2 .rf (fun q => by rw [if_neg (by omega)])
      · rw [hf.tp, hf.us] at this
        exact this
      · rw [hf.tp, hf.us]
        have := ih (pre ++ [e]) (xr_add L e) (by rw [hT]; simp) (by rw [xr_add_len]; omega) (by rw [if_pos c]; exact hF) σ'' y z hc' (hf.tr hf') (fun q hq => (ho' q hq).trans (ho q hq))
        rw [List.length_append, List.length_cons, List.length_nil, xr_add_len] at this
        exact this
    · rw [if_neg c] at hF
      subst hF
      exact K σ _ _ _ hL hf ho
theorem xx_dom_m {o lab : Nat} (ho : o < 8) (hl : lab < 8) : (nI o &&& nI lab = nI o) ↔ xx_dom lab o = true := by
  have key : ∀ o, o < 8 → ∀ lab, lab < 8 → (decide (nI o &&& nI lab = nI o) = xx_dom lab o) := by decide +kernel
  rw [← key o ho lab hl, decide_eq_true_iff]
theorem xx_dom_s {o : Nat} (ho : o < 8) : xx_dom o o = true := by
  have key : ∀ o, o < 8 → xx_dom o o = true := by decide +kernel
  exact key o ho
/-- the labels that the rows have -/
def xx_lb (D : xx_D) : Prop := ∀ lb, lb < 8 → ∀ t, t < 2 → (∀ e, e ∈ D.2.1 lb t → e.2.2.2 = nI lb) ∧ ∀ e, e ∈ D.2.2.1 lb t → e.2.2.2 = nI lb
theorem ym_look_6 {g : am_G} {l : Launch} {σ0 : am_S} {m d pl lab t : Nat} {D : xx_D} {V : List xr_E} {Q : Option Value → am_S → Prop} (hd : 1 ≤ d) (h : ym_O σ0 m D) (hB : xx_lb D) (hpl : pl < 2) (hlab : lab < 8) (ht : t < 2) (hw : D.2.2.2.1 lab = -1 → D.2.2.1 lab t = D.2.1 lab t)
    (hQ : ∀ σ', ym_N σ' m pl V → ym_f (fun b => b = m + 20 ∨ b = m + 21) σ0 σ' → ym_out σ0 σ' m pl → (∀ j, j ≠ pl → am_i σ' (m + 21) j = am_i σ0 (m + 21) j) → Q none σ') :
    ∀ (k o : Nat) (L : List xr_E), k + o = 8 → L.length ≤ 6 * o → xx_see D lab t k o L = V → ∀ (σ : am_S) (z1 z2 z3 z4 : Option Value), ym_cells σ m pl L → ym_f (fun b => b = m + 20) σ0 σ → ym_out σ0 σ m pl →
      am_W g l mX10_look d (am_tp σ0, am_us σ0) Q 6 [some (.ref m), some (.int (nI lab)), some (.int (nI t)), some (.int (nI pl)), some (.int (nI L.length)), some (.int (nI o)), z1, z2, z3, z4] [] σ := by
  intro k
  induction k with
  | zero =>
    intro o L hk hl hV σ z1 z2 z3 z4 hL hf ho
    have hV : L = V := hV
    subst hV
    have H : ym_H σ m := h.1.f hf
    refine kX10_look_6 ?_
    simp (disch := omega) only [ax_const, ax_iload, ax_lload, ax_aload, ax_istore, ax_astore, ax_iinc, ax_i2, ax_i2n, ax_l2, ax_lsh, ax_ii, ax_il, ax_li, ax_pop, ax_dup, ax_dup2, ax_if, ax_cmp, ax_acmp, ax_goto, ax_getI, ax_getR, ax_putI, ax_putR, ax_gets, ax_getsT, ax_aldI, ax_aldR, ax_astI, ax_astR, ax_alen, ax_ret, ax_aret, ax_vret, am_st, am_kl, List.getElem?_cons_zero, List.getElem?_cons_succ, List.set_cons_zero, List.set_cons_succ, Value.category, true_and, and_true, if_true, if_false, reduceCtorEq, Bool.false_eq_true, false_implies, forall_const, Option.some.injEq, exists_eq_left', exists_eq_left, Sum.inl.injEq, Sum.inr.injEq, Prod.mk.injEq, nI_toInt, nI_clamp, am_ix_nI, am_ix_0, am_ix_1, am_ix_2, am_ix_3, am_n0, am_n1, am_n2, am_n3, am_n4, am_t0, am_t1, am_t2, am_t3, am_t4, am_tm1, am_nS, am_nP, am_nM, Int.ofNat_lt, Int.ofNat_le, am_sh_wi, am_r_wi, am_tp_wi, am_us_wi, ym_is, ym_io, ym_ij, H.1, H.r41, H.s41, yl_8, yl_lt]
    refine ⟨fun h => by omega, fun _ => ⟨hpl, hf.tp, hf.us, hQ _ ⟨ym_is, by omega, fun j e hj c hc => ?_⟩ ((hf.mono (fun b x => Or.inl x)).wi (a := m + 21) (Or.inr rfl)) (fun q hq => ?_) (fun j hj => ?_)⟩⟩
    · rw [ym_io (by omega)]; exact hL j e hj c hc
    · rw [ym_io (by omega)]; exact ho q hq
    · rw [ym_ij hj, hf.i (by omega)]
  | succ k ih =>
    intro o L hk hl hV σ z1 z2 z3 z4 hL hf ho
    have ho8 : o < 8 := by omega
    have hO : ym_O σ m D := h.sc (hf.mono (fun b x => by unfold ym_sc; omega))
    have H := hO.1
    obtain ⟨a1, a2, ⟨P, a3, a4⟩, a5, a6⟩ := id h
    rw [xx_see] at hV
    have e0 : (0 : Int32) = nI 0 := rfl
    have fin : ∀ (v : Nat), v < 2 → P (ym_pt v o t) = (if o = lab then D.2.2.1 o t else D.2.1 o t) → am_W g l mX10_look d (am_tp σ0, am_us σ0) Q 29 [some (.ref m), some (.int (nI lab)), some (.int (nI t)), some (.int (nI pl)), some (.int (nI L.length)), some (.int (nI o)), z1, z2, z3, z4] [.int (nI v)] σ := by
      intro v hv hPv
      have hp := ym_pt_lt hv ho8 ht
      obtain ⟨b1, b2⟩ := hB o ho8 t ht
      have hlb : ∀ e, e ∈ P (ym_pt v o t) → e.2.2.2 = nI o := by
        rw [hPv]
        split
        · exact b2
        · exact b1
      have hvl : (if nI o &&& nI lab = nI o then (P (ym_pt v o t)).foldl xr_add L else L) = (xx_vl D lab t o).foldl xr_add L := by
        rw [hPv]
        unfold xx_vl
        by_cases e : o = lab
        · subst e
          rw [if_pos rfl, if_pos ((xx_dom_m ho8 ho8).mpr (xx_dom_s ho8)), if_pos rfl]
        · rw [if_neg e, if_neg e]
          by_cases c : nI o &&& nI lab = nI o
          · rw [if_pos c, if_pos ((xx_dom_m ho8 hlab).mp c)]
          · rw [if_neg c, if_neg (fun q => c ((xx_dom_m ho8 hlab).mpr q))]
            rfl
      refine kX10_look_29 ?_
      simp (disch := omega) only [ax_const, ax_iload, ax_lload, ax_aload, ax_istore, ax_astore, ax_iinc, ax_i2, ax_i2n, ax_l2, ax_lsh, ax_ii, ax_il, ax_li, ax_pop, ax_dup, ax_dup2, ax_if, ax_cmp, ax_acmp, ax_goto, ax_getI, ax_getR, ax_putI, ax_putR, ax_gets, ax_getsT, ax_aldI, ax_aldR, ax_astI, ax_astR, ax_alen, ax_ret, ax_aret, ax_vret, am_st, am_kl, List.getElem?_cons_zero, List.getElem?_cons_succ, List.set_cons_zero, List.set_cons_succ, Value.category, true_and, and_true, if_true, if_false, reduceCtorEq, Bool.false_eq_true, false_implies, forall_const, Option.some.injEq, exists_eq_left', exists_eq_left, Sum.inl.injEq, Sum.inr.injEq, Prod.mk.injEq, nI_toInt, nI_clamp, am_ix_nI, am_ix_0, am_ix_1, am_ix_2, am_ix_3, am_n0, am_n1, am_n2, am_n3, am_n4, am_t0, am_t1, am_t2, am_t3, am_t4, am_tm1, am_nS, am_nP, am_nM, Int.ofNat_lt, Int.ofNat_le]
      refine am_callK [.int (nI v), .int (nI o), .int (nI t)] [] (d' := 0) (lim' := (am_tp σ, am_us σ)) rfl (by omega) (Nat.le_of_eq hf.tp) (Nat.le_of_eq hf.us) rfl (by decide) am_stat ?_
      refine c_ypart (fun _ _ => ?_)
      simp (disch := omega) only [ax_const, ax_iload, ax_lload, ax_aload, ax_istore, ax_astore, ax_iinc, ax_i2, ax_i2n, ax_l2, ax_lsh, ax_ii, ax_il, ax_li, ax_pop, ax_dup, ax_dup2, ax_if, ax_cmp, ax_acmp, ax_goto, ax_getI, ax_getR, ax_putI, ax_putR, ax_gets, ax_getsT, ax_aldI, ax_aldR, ax_astI, ax_astR, ax_alen, ax_ret, ax_aret, ax_vret, am_st, am_kl, List.getElem?_cons_zero, List.getElem?_cons_succ, List.set_cons_zero, List.set_cons_succ, Value.category, true_and, and_true, if_true, if_false, reduceCtorEq, Bool.false_eq_true, false_implies, forall_const, Option.some.injEq, exists_eq_left', exists_eq_left, Sum.inl.injEq, Sum.inr.injEq, Prod.mk.injEq, nI_toInt, nI_clamp, am_ix_nI, am_ix_0, am_ix_1, am_ix_2, am_ix_3, am_n0, am_n1, am_n2, am_n3, am_n4, am_t0, am_t1, am_t2, am_t3, am_t4, am_tm1, am_nS, am_nP, am_nM, Int.ofNat_lt, Int.ofNat_le, Option.toList_some, Option.toList_none, List.cons_append, List.nil_append, List.append_nil, yl_6, pk_mul]
      have h6 := (a3 _ hp).2.1
      have hlenvl : ((xx_vl D lab t o).foldl xr_add L).length ≤ L.length + 6 := by
        rw [← hvl]
        split
        · rw [xx_fold_len]; omega
        · omega
      refine ym_look_44 h.1 a3 hpl hp hlb (F := (xx_vl D lab t o).foldl xr_add L) (fun σ' y1 y2 y3 hc' hf' ho' => ih (o + 1) _ (by omega) (by omega) hV σ' _ y1 y2 y3 hc' hf' ho') (P (ym_pt v o t)) [] L rfl (by omega) hvl.symm σ _ _ hL hf ho
    refine kX10_look_6 ?_
    simp (disch := omega) only [ax_const, ax_iload, ax_lload, ax_aload, ax_istore, ax_astore, ax_iinc, ax_i2, ax_i2n, ax_l2, ax_lsh, ax_ii, ax_il, ax_li, ax_pop, ax_dup, ax_dup2, ax_if, ax_cmp, ax_acmp, ax_goto, ax_getI, ax_getR, ax_putI, ax_putR, ax_gets, ax_getsT, ax_aldI, ax_aldR, ax_astI, ax_astR, ax_alen, ax_ret, ax_aret, ax_vret, am_st, am_kl, List.getElem?_cons_zero, List.getElem?_cons_succ, List.set_cons_zero, List.set_cons_succ, Value.category, true_and, and_true, if_true, if_false, reduceCtorEq, Bool.false_eq_true, false_implies, forall_const, Option.some.injEq, exists_eq_left', exists_eq_left, Sum.inl.injEq, Sum.inr.injEq, Prod.mk.injEq, nI_toInt, nI_clamp, am_ix_nI, am_ix_0, am_ix_1, am_ix_2, am_ix_3, am_n0, am_n1, am_n2, am_n3, am_n4, am_t0, am_t1, am_t2, am_t3, am_t4, am_tm1, am_nS, am_nP, am_nM, Int.ofNat_lt, Int.ofNat_le, yl_8, yl_lt, yl_eq]
    refine ⟨fun _ => ⟨fun e => ?_, fun e => ?_⟩, fun h => by omega⟩
    · refine am_callK [.ref m, .int (nI o)] [] (d' := 0) (lim' := (am_tp σ, am_us σ)) rfl (by omega) (Nat.le_of_eq hf.tp) (Nat.le_of_eq hf.us) rfl (by decide) (am_recv H.1) ?_
      refine c_yversion hO ho8 (fun _ _ => ?_)
      simp (disch := omega) only [ax_const, ax_iload, ax_lload, ax_aload, ax_istore, ax_astore, ax_iinc, ax_i2, ax_i2n, ax_l2, ax_lsh, ax_ii, ax_il, ax_li, ax_pop, ax_dup, ax_dup2, ax_if, ax_cmp, ax_acmp, ax_goto, ax_getI, ax_getR, ax_putI, ax_putR, ax_gets, ax_getsT, ax_aldI, ax_aldR, ax_astI, ax_astR, ax_alen, ax_ret, ax_aret, ax_vret, am_st, am_kl, List.getElem?_cons_zero, List.getElem?_cons_succ, List.set_cons_zero, List.set_cons_succ, Value.category, true_and, and_true, if_true, if_false, reduceCtorEq, Bool.false_eq_true, false_implies, forall_const, Option.some.injEq, exists_eq_left', exists_eq_left, Sum.inl.injEq, Sum.inr.injEq, Prod.mk.injEq, Option.toList_some, Option.toList_none, List.cons_append, List.nil_append, List.append_nil]
      by_cases c : D.2.2.2.1 o = -1
      · rw [if_pos c]
        refine fin 0 (by decide) ?_
        rw [if_pos e, (a4 o ho8 t ht).1, e]
        exact (hw (by rw [← e]; exact c)).symm
      · rw [if_neg c]
        refine fin 1 (by decide) ?_
        rw [if_pos e]
        exact (a4 o ho8 t ht).2 c
    · exact fin 0 (by decide) (by rw [if_neg e]; exact (a4 o ho8 t ht).1)
theorem c_ylook {g : am_G} {l : Launch} {σ : am_S} {m pl lab t : Nat} {D : xx_D} {Q : Option Value → am_S → Prop} (h : ym_O σ m D) (hB : xx_lb D) (hpl : pl < 2) (hlab : lab < 8) (ht : t < 2) (hw : D.2.2.2.1 lab = -1 → D.2.2.1 lab t = D.2.1 lab t)
    (hQ : ∀ σ', ym_N σ' m pl (xx_V D lab t) → ym_f (fun b => b = m + 20 ∨ b = m + 21) σ σ' → ym_out σ σ' m pl → (∀ j, j ≠ pl → am_i σ' (m + 21) j = am_i σ (m + 21) j) → Q none σ') : am_C g l mX10_look 1 (am_tp σ, am_us σ) [.ref m, .int (nI lab), .int (nI t), .int (nI pl)] σ Q := by
  refine am_C.go [some (.ref m), some (.int (nI lab)), some (.int (nI t)), some (.int (nI pl)), none, none, none, none, none, none] (by decide +kernel) (Nat.le_of_ble_eq_true rfl) rfl (kX10_look_0 ?_)
  simp (disch := omega) only [ax_const, ax_iload, ax_lload, ax_aload, ax_istore, ax_astore, ax_iinc, ax_i2, ax_i2n, ax_l2, ax_lsh, ax_ii, ax_il, ax_li, ax_pop, ax_dup, ax_dup2, ax_if, ax_cmp, ax_acmp, ax_goto, ax_getI, ax_getR, ax_putI, ax_putR, ax_gets, ax_getsT, ax_aldI, ax_aldR, ax_astI, ax_astR, ax_alen, ax_ret, ax_aret, ax_vret, am_st, am_kl, List.getElem?_cons_zero, List.getElem?_cons_succ, List.set_cons_zero, List.set_cons_succ, Value.category, true_and, and_true, if_true, if_false, reduceCtorEq, Bool.false_eq_true, false_implies, forall_const, Option.some.injEq, exists_eq_left', exists_eq_left, Sum.inl.injEq, Sum.inr.injEq, Prod.mk.injEq, nI_toInt, nI_clamp, am_ix_nI, am_ix_0, am_ix_1, am_ix_2, am_ix_3, am_n0, am_n1, am_n2, am_n3, am_n4, am_t0, am_t1, am_t2, am_t3, am_t4, am_tm1, am_nS, am_nP, am_nM, Int.ofNat_lt, Int.ofNat_le]
  exact ym_look_6 (Nat.le_refl _) h hB hpl hlab ht hw hQ 8 0 [] rfl (Nat.zero_le _) rfl σ _ _ _ _ (fun j e hj => by simp at hj) .rf (fun q _ => rfl)
