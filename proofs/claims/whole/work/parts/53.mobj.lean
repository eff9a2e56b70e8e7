/-! the reference: its whole picture; label .. cut -/
def ym_h (x h : Int32) : Prop := (h = -1 ∧ x = 0) ∨ ∃ i, i < 4 ∧ h = nI i ∧ x = nI (i + 1)
theorem ym_h.eq {x h : Int32} {i : Nat} (hh : ym_h x h) (hi : i < 4) : x = nI (i + 1) ↔ h = nI i := by
  rcases hh with ⟨rfl, rfl⟩ | ⟨j, hj, rfl, rfl⟩
  · constructor
    · intro q
      have := (nI_inj (a := 0) (by omega) (by omega)).mp q
      omega
    · intro q
      exact absurd q.symm (nI_m1 (by omega))
  · rw [nI_inj (by omega) (by omega), nI_inj (by omega) (by omega)]
    omega
theorem ym_h.pos {x h : Int32} (hh : ym_h x h) : 0 < x.toInt ↔ h ≠ -1 := by
  rcases hh with ⟨rfl, rfl⟩ | ⟨j, hj, rfl, rfl⟩
  · exact ⟨fun q => absurd q (by decide), fun q => absurd rfl q⟩
  · rw [yl_t0 (by omega)]
    exact ⟨fun _ => nI_m1 (by omega), fun _ => by omega⟩
theorem ym_h.own {i : Nat} (hi : i < 4) : ym_h (nI (i + 1)) (nI i) := Or.inr ⟨i, hi, rfl, rfl⟩
theorem ym_h.free : ym_h 0 (-1) := Or.inl ⟨rfl, rfl⟩
def ym_Se (σ : am_S) (m i : Nat) (dr : List Nat) (rr rc : Nat) (rv : Nat → Nat → Int32) : Prop :=
  am_i σ (m + 9) i = nI dr.length ∧ dr.length ≤ 80 ∧ (∀ j c, dr[j]? = some c → am_i σ (m + 8) (80 * i + j) = nI c) ∧ am_i σ (m + 29) i = nI rr ∧ am_i σ (m + 30) i = nI rc ∧ rr ≤ 40 ∧ rc ≤ 3 ∧ ∀ r c, r < rr → c < rc → am_i σ (m + 31) (120 * i + 3 * r + c) = rv r c
def ym_O (σ : am_S) (m : Nat) (D : xx_D) : Prop :=
  ym_H σ m ∧ (∀ i, i < 4 → am_i σ (m + 1) i = nI (D.1 i) ∧ D.1 i < 8) ∧
  (∃ P, ym_P σ m P ∧ ∀ lb, lb < 8 → ∀ t, t < 2 → P (ym_pt 0 lb t) = D.2.1 lb t ∧ (D.2.2.2.1 lb ≠ -1 → P (ym_pt 1 lb t) = D.2.2.1 lb t)) ∧
  (∀ lb, lb < 8 → ym_h (am_i σ (m + 6) lb) (D.2.2.2.1 lb) ∧ am_i σ (m + 7) lb = nI (D.2.2.2.2.1 lb) ∧ D.2.2.2.2.1 lb ≤ 30) ∧
  ∀ i, i < 4 → ym_Se σ m i (D.2.2.2.2.2.1 i) (D.2.2.2.2.2.2.1 i) (D.2.2.2.2.2.2.2.1 i) (D.2.2.2.2.2.2.2.2 i)
def ym_sc (m b : Nat) : Prop := b = m ∨ (m + 10 ≤ b ∧ b ≤ m + 28)
theorem ym_Se.f {Q : Nat → Prop} {σ σ' : am_S} {m i : Nat} {dr : List Nat} {rr rc : Nat} {rv : Nat → Nat → Int32} (h : ym_Se σ m i dr rr rc rv) (hf : ym_f Q σ σ') (h8 : ¬ Q (m + 8)) (h9 : ¬ Q (m + 9)) (h29 : ¬ Q (m + 29)) (h30 : ¬ Q (m + 30)) (h31 : ¬ Q (m + 31)) : ym_Se σ' m i dr rr rc rv := by
  unfold ym_Se
  rw [hf.i h8, hf.i h9, hf.i h29, hf.i h30, hf.i h31]
  exact h
theorem ym_O.sc {σ σ' : am_S} {m : Nat} {D : xx_D} (h : ym_O σ m D) (hf : ym_f (ym_sc m) σ σ') : ym_O σ' m D := by
  obtain ⟨h1, h2, ⟨P, h3, h4⟩, h5, h6⟩ := h
  have n : ∀ b, (m + 1 ≤ b ∧ b ≤ m + 9) ∨ m + 29 ≤ b → ¬ ym_sc m b := fun b x y => by unfold ym_sc at y; omega
  refine ⟨h1.f hf, by rw [hf.i (n _ (by omega))]; exact h2, ⟨P, h3.f hf (n _ (by omega)) (n _ (by omega)) (n _ (by omega)) (n _ (by omega)), h4⟩, by rw [hf.i (n _ (by omega)), hf.i (n _ (by omega))]; exact h5, fun i hi => (h6 i hi).f hf (n _ (by omega)) (n _ (by omega)) (n _ (by omega)) (n _ (by omega)) (n _ (by omega))⟩
def ym_fr (m : Nat) (σ σ' : am_S) : Prop := ym_f (fun b => m + 1 ≤ b ∧ b ≤ m + 31 ∧ b ≠ m + 14) σ σ'
def ym_sq (m b : Nat) : Prop := m + 15 ≤ b ∧ b ≤ m + 28
theorem ym_sq.sc {m b : Nat} (h : ym_sq m b) : ym_sc m b := Or.inr ⟨by unfold ym_sq at h; omega, h.2⟩
theorem ym_fr.sc {m : Nat} {σ σ' : am_S} (h : ym_f (ym_sq m) σ σ') : ym_fr m σ σ' := h.mono (fun b x => by unfold ym_sq at x; omega)
theorem ym_O.ext {σ : am_S} {m : Nat} {D D' : xx_D} (h : ym_O σ m D) (h1 : ∀ i, i < 8 → (∀ t, t < 2 → D'.2.1 i t = D.2.1 i t ∧ (D.2.2.2.1 i ≠ -1 → D'.2.2.1 i t = D.2.2.1 i t)) ∧ D'.2.2.2.1 i = D.2.2.2.1 i ∧ D'.2.2.2.2.1 i = D.2.2.2.2.1 i) (h2 : ∀ i, i < 4 → D'.1 i = D.1 i ∧ D'.2.2.2.2.2.1 i = D.2.2.2.2.2.1 i ∧ D'.2.2.2.2.2.2.1 i = D.2.2.2.2.2.2.1 i ∧ D'.2.2.2.2.2.2.2.1 i = D.2.2.2.2.2.2.2.1 i ∧ D'.2.2.2.2.2.2.2.2 i = D.2.2.2.2.2.2.2.2 i) : ym_O σ m D' := by
  obtain ⟨a1, a2, ⟨P, a3, a4⟩, a5, a6⟩ := h
  refine ⟨a1, fun i hi => ?_, ⟨P, a3, fun lb hlb t ht => ?_⟩, fun lb hlb => ?_, fun i hi => ?_⟩
  · rw [(h2 i hi).1]; exact a2 i hi
  · obtain ⟨e1, e2, e3⟩ := h1 lb hlb
    refine ⟨(a4 lb hlb t ht).1.trans (e1 t ht).1.symm, fun q => ?_⟩
    rw [e2] at q
    exact ((a4 lb hlb t ht).2 q).trans ((e1 t ht).2 q).symm
  · obtain ⟨e1, e2, e3⟩ := h1 lb hlb
    rw [e2, e3]; exact a5 lb hlb
  · obtain ⟨e1, e2, e3, e4, e5⟩ := h2 i hi
    rw [e2, e3, e4, e5]; exact a6 i hi
theorem c_ylabel {g : am_G} {l : Launch} {σ : am_S} {m : Nat} {D : xx_D} {s : Int32} {Q : Option Value → am_S → Prop} (h : ym_O σ m D) (hQ0 : ¬ xx_in s → Q (some (.int (-1))) σ) (hQ1 : ∀ i, i < 4 → s = nI i → Q (some (.int (nI (D.1 i)))) σ) : am_C g l mX10_label 1 (am_tp σ, am_us σ) [.ref m, .int s] σ Q := by
  have H := h.1
  have o1 : ¬ (1 : Int32) = 0 := by decide
  refine am_C.go [some (.ref m), some (.int s)] (by decide +kernel) (Nat.le_of_ble_eq_true rfl) rfl (kX10_label_0 ?_)
  simp (disch := omega) only [ax_const, ax_iload, ax_lload, ax_aload, ax_istore, ax_astore, ax_iinc, ax_i2, ax_i2n, ax_l2, ax_lsh, ax_ii, ax_il, ax_li, ax_pop, ax_dup, ax_dup2, ax_if, ax_cmp, ax_acmp, ax_goto, ax_getI, ax_getR, ax_putI, ax_putR, ax_gets, ax_getsT, ax_aldI, ax_aldR, ax_astI, ax_astR, ax_alen, ax_ret, ax_aret, ax_vret, am_st, am_kl, List.getElem?_cons_zero, List.getElem?_cons_succ, List.set_cons_zero, List.set_cons_succ, Value.category, true_and, and_true, if_true, if_false, reduceCtorEq, Bool.false_eq_true, false_implies, forall_const, Option.some.injEq, exists_eq_left', exists_eq_left, Sum.inl.injEq, Sum.inr.injEq, Prod.mk.injEq, nI_toInt, nI_clamp, am_ix_nI, am_ix_0, am_ix_1, am_ix_2, am_ix_3, am_n0, am_n1, am_n2, am_n3, am_n4, am_t0, am_t1, am_t2, am_t3, am_t4, am_tm1, am_nS, am_nP, am_nM, Int.ofNat_lt, Int.ofNat_le]
  refine am_callK [.int s] [] (d' := 0) (lim' := (am_tp σ, am_us σ)) rfl (by decide) (Nat.le_refl _) (Nat.le_refl _) rfl (Nat.le_of_ble_eq_true rfl) am_stat ?_
  refine c_yisSession (fun _ _ => ?_)
  by_cases q : 0 ≤ s.toInt ∧ s.toInt < 4
  · rw [if_pos q]
    obtain ⟨i, hi, rfl⟩ := xx_in.of q
    obtain ⟨b1, b2⟩ := h.2.1 i hi
    have hv := hQ1 i hi rfl
    simp (disch := omega) only [ax_const, ax_iload, ax_lload, ax_aload, ax_istore, ax_astore, ax_iinc, ax_i2, ax_i2n, ax_l2, ax_lsh, ax_ii, ax_il, ax_li, ax_pop, ax_dup, ax_dup2, ax_if, ax_cmp, ax_acmp, ax_goto, ax_getI, ax_getR, ax_putI, ax_putR, ax_gets, ax_getsT, ax_aldI, ax_aldR, ax_astI, ax_astR, ax_alen, ax_ret, ax_aret, ax_vret, am_st, am_kl, List.getElem?_cons_zero, List.getElem?_cons_succ, List.set_cons_zero, List.set_cons_succ, Value.category, true_and, and_true, if_true, if_false, reduceCtorEq, Bool.false_eq_true, false_implies, forall_const, Option.some.injEq, exists_eq_left', exists_eq_left, Sum.inl.injEq, Sum.inr.injEq, Prod.mk.injEq, nI_toInt, nI_clamp, am_ix_nI, am_ix_0, am_ix_1, am_ix_2, am_ix_3, am_n0, am_n1, am_n2, am_n3, am_n4, am_t0, am_t1, am_t2, am_t3, am_t4, am_tm1, am_nS, am_nP, am_nM, Int.ofNat_lt, Int.ofNat_le, Option.toList_some, Option.toList_none, List.cons_append, List.nil_append, List.append_nil, o1, H.1, H.r0, H.s0, b1]
    exact fun _ => ⟨hi, hv⟩
  · rw [if_neg q]
    simp (disch := omega) only [ax_const, ax_iload, ax_lload, ax_aload, ax_istore, ax_astore, ax_iinc, ax_i2, ax_i2n, ax_l2, ax_lsh, ax_ii, ax_il, ax_li, ax_pop, ax_dup, ax_dup2, ax_if, ax_cmp, ax_acmp, ax_goto, ax_getI, ax_getR, ax_putI, ax_putR, ax_gets, ax_getsT, ax_aldI, ax_aldR, ax_astI, ax_astR, ax_alen, ax_ret, ax_aret, ax_vret, am_st, am_kl, List.getElem?_cons_zero, List.getElem?_cons_succ, List.set_cons_zero, List.set_cons_succ, Value.category, true_and, and_true, if_true, if_false, reduceCtorEq, Bool.false_eq_true, false_implies, forall_const, Option.some.injEq, exists_eq_left', exists_eq_left, Sum.inl.injEq, Sum.inr.injEq, Prod.mk.injEq, nI_toInt, nI_clamp, am_ix_nI, am_ix_0, am_ix_1, am_ix_2, am_ix_3, am_n0, am_n1, am_n2, am_n3, am_n4, am_t0, am_t1, am_t2, am_t3, am_t4, am_tm1, am_nS, am_nP, am_nM, Int.ofNat_lt, Int.ofNat_le, Option.toList_some, Option.toList_none, List.cons_append, List.nil_append, List.append_nil]
    exact ⟨hQ0 q, fun z => absurd trivial z⟩
theorem c_ylog {g : am_G} {l : Launch} {σ : am_S} {m : Nat} {D : xx_D} {s : Int32} {Q : Option Value → am_S → Prop} (h : ym_O σ m D) (hQ0 : ¬ xx_in s → Q (some (.int (-1))) σ) (hQ1 : ∀ i, i < 4 → s = nI i → Q (some (.int (nI (D.2.2.2.2.1 (D.1 i))))) σ) : am_C g l mX10_log 1 (am_tp σ, am_us σ) [.ref m, .int s] σ Q := by
  have H := h.1
  have o1 : ¬ (1 : Int32) = 0 := by decide
  refine am_C.go [some (.ref m), some (.int s)] (by decide +kernel) (Nat.le_of_ble_eq_true rfl) rfl (kX10_log_0 ?_)
  simp (disch := omega) only [ax_const, ax_iload, ax_lload, ax_aload, ax_istore, ax_astore, ax_iinc, ax_i2, ax_i2n, ax_l2, ax_lsh, ax_ii, ax_il, ax_li, ax_pop, ax_dup, ax_dup2, ax_if, ax_cmp, ax_acmp, ax_goto, ax_getI, ax_getR, ax_putI, ax_putR, ax_gets, ax_getsT, ax_aldI, ax_aldR, ax_astI, ax_astR, ax_alen, ax_ret, ax_aret, ax_vret, am_st, am_kl, List.getElem?_cons_zero, List.getElem?_cons_succ, List.set_cons_zero, List.set_cons_succ, Value.category, true_and, and_true, if_true, if_false, reduceCtorEq, Bool.false_eq_true, false_implies, forall_const, Option.some.injEq, exists_eq_left', exists_eq_left, Sum.inl.injEq, Sum.inr.injEq, Prod.mk.injEq, nI_toInt, nI_clamp, am_ix_nI, am_ix_0, am_ix_1, am_ix_2, am_ix_3, am_n0, am_n1, am_n2, am_n3, am_n4, am_t0, am_t1, am_t2, am_t3, am_t4, am_tm1, am_nS, am_nP, am_nM, Int.ofNat_lt, Int.ofNat_le]
  refine am_callK [.int s] [] (d' := 0) (lim' := (am_tp σ, am_us σ)) rfl (by decide) (Nat.le_refl _) (Nat.le_refl _) rfl (Nat.le_of_ble_eq_true rfl) am_stat ?_
  refine c_yisSession (fun _ _ => ?_)
  by_cases q : 0 ≤ s.toInt ∧ s.toInt < 4
  · rw [if_pos q]
    obtain ⟨i, hi, rfl⟩ := xx_in.of q
    obtain ⟨b1, b2⟩ := h.2.1 i hi
    obtain ⟨b3, b4, b5⟩ := h.2.2.2.1 (D.1 i) b2
    have hv := hQ1 i hi rfl
    simp (disch := omega) only [ax_const, ax_iload, ax_lload, ax_aload, ax_istore, ax_astore, ax_iinc, ax_i2, ax_i2n, ax_l2, ax_lsh, ax_ii, ax_il, ax_li, ax_pop, ax_dup, ax_dup2, ax_if, ax_cmp, ax_acmp, ax_goto, ax_getI, ax_getR, ax_putI, ax_putR, ax_gets, ax_getsT, ax_aldI, ax_aldR, ax_astI, ax_astR, ax_alen, ax_ret, ax_aret, ax_vret, am_st, am_kl, List.getElem?_cons_zero, List.getElem?_cons_succ, List.set_cons_zero, List.set_cons_succ, Value.category, true_and, and_true, if_true, if_false, reduceCtorEq, Bool.false_eq_true, false_implies, forall_const, Option.some.injEq, exists_eq_left', exists_eq_left, Sum.inl.injEq, Sum.inr.injEq, Prod.mk.injEq, nI_toInt, nI_clamp, am_ix_nI, am_ix_0, am_ix_1, am_ix_2, am_ix_3, am_n0, am_n1, am_n2, am_n3, am_n4, am_t0, am_t1, am_t2, am_t3, am_t4, am_tm1, am_nS, am_nP, am_nM, Int.ofNat_lt, Int.ofNat_le, Option.toList_some, Option.toList_none, List.cons_append, List.nil_append, List.append_nil, o1, H.1, H.r0, H.s0, H.r6, H.s6, b1, b4]
    exact fun _ => ⟨hi, b2, hv⟩
  · rw [if_neg q]
    simp (disch := omega) only [ax_const, ax_iload, ax_lload, ax_aload, ax_istore, ax_astore, ax_iinc, ax_i2, ax_i2n, ax_l2, ax_lsh, ax_ii, ax_il, ax_li, ax_pop, ax_dup, ax_dup2, ax_if, ax_cmp, ax_acmp, ax_goto, ax_getI, ax_getR, ax_putI, ax_putR, ax_gets, ax_getsT, ax_aldI, ax_aldR, ax_astI, ax_astR, ax_alen, ax_ret, ax_aret, ax_vret, am_st, am_kl, List.getElem?_cons_zero, List.getElem?_cons_succ, List.set_cons_zero, List.set_cons_succ, Value.category, true_and, and_true, if_true, if_false, reduceCtorEq, Bool.false_eq_true, false_implies, forall_const, Option.some.injEq, exists_eq_left', exists_eq_left, Sum.inl.injEq, Sum.inr.injEq, Prod.mk.injEq, nI_toInt, nI_clamp, am_ix_nI, am_ix_0, am_ix_1, am_ix_2, am_ix_3, am_n0, am_n1, am_n2, am_n3, am_n4, am_t0, am_t1, am_t2, am_t3, am_t4, am_tm1, am_nS, am_nP, am_nM, Int.ofNat_lt, Int.ofNat_le, Option.toList_some, Option.toList_none, List.cons_append, List.nil_append, List.append_nil]
    exact ⟨hQ0 q, fun z => absurd trivial z⟩
theorem c_ydraft {g : am_G} {l : Launch} {σ : am_S} {m : Nat} {D : xx_D} {s : Int32} {Q : Option Value → am_S → Prop} (h : ym_O σ m D) (hQ0 : ¬ xx_in s → Q (some (.int (-1))) σ) (hQ1 : ∀ i, i < 4 → s = nI i → Q (some (.int (nI (D.2.2.2.2.2.1 i).length))) σ) : am_C g l mX10_draft 1 (am_tp σ, am_us σ) [.ref m, .int s] σ Q := by
  have H := h.1
  have o1 : ¬ (1 : Int32) = 0 := by decide
  refine am_C.go [some (.ref m), some (.int s)] (by decide +kernel) (Nat.le_of_ble_eq_true rfl) rfl (kX10_draft_0 ?_)
  simp (disch := omega) only [ax_const, ax_iload, ax_lload, ax_aload, ax_istore, ax_astore, ax_iinc, ax_i2, ax_i2n, ax_l2, ax_lsh, ax_ii, ax_il, ax_li, ax_pop, ax_dup, ax_dup2, ax_if, ax_cmp, ax_acmp, ax_goto, ax_getI, ax_getR, ax_putI, ax_putR, ax_gets, ax_getsT, ax_aldI, ax_aldR, ax_astI, ax_astR, ax_alen, ax_ret, ax_aret, ax_vret, am_st, am_kl, List.getElem?_cons_zero, List.getElem?_cons_succ, List.set_cons_zero, List.set_cons_succ, Value.category, true_and, and_true, if_true, if_false, reduceCtorEq, Bool.false_eq_true, false_implies, forall_const, Option.some.injEq, exists_eq_left', exists_eq_left, Sum.inl.injEq, Sum.inr.injEq, Prod.mk.injEq, nI_toInt, nI_clamp, am_ix_nI, am_ix_0, am_ix_1, am_ix_2, am_ix_3, am_n0, am_n1, am_n2, am_n3, am_n4, am_t0, am_t1, am_t2, am_t3, am_t4, am_tm1, am_nS, am_nP, am_nM, Int.ofNat_lt, Int.ofNat_le]
  refine am_callK [.int s] [] (d' := 0) (lim' := (am_tp σ, am_us σ)) rfl (by decide) (Nat.le_refl _) (Nat.le_refl _) rfl (Nat.le_of_ble_eq_true rfl) am_stat ?_
  refine c_yisSession (fun _ _ => ?_)
  by_cases q : 0 ≤ s.toInt ∧ s.toInt < 4
  · rw [if_pos q]
    obtain ⟨i, hi, rfl⟩ := xx_in.of q
    have b1 := (h.2.2.2.2 i hi).1
    have hv := hQ1 i hi rfl
    simp (disch := omega) only [ax_const, ax_iload, ax_lload, ax_aload, ax_istore, ax_astore, ax_iinc, ax_i2, ax_i2n, ax_l2, ax_lsh, ax_ii, ax_il, ax_li, ax_pop, ax_dup, ax_dup2, ax_if, ax_cmp, ax_acmp, ax_goto, ax_getI, ax_getR, ax_putI, ax_putR, ax_gets, ax_getsT, ax_aldI, ax_aldR, ax_astI, ax_astR, ax_alen, ax_ret, ax_aret, ax_vret, am_st, am_kl, List.getElem?_cons_zero, List.getElem?_cons_succ, List.set_cons_zero, List.set_cons_succ, Value.category, true_and, and_true, if_true, if_false, reduceCtorEq, Bool.false_eq_true, false_implies, forall_const, Option.some.injEq, exists_eq_left', exists_eq_left, Sum.inl.injEq, Sum.inr.injEq, Prod.mk.injEq, nI_toInt, nI_clamp, am_ix_nI, am_ix_0, am_ix_1, am_ix_2, am_ix_3, am_n0, am_n1, am_n2, am_n3, am_n4, am_t0, am_t1, am_t2, am_t3, am_t4, am_tm1, am_nS, am_nP, am_nM, Int.ofNat_lt, Int.ofNat_le, Option.toList_some, Option.toList_none, List.cons_append, List.nil_append, List.append_nil, o1, H.1, H.r8, H.s8, b1]
    exact fun _ => ⟨hi, hv⟩
  · rw [if_neg q]
    simp (disch := omega) only [ax_const, ax_iload, ax_lload, ax_aload, ax_istore, ax_astore, ax_iinc, ax_i2, ax_i2n, ax_l2, ax_lsh, ax_ii, ax_il, ax_li, ax_pop, ax_dup, ax_dup2, ax_if, ax_cmp, ax_acmp, ax_goto, ax_getI, ax_getR, ax_putI, ax_putR, ax_gets, ax_getsT, ax_aldI, ax_aldR, ax_astI, ax_astR, ax_alen, ax_ret, ax_aret, ax_vret, am_st, am_kl, List.getElem?_cons_zero, List.getElem?_cons_succ, List.set_cons_zero, List.set_cons_succ, Value.category, true_and, and_true, if_true, if_false, reduceCtorEq, Bool.false_eq_true, false_implies, forall_const, Option.some.injEq, exists_eq_left', exists_eq_left, Sum.inl.injEq, Sum.inr.injEq, Prod.mk.injEq, nI_toInt, nI_clamp, am_ix_nI, am_ix_0, am_ix_1, am_ix_2, am_ix_3, am_n0, am_n1, am_n2, am_n3, am_n4, am_t0, am_t1, am_t2, am_t3, am_t4, am_tm1, am_nS, am_nP, am_nM, Int.ofNat_lt, Int.ofNat_le, Option.toList_some, Option.toList_none, List.cons_append, List.nil_append, List.append_nil]
    exact ⟨hQ0 q, fun z => absurd trivial z⟩
theorem c_yresults {g : am_G} {l : Launch} {σ : am_S} {m : Nat} {D : xx_D} {s : Int32} {Q : Option Value → am_S → Prop} (h : ym_O σ m D) (hQ0 : ¬ xx_in s → Q (some (.int (-1))) σ) (hQ1 : ∀ i, i < 4 → s = nI i → Q (some (.int (nI (D.2.2.2.2.2.2.1 i)))) σ) : am_C g l mX10_results 1 (am_tp σ, am_us σ) [.ref m, .int s] σ Q := by
  have H := h.1
  have o1 : ¬ (1 : Int32) = 0 := by decide
  refine am_C.go [some (.ref m), some (.int s)] (by decide +kernel) (Nat.le_of_ble_eq_true rfl) rfl (kX10_results_0 ?_)
  simp (disch := omega) only [ax_const, ax_iload, ax_lload, ax_aload, ax_istore, ax_astore, ax_iinc, ax_i2, ax_i2n, ax_l2, ax_lsh, ax_ii, ax_il, ax_li, ax_pop, ax_dup, ax_dup2, ax_if, ax_cmp, ax_acmp, ax_goto, ax_getI, ax_getR, ax_putI, ax_putR, ax_gets, ax_getsT, ax_aldI, ax_aldR, ax_astI, ax_astR, ax_alen, ax_ret, ax_aret, ax_vret, am_st, am_kl, List.getElem?_cons_zero, List.getElem?_cons_succ, List.set_cons_zero, List.set_cons_succ, Value.category, true_and, and_true, if_true, if_false, reduceCtorEq, Bool.false_eq_true, false_implies, forall_const, Option.some.injEq, exists_eq_left', exists_eq_left, Sum.inl.injEq, Sum.inr.injEq, Prod.mk.injEq, nI_toInt, nI_clamp, am_ix_nI, am_ix_0, am_ix_1, am_ix_2, am_ix_3, am_n0, am_n1, am_n2, am_n3, am_n4, am_t0, am_t1, am_t2, am_t3, am_t4, am_tm1, am_nS, am_nP, am_nM, Int.ofNat_lt, Int.ofNat_le]
  refine am_callK [.int s] [] (d' := 0) (lim' := (am_tp σ, am_us σ)) rfl (by decide) (Nat.le_refl _) (Nat.le_refl _) rfl (Nat.le_of_ble_eq_true rfl) am_stat ?_
  refine c_yisSession (fun _ _ => ?_)
  by_cases q : 0 ≤ s.toInt ∧ s.toInt < 4
  · rw [if_pos q]
    obtain ⟨i, hi, rfl⟩ := xx_in.of q
    have b1 := (h.2.2.2.2 i hi).2.2.2.1
    have hv := hQ1 i hi rfl
    simp (disch := omega) only [ax_const, ax_iload, ax_lload, ax_aload, ax_istore, ax_astore, ax_iinc, ax_i2, ax_i2n, ax_l2, ax_lsh, ax_ii, ax_il, ax_li, ax_pop, ax_dup, ax_dup2, ax_if, ax_cmp, ax_acmp, ax_goto, ax_getI, ax_getR, ax_putI, ax_putR, ax_gets, ax_getsT, ax_aldI, ax_aldR, ax_astI, ax_astR, ax_alen, ax_ret, ax_aret, ax_vret, am_st, am_kl, List.getElem?_cons_zero, List.getElem?_cons_succ, List.set_cons_zero, List.set_cons_succ, Value.category, true_and, and_true, if_true, if_false, reduceCtorEq, Bool.false_eq_true, false_implies, forall_const, Option.some.injEq, exists_eq_left', exists_eq_left, Sum.inl.injEq, Sum.inr.injEq, Prod.mk.injEq, nI_toInt, nI_clamp, am_ix_nI, am_ix_0, am_ix_1, am_ix_2, am_ix_3, am_n0, am_n1, am_n2, am_n3, am_n4, am_t0, am_t1, am_t2, am_t3, am_t4, am_tm1, am_nS, am_nP, am_nM, Int.ofNat_lt, Int.ofNat_le, Option.toList_some, Option.toList_none, List.cons_append, List.nil_append, List.append_nil, o1, H.1, H.r51, H.s51, b1]
    exact fun _ => ⟨hi, hv⟩
  · rw [if_neg q]
    simp (disch := omega) only [ax_const, ax_iload, ax_lload, ax_aload, ax_istore, ax_astore, ax_iinc, ax_i2, ax_i2n, ax_l2, ax_lsh, ax_ii, ax_il, ax_li, ax_pop, ax_dup, ax_dup2, ax_if, ax_cmp, ax_acmp, ax_goto, ax_getI, ax_getR, ax_putI, ax_putR, ax_gets, ax_getsT, ax_aldI, ax_aldR, ax_astI, ax_astR, ax_alen, ax_ret, ax_aret, ax_vret, am_st, am_kl, List.getElem?_cons_zero, List.getElem?_cons_succ, List.set_cons_zero, List.set_cons_succ, Value.category, true_and, and_true, if_true, if_false, reduceCtorEq, Bool.false_eq_true, false_implies, forall_const, Option.some.injEq, exists_eq_left', exists_eq_left, Sum.inl.injEq, Sum.inr.injEq, Prod.mk.injEq, nI_toInt, nI_clamp, am_ix_nI, am_ix_0, am_ix_1, am_ix_2, am_ix_3, am_n0, am_n1, am_n2, am_n3, am_n4, am_t0, am_t1, am_t2, am_t3, am_t4, am_tm1, am_nS, am_nP, am_nM, Int.ofNat_lt, Int.ofNat_le, Option.toList_some, Option.toList_none, List.cons_append, List.nil_append, List.append_nil]
    exact ⟨hQ0 q, fun z => absurd trivial z⟩
theorem c_yvalue {g : am_G} {l : Launch} {σ : am_S} {m : Nat} {D : xx_D} {s x y : Int32} {Q : Option Value → am_S → Prop} (h : ym_O σ m D) (hQ0 : ¬ xx_in s → Q (some (.int 0)) σ) (hQ1 : ∀ i, i < 4 → s = nI i → Q (some (.int (if 0 ≤ x.toInt ∧ x.toInt < D.2.2.2.2.2.2.1 i ∧ 0 ≤ y.toInt ∧ y.toInt < D.2.2.2.2.2.2.2.1 i then D.2.2.2.2.2.2.2.2 i x.toNatClampNeg y.toNatClampNeg else 0))) σ) : am_C g l mX10_value 1 (am_tp σ, am_us σ) [.ref m, .int s, .int x, .int y] σ Q := by
  have H := h.1
  have o1 : ¬ (1 : Int32) = 0 := by decide
  refine am_C.go [some (.ref m), some (.int s), some (.int x), some (.int y)] (by decide +kernel) (Nat.le_of_ble_eq_true rfl) rfl (kX10_value_0 ?_)
  simp (disch := omega) only [ax_const, ax_iload, ax_lload, ax_aload, ax_istore, ax_astore, ax_iinc, ax_i2, ax_i2n, ax_l2, ax_lsh, ax_ii, ax_il, ax_li, ax_pop, ax_dup, ax_dup2, ax_if, ax_cmp, ax_acmp, ax_goto, ax_getI, ax_getR, ax_putI, ax_putR, ax_gets, ax_getsT, ax_aldI, ax_aldR, ax_astI, ax_astR, ax_alen, ax_ret, ax_aret, ax_vret, am_st, am_kl, List.getElem?_cons_zero, List.getElem?_cons_succ, List.set_cons_zero, List.set_cons_succ, Value.category, true_and, and_true, if_true, if_false, reduceCtorEq, Bool.false_eq_true, false_implies, forall_const, Option.some.injEq, exists_eq_left', exists_eq_left, Sum.inl.injEq, Sum.inr.injEq, Prod.mk.injEq, nI_toInt, nI_clamp, am_ix_nI, am_ix_0, am_ix_1, am_ix_2, am_ix_3, am_n0, am_n1, am_n2, am_n3, am_n4, am_t0, am_t1, am_t2, am_t3, am_t4, am_tm1, am_nS, am_nP, am_nM, Int.ofNat_lt, Int.ofNat_le]
  refine am_callK [.int s] [] (d' := 0) (lim' := (am_tp σ, am_us σ)) rfl (by decide) (Nat.le_refl _) (Nat.le_refl _) rfl (Nat.le_of_ble_eq_true rfl) am_stat ?_
  refine c_yisSession (fun _ _ => ?_)
  by_cases q : 0 ≤ s.toInt ∧ s.toInt < 4
  · rw [if_pos q]
    obtain ⟨i, hi, rfl⟩ := xx_in.of q
    obtain ⟨s1, s2, s3, s4, s5, s6, s7, s8⟩ := h.2.2.2.2 i hi
    have hv := hQ1 i hi rfl
    simp (disch := omega) only [ax_const, ax_iload, ax_lload, ax_aload, ax_istore, ax_astore, ax_iinc, ax_i2, ax_i2n, ax_l2, ax_lsh, ax_ii, ax_il, ax_li, ax_pop, ax_dup, ax_dup2, ax_if, ax_cmp, ax_acmp, ax_goto, ax_getI, ax_getR, ax_putI, ax_putR, ax_gets, ax_getsT, ax_aldI, ax_aldR, ax_astI, ax_astR, ax_alen, ax_ret, ax_aret, ax_vret, am_st, am_kl, List.getElem?_cons_zero, List.getElem?_cons_succ, List.set_cons_zero, List.set_cons_succ, Value.category, true_and, and_true, if_true, if_false, reduceCtorEq, Bool.false_eq_true, false_implies, forall_const, Option.some.injEq, exists_eq_left', exists_eq_left, Sum.inl.injEq, Sum.inr.injEq, Prod.mk.injEq, nI_toInt, nI_clamp, am_ix_nI, am_ix_0, am_ix_1, am_ix_2, am_ix_3, am_n0, am_n1, am_n2, am_n3, am_n4, am_t0, am_t1, am_t2, am_t3, am_t4, am_tm1, am_nS, am_nP, am_nM, Int.ofNat_lt, Int.ofNat_le, Option.toList_some, Option.toList_none, List.cons_append, List.nil_append, List.append_nil, o1, H.1, H.r51, H.s51, H.r52, H.s52, H.r53, H.s53, s4, s5]
    refine fun _ => ⟨fun a => ?_, fun a => ⟨hi, fun b => ⟨fun c => ?_, fun c => ⟨hi, fun d => ?_, fun d => ?_⟩⟩, fun b => ?_⟩⟩
    · rwa [if_neg (by omega)] at hv
    · rwa [if_neg (by omega)] at hv
    · rw [if_pos (by omega)] at hv
      obtain ⟨r, hr, rfl⟩ := nI_of (x := x) (by rw [Int32.lt_iff_toInt_lt, Int32.toInt_zero]; omega)
      obtain ⟨c', hc, rfl⟩ := nI_of (x := y) (by rw [Int32.lt_iff_toInt_lt, Int32.toInt_zero]; omega)
      rw [nI_toInt hr] at a b
      rw [nI_toInt hc] at c d
      have e8 := s8 r c' (by omega) (by omega)
      rw [nI_clamp hr, nI_clamp hc] at hv
      simp (disch := omega) only [nI_toInt, nI_clamp, am_ix_nI, am_ix_0, am_ix_1, am_ix_2, am_ix_3, am_n0, am_n1, am_n2, am_n3, am_n4, am_t0, am_t1, am_t2, am_t3, am_t4, am_tm1, am_nS, am_nP, am_nM, Int.ofNat_lt, Int.ofNat_le, yl_120, yl_3, pk_mul, nI_add, e8]
      exact ⟨by omega, hv⟩
    · rwa [if_neg (by omega)] at hv
    · rwa [if_neg (by omega)] at hv
  · rw [if_neg q]
    simp (disch := omega) only [ax_const, ax_iload, ax_lload, ax_aload, ax_istore, ax_astore, ax_iinc, ax_i2, ax_i2n, ax_l2, ax_lsh, ax_ii, ax_il, ax_li, ax_pop, ax_dup, ax_dup2, ax_if, ax_cmp, ax_acmp, ax_goto, ax_getI, ax_getR, ax_putI, ax_putR, ax_gets, ax_getsT, ax_aldI, ax_aldR, ax_astI, ax_astR, ax_alen, ax_ret, ax_aret, ax_vret, am_st, am_kl, List.getElem?_cons_zero, List.getElem?_cons_succ, List.set_cons_zero, List.set_cons_succ, Value.category, true_and, and_true, if_true, if_false, reduceCtorEq, Bool.false_eq_true, false_implies, forall_const, Option.some.injEq, exists_eq_left', exists_eq_left, Sum.inl.injEq, Sum.inr.injEq, Prod.mk.injEq, nI_toInt, nI_clamp, am_ix_nI, am_ix_0, am_ix_1, am_ix_2, am_ix_3, am_n0, am_n1, am_n2, am_n3, am_n4, am_t0, am_t1, am_t2, am_t3, am_t4, am_tm1, am_nS, am_nP, am_nM, Int.ofNat_lt, Int.ofNat_le, Option.toList_some, Option.toList_none, List.cons_append, List.nil_append, List.append_nil]
    exact ⟨hQ0 q, fun z => absurd trivial z⟩
theorem c_ybusy {g : am_G} {l : Launch} {σ : am_S} {m : Nat} {D : xx_D} {s : Int32} {Q : Option Value → am_S → Prop} (h : ym_O σ m D) (hQ0 : ¬ xx_in s → Q (some (.int 0)) σ) (hQ1 : ∀ i, i < 4 → s = nI i → Q (some (.int (if D.2.2.2.1 (D.1 i) = nI i then 1 else 0))) σ) : am_C g l mX10_busy 1 (am_tp σ, am_us σ) [.ref m, .int s] σ Q := by
  have H := h.1
  have o1 : ¬ (1 : Int32) = 0 := by decide
  refine am_C.go [some (.ref m), some (.int s)] (by decide +kernel) (Nat.le_of_ble_eq_true rfl) rfl (kX10_busy_0 ?_)
  simp (disch := omega) only [ax_const, ax_iload, ax_lload, ax_aload, ax_istore, ax_astore, ax_iinc, ax_i2, ax_i2n, ax_l2, ax_lsh, ax_ii, ax_il, ax_li, ax_pop, ax_dup, ax_dup2, ax_if, ax_cmp, ax_acmp, ax_goto, ax_getI, ax_getR, ax_putI, ax_putR, ax_gets, ax_getsT, ax_aldI, ax_aldR, ax_astI, ax_astR, ax_alen, ax_ret, ax_aret, ax_vret, am_st, am_kl, List.getElem?_cons_zero, List.getElem?_cons_succ, List.set_cons_zero, List.set_cons_succ, Value.category, true_and, and_true, if_true, if_false, reduceCtorEq, Bool.false_eq_true, false_implies, forall_const, Option.some.injEq, exists_eq_left', exists_eq_left, Sum.inl.injEq, Sum.inr.injEq, Prod.mk.injEq, nI_toInt, nI_clamp, am_ix_nI, am_ix_0, am_ix_1, am_ix_2, am_ix_3, am_n0, am_n1, am_n2, am_n3, am_n4, am_t0, am_t1, am_t2, am_t3, am_t4, am_tm1, am_nS, am_nP, am_nM, Int.ofNat_lt, Int.ofNat_le]
  refine am_callK [.int s] [] (d' := 0) (lim' := (am_tp σ, am_us σ)) rfl (by decide) (Nat.le_refl _) (Nat.le_refl _) rfl (Nat.le_of_ble_eq_true rfl) am_stat ?_
  refine c_yisSession (fun _ _ => ?_)
  by_cases q : 0 ≤ s.toInt ∧ s.toInt < 4
  · rw [if_pos q]
    obtain ⟨i, hi, rfl⟩ := xx_in.of q
    obtain ⟨b1, b2⟩ := h.2.1 i hi
    obtain ⟨b3, b4, b5⟩ := h.2.2.2.1 (D.1 i) b2
    have hv := hQ1 i hi rfl
    simp (disch := omega) only [ax_const, ax_iload, ax_lload, ax_aload, ax_istore, ax_astore, ax_iinc, ax_i2, ax_i2n, ax_l2, ax_lsh, ax_ii, ax_il, ax_li, ax_pop, ax_dup, ax_dup2, ax_if, ax_cmp, ax_acmp, ax_goto, ax_getI, ax_getR, ax_putI, ax_putR, ax_gets, ax_getsT, ax_aldI, ax_aldR, ax_astI, ax_astR, ax_alen, ax_ret, ax_aret, ax_vret, am_st, am_kl, List.getElem?_cons_zero, List.getElem?_cons_succ, List.set_cons_zero, List.set_cons_succ, Value.category, true_and, and_true, if_true, if_false, reduceCtorEq, Bool.false_eq_true, false_implies, forall_const, Option.some.injEq, exists_eq_left', exists_eq_left, Sum.inl.injEq, Sum.inr.injEq, Prod.mk.injEq, nI_toInt, nI_clamp, am_ix_nI, am_ix_0, am_ix_1, am_ix_2, am_ix_3, am_n0, am_n1, am_n2, am_n3, am_n4, am_t0, am_t1, am_t2, am_t3, am_t4, am_tm1, am_nS, am_nP, am_nM, Int.ofNat_lt, Int.ofNat_le, Option.toList_some, Option.toList_none, List.cons_append, List.nil_append, List.append_nil, o1, H.1, H.r0, H.s0, H.r5, H.s5, b1, b3.eq hi]
    refine fun _ => ⟨hi, b2, fun c => ⟨by simp, ?_⟩, fun c => ⟨by simp, ?_⟩⟩
    · rwa [if_pos c] at hv
    · rwa [if_neg c] at hv
  · rw [if_neg q]
    simp (disch := omega) only [ax_const, ax_iload, ax_lload, ax_aload, ax_istore, ax_astore, ax_iinc, ax_i2, ax_i2n, ax_l2, ax_lsh, ax_ii, ax_il, ax_li, ax_pop, ax_dup, ax_dup2, ax_if, ax_cmp, ax_acmp, ax_goto, ax_getI, ax_getR, ax_putI, ax_putR, ax_gets, ax_getsT, ax_aldI, ax_aldR, ax_astI, ax_astR, ax_alen, ax_ret, ax_aret, ax_vret, am_st, am_kl, List.getElem?_cons_zero, List.getElem?_cons_succ, List.set_cons_zero, List.set_cons_succ, Value.category, true_and, and_true, if_true, if_false, reduceCtorEq, Bool.false_eq_true, false_implies, forall_const, Option.some.injEq, exists_eq_left', exists_eq_left, Sum.inl.injEq, Sum.inr.injEq, Prod.mk.injEq, nI_toInt, nI_clamp, am_ix_nI, am_ix_0, am_ix_1, am_ix_2, am_ix_3, am_n0, am_n1, am_n2, am_n3, am_n4, am_t0, am_t1, am_t2, am_t3, am_t4, am_tm1, am_nS, am_nP, am_nM, Int.ofNat_lt, Int.ofNat_le, Option.toList_some, Option.toList_none, List.cons_append, List.nil_append, List.append_nil]
    exact ⟨⟨by simp, hQ0 q⟩, fun z => absurd trivial z⟩
/-! a label's store is another -/
theorem ym_cp_in {P : Nat → List xr_E} {lb a b t : Nat} (hl : lb < 8) (ht : t < 2) (hab : a ≠ b) : ym_cp P lb a b 2 (ym_pt b lb t) = P (ym_pt a lb t) := by
  have n : ∀ t t', t < 2 → t' < 2 → ym_pt a lb t ≠ ym_pt b lb t' := fun t t' h h' e => hab ((ym_pt_inj hl h hl h').mp e).1
  have e : ∀ t, t < 2 → ym_cp P lb a b 1 (ym_pt a lb t) = P (ym_pt a lb t) := fun t ht => by
    show (if _ then _ else _) = _
    rw [if_neg (n t 0 ht (by decide))]
    rfl
  show (if ym_pt b lb t = ym_pt b lb 1 then ym_cp P lb a b 1 (ym_pt a lb 1) else ym_cp P lb a b 1 (ym_pt b lb t)) = _
  by_cases q : t = 1
  · subst q
    rw [if_pos rfl, e 1 (by decide)]
  · have : t = 0 := by omega
    subst this
    rw [if_neg (fun z => absurd ((ym_pt_inj hl (by decide) hl (by decide)).mp z).2.2 (by decide))]
    show (if _ then _ else _) = _
    rw [if_pos rfl]
    rfl
theorem ym_cp_out {P : Nat → List xr_E} {lb a b v lb' t : Nat} (hl : lb < 8) (hl' : lb' < 8) (ht : t < 2) (h : v ≠ b ∨ lb' ≠ lb) : ym_cp P lb a b 2 (ym_pt v lb' t) = P (ym_pt v lb' t) := by
  have n : ∀ t', t' < 2 → ym_pt v lb' t ≠ ym_pt b lb t' := fun t' h' e => by
    have := (ym_pt_inj hl' ht hl h').mp e
    omega
  show (if _ then _ else _) = _
  rw [if_neg (n 1 (by decide))]
  show (if _ then _ else _) = _
  rw [if_neg (n 0 (by decide))]
  rfl
/-- the new state, when one label's store is changed -/
theorem ym_O.store {σ σ' : am_S} {m j n : Nat} {D : xx_D} {P P' : Nat → List xr_E} {C U : Nat → List xr_E} {hh : Int32} (h : ym_O σ m D) (a4 : ∀ lb, lb < 8 → ∀ t, t < 2 → P (ym_pt 0 lb t) = D.2.1 lb t ∧ (D.2.2.2.1 lb ≠ -1 → P (ym_pt 1 lb t) = D.2.2.1 lb t)) (hj : j < 8) (hf : ym_f (fun b => m + 2 ≤ b ∧ b ≤ m + 7) σ σ') (hP : ym_P σ' m P') (h0 : ∀ t, t < 2 → P' (ym_pt 0 j t) = C t ∧ (hh ≠ -1 → P' (ym_pt 1 j t) = U t)) (h1 : ∀ lb, lb < 8 → lb ≠ j → ∀ t, t < 2 → P' (ym_pt 0 lb t) = P (ym_pt 0 lb t) ∧ P' (ym_pt 1 lb t) = P (ym_pt 1 lb t)) (h6 : ym_h (am_i σ' (m + 6) j) hh) (h7 : am_i σ' (m + 7) j = nI n) (hn : n ≤ 30) (g6 : ∀ i, i ≠ j → am_i σ' (m + 6) i = am_i σ (m + 6) i) (g7 : ∀ i, i ≠ j → am_i σ' (m + 7) i = am_i σ (m + 7) i) : ym_O σ' m (xx_ds D j C U hh n) := by
  obtain ⟨a1, a2, -, a5, a6⟩ := h
  refine ⟨a1.f hf, by rw [hf.i (by omega)]; exact a2, ⟨P', hP, fun lb hlb t ht => ?_⟩, fun lb hlb => ?_, fun i hi => (a6 i hi).f hf (by omega) (by omega) (by omega) (by omega) (by omega)⟩
  · show P' _ = (if lb = j then C else D.2.1 lb) t ∧ ((if lb = j then hh else D.2.2.2.1 lb) ≠ -1 → P' _ = (if lb = j then U else D.2.2.1 lb) t)
    by_cases e : lb = j
    · rw [if_pos e, if_pos e, if_pos e, e]
      exact h0 t ht
    · rw [if_neg e, if_neg e, if_neg e]
      obtain ⟨q1, q2⟩ := h1 lb hlb e t ht
      exact ⟨q1.trans (a4 lb hlb t ht).1, fun z => q2.trans ((a4 lb hlb t ht).2 z)⟩
  · show ym_h _ (if lb = j then hh else D.2.2.2.1 lb) ∧ _ = nI (if lb = j then n else D.2.2.2.2.1 lb) ∧ (if lb = j then n else D.2.2.2.2.1 lb) ≤ 30
    by_cases e : lb = j
    · rw [if_pos e, if_pos e, e]
      exact ⟨h6, h7, hn⟩
    · rw [if_neg e, if_neg e, g6 lb e, g7 lb e]
      exact a5 lb hlb
