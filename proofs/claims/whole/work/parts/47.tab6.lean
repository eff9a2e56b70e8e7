/-! LabelledTables: crash, abort, cut, write -/
theorem xx_O.ext {g : am_G} {σ : am_S} {X : Nat} {D D' : xx_D} (h : xx_O g σ X D) (h1 : ∀ i, i < 8 → D'.2.1 i = D.2.1 i ∧ D'.2.2.1 i = D.2.2.1 i ∧ D'.2.2.2.1 i = D.2.2.2.1 i ∧ D'.2.2.2.2.1 i = D.2.2.2.2.1 i) (h2 : ∀ i, i < 4 → D'.1 i = D.1 i ∧ D'.2.2.2.2.2.1 i = D.2.2.2.2.2.1 i ∧ D'.2.2.2.2.2.2.1 i = D.2.2.2.2.2.2.1 i ∧ D'.2.2.2.2.2.2.2.1 i = D.2.2.2.2.2.2.2.1 i ∧ D'.2.2.2.2.2.2.2.2 i = D.2.2.2.2.2.2.2.2 i) : xx_O g σ X D' := by
  obtain ⟨a1, a2, a3, a4⟩ := h
  refine ⟨a1, fun i hi => ?_, fun i hi => ?_, a4⟩
  · obtain ⟨e1, e2, e3, e4⟩ := h1 i hi
    rw [e1, e2, e3, e4]
    exact a2 i hi
  · obtain ⟨e1, e2, e3, e4, e5⟩ := h2 i hi
    rw [e1, e2, e3, e4, e5]
    exact a3 i hi
/-- a session's draft and results are others -/
def xx_es (D : xx_D) (j : Nat) (dr : List Nat) (rr rc : Nat) (rv : Nat → Nat → Int32) : xx_D := (D.1, D.2.1, D.2.2.1, D.2.2.2.1, D.2.2.2.2.1, fun i => if i = j then dr else D.2.2.2.2.2.1 i, fun i => if i = j then rr else D.2.2.2.2.2.2.1 i, fun i => if i = j then rc else D.2.2.2.2.2.2.2.1 i, fun i => if i = j then rv else D.2.2.2.2.2.2.2.2 i)
theorem xx_O.sess {g : am_G} {σ σ' : am_S} {X j rr rc : Nat} {D : xx_D} {dr : List Nat} {rv : Nat → Nat → Int32} (h : xx_O g σ X D) (hj : j < 4) (hf : am_fm (fun b => xx_se X j ≤ b ∧ b < xx_se X j + 43) σ σ') (hs : xe_S σ' (xx_se X j) (xx_st X (D.1 j)) dr rr rc rv) : xx_O g σ' X (xx_es D j dr rr rc rv) := by
  obtain ⟨⟨a1, a2, a3, a4, a5, a6, a7, a8, a9⟩, hst, hse, hT, hp, ⟨p1, L1, h1⟩, hl, ⟨p2, L2, h2⟩, p3, L3, h3⟩ := h
  unfold xx_se at hf hs
  refine ⟨?_, fun i hi => ?_, fun i hi => ?_, hT.fm hf (fun b x => by omega), hp.fm hf (fun b x => by omega), ⟨p1, L1, h1.fm hf (fun b x y => by omega)⟩, ?_, ⟨p2, L2, h2.fm hf (fun b x y => by omega)⟩, p3, L3, h3.fm hf (fun b x y => by omega)⟩
  · rw [hf.1, (hf.2.2.2 X (by omega)).2]
    exact ⟨a1, a2, a3, a4, a5, a6, a7, a8, a9⟩
  · obtain ⟨b1, b2⟩ := hst i hi
    refine ⟨by rw [(hf.2.2.2 (X + 1) (by omega)).2]; exact b1, ?_⟩
    unfold xx_st at b2 ⊢
    exact b2.fm hf (fun b x y => by omega)
  · obtain ⟨b1, b2, b3⟩ := hse i hi
    refine ⟨by rw [(hf.2.2.2 (X + 2) (by omega)).2]; exact b1, b2, ?_⟩
    show xe_S σ' (xx_se X i) (xx_st X (D.1 i)) (if i = j then dr else D.2.2.2.2.2.1 i) (if i = j then rr else D.2.2.2.2.2.2.1 i) (if i = j then rc else D.2.2.2.2.2.2.2.1 i) (if i = j then rv else D.2.2.2.2.2.2.2.2 i)
    by_cases e : i = j
    · subst e
      rw [if_pos rfl, if_pos rfl, if_pos rfl, if_pos rfl]
      exact hs
    · rw [if_neg e, if_neg e, if_neg e, if_neg e]
      unfold xx_se at b3 ⊢
      exact b3.fm hf (fun b x y => by omega)
  · unfold xl_S
    rw [hf.1, (hf.2.2.2 (X + 88) (by omega)).2]
    exact hl
def xx_fr (X : Nat) (σ σ' : am_S) : Prop := am_fm (fun b => X ≤ b ∧ b < X + 719) σ σ'
theorem xx_fr.st {X i : Nat} {σ σ' : am_S} (hi : i < 8) (h : am_fm (fun b => xx_st X i ≤ b ∧ b < xx_st X i + 44) σ σ') : xx_fr X σ σ' := h.mono (fun b x => by unfold xx_st at x; omega)
theorem xx_fr.se {X i : Nat} {σ σ' : am_S} (hi : i < 4) (h : am_fm (fun b => xx_se X i ≤ b ∧ b < xx_se X i + 43) σ σ') : xx_fr X σ σ' := h.mono (fun b x => by unfold xx_se at x; omega)
def xx_cr (D : xx_D) : xx_D := (D.1, D.2.1, D.2.1, fun _ => -1, D.2.2.2.2.1, fun _ => [], fun _ => 0, D.2.2.2.2.2.2.2)
def xx_c1 (D : xx_D) (t : Nat) : xx_D := (D.1, D.2.1, fun i => if i < t then D.2.1 i else D.2.2.1 i, fun i => if i < t then -1 else D.2.2.2.1 i, D.2.2.2.2)
def xx_c2 (D : xx_D) (t : Nat) : xx_D := (D.1, D.2.1, D.2.1, fun _ => -1, D.2.2.2.2.1, fun i => if i < t then [] else D.2.2.2.2.2.1 i, fun i => if i < t then 0 else D.2.2.2.2.2.2.1 i, D.2.2.2.2.2.2.2)
theorem xx_cr_25 {g : am_G} {l : Launch} {X d tp us : Nat} {D : xx_D} {Q : Option Value → am_S → Prop} {σ0 : am_S} (hd : 1 ≤ d) (hQ : ∀ σ', xx_O g σ' X (xx_cr D) → xx_fr X σ0 σ' → Q none σ') :
    ∀ (m t : Nat) (σ : am_S), m + t = 4 → xx_O g σ X (xx_c2 D t) → xx_fr X σ0 σ → am_tp σ = tp → am_us σ = us → am_W g l mX9_crash d (tp, us) Q 25 [some (.ref X), some (.int (nI t))] [] σ := by
  intro m
  induction m with
  | zero =>
    intro t σ hm H hf h1 h2
    refine kX9_crash_25 ?_
    simp (disch := omega) only [ax_const, ax_iload, ax_lload, ax_aload, ax_istore, ax_astore, ax_iinc, ax_i2, ax_i2n, ax_l2, ax_lsh, ax_ii, ax_il, ax_li, ax_pop, ax_dup, ax_dup2, ax_if, ax_cmp, ax_acmp, ax_goto, ax_getI, ax_getR, ax_putI, ax_putR, ax_gets, ax_getsT, ax_aldI, ax_aldR, ax_astI, ax_astR, ax_alen, ax_ret, ax_aret, ax_vret, am_st, am_kl, List.getElem?_cons_zero, List.getElem?_cons_succ, List.set_cons_zero, List.set_cons_succ, Value.category, true_and, and_true, if_true, if_false, reduceCtorEq, Bool.false_eq_true, false_implies, forall_const, Option.some.injEq, exists_eq_left', exists_eq_left, Sum.inl.injEq, Sum.inr.injEq, Prod.mk.injEq, nI_toInt, nI_clamp, am_ix_nI, am_ix_0, am_ix_1, am_ix_2, am_ix_3, am_n0, am_n1, am_n2, am_n3, am_n4, am_t0, am_t1, am_t2, am_t3, am_t4, am_tm1, am_nS, am_nP, am_nM, Int.ofNat_lt, Int.ofNat_le]
    refine ⟨fun h => by omega, fun _ => ⟨h1, h2, hQ σ (H.ext (fun i hi => ⟨rfl, rfl, rfl, rfl⟩) (fun i hi => ⟨rfl, ?_, ?_, rfl, rfl⟩)) hf⟩⟩
    · show [] = if i < t then [] else _
      rw [if_pos (by omega)]
    · show 0 = if i < t then 0 else _
      rw [if_pos (by omega)]
  | succ m ih =>
    intro t σ hm H hf h1 h2
    have H0 := H
    obtain ⟨⟨a1, a2, a3, a4, a5, a6, a7, a8, a9⟩, hst, hse, -⟩ := H
    obtain ⟨b1, b2, b3⟩ := hse t (by omega)
    refine kX9_crash_25 ?_
    simp (disch := omega) only [ax_const, ax_iload, ax_lload, ax_aload, ax_istore, ax_astore, ax_iinc, ax_i2, ax_i2n, ax_l2, ax_lsh, ax_ii, ax_il, ax_li, ax_pop, ax_dup, ax_dup2, ax_if, ax_cmp, ax_acmp, ax_goto, ax_getI, ax_getR, ax_putI, ax_putR, ax_gets, ax_getsT, ax_aldI, ax_aldR, ax_astI, ax_astR, ax_alen, ax_ret, ax_aret, ax_vret, am_st, am_kl, List.getElem?_cons_zero, List.getElem?_cons_succ, List.set_cons_zero, List.set_cons_succ, Value.category, true_and, and_true, if_true, if_false, reduceCtorEq, Bool.false_eq_true, false_implies, forall_const, Option.some.injEq, exists_eq_left', exists_eq_left, Sum.inl.injEq, Sum.inr.injEq, Prod.mk.injEq, nI_toInt, nI_clamp, am_ix_nI, am_ix_0, am_ix_1, am_ix_2, am_ix_3, am_n0, am_n1, am_n2, am_n3, am_n4, am_t0, am_t1, am_t2, am_t3, am_t4, am_tm1, am_nS, am_nP, am_nM, Int.ofNat_lt, Int.ofNat_le, a1, a3, a8, b1]
    refine ⟨fun _ => ⟨by omega, ?_⟩, fun h => by omega⟩
    refine am_callK [.ref (xx_se X t)] [] (d' := 0) (lim' := (am_tp σ, am_us σ)) rfl (by omega) (by rw [h1]; exact Nat.le_refl _) (by rw [h2]; exact Nat.le_refl _) rfl (by decide) (am_recv b3.1) ?_
    refine c_eclear b3 (fun σ' hs f1 t1 u1 => ?_)
    simp (disch := omega) only [ax_const, ax_iload, ax_lload, ax_aload, ax_istore, ax_astore, ax_iinc, ax_i2, ax_i2n, ax_l2, ax_lsh, ax_ii, ax_il, ax_li, ax_pop, ax_dup, ax_dup2, ax_if, ax_cmp, ax_acmp, ax_goto, ax_getI, ax_getR, ax_putI, ax_putR, ax_gets, ax_getsT, ax_aldI, ax_aldR, ax_astI, ax_astR, ax_alen, ax_ret, ax_aret, ax_vret, am_st, am_kl, List.getElem?_cons_zero, List.getElem?_cons_succ, List.set_cons_zero, List.set_cons_succ, Value.category, true_and, and_true, if_true, if_false, reduceCtorEq, Bool.false_eq_true, false_implies, forall_const, Option.some.injEq, exists_eq_left', exists_eq_left, Sum.inl.injEq, Sum.inr.injEq, Prod.mk.injEq, nI_toInt, nI_clamp, am_ix_nI, am_ix_0, am_ix_1, am_ix_2, am_ix_3, am_n0, am_n1, am_n2, am_n3, am_n4, am_t0, am_t1, am_t2, am_t3, am_t4, am_tm1, am_nS, am_nP, am_nM, Int.ofNat_lt, Int.ofNat_le, Option.toList_some, Option.toList_none, List.cons_append, List.nil_append, List.append_nil]
    refine ih (t + 1) σ' (by omega) ((H0.sess (by omega) f1 hs).ext (fun i hi => ⟨rfl, rfl, rfl, rfl⟩) (fun i hi => ⟨rfl, ?_, ?_, ?_, ?_⟩)) (hf.tr (xx_fr.se (by omega) f1)) (t1.trans h1) (u1.trans h2)
    · show (if i < t + 1 then [] else D.2.2.2.2.2.1 i) = if i = t then [] else if i < t then [] else D.2.2.2.2.2.1 i
      by_cases e : i = t
      · rw [if_pos e, if_pos (by omega)]
      · rw [if_neg e]
        by_cases e2 : i < t
        · rw [if_pos e2, if_pos (by omega)]
        · rw [if_neg e2, if_neg (by omega)]
    · show (if i < t + 1 then 0 else D.2.2.2.2.2.2.1 i) = if i = t then 0 else if i < t then 0 else D.2.2.2.2.2.2.1 i
      by_cases e : i = t
      · rw [if_pos e, if_pos (by omega)]
      · rw [if_neg e]
        by_cases e2 : i < t
        · rw [if_pos e2, if_pos (by omega)]
        · rw [if_neg e2, if_neg (by omega)]
    · show D.2.2.2.2.2.2.2.1 i = if i = t then D.2.2.2.2.2.2.2.1 t else D.2.2.2.2.2.2.2.1 i
      by_cases e : i = t
      · rw [if_pos e, e]
      · rw [if_neg e]
    · show D.2.2.2.2.2.2.2.2 i = if i = t then D.2.2.2.2.2.2.2.2 t else D.2.2.2.2.2.2.2.2 i
      by_cases e : i = t
      · rw [if_pos e, e]
      · rw [if_neg e]
theorem xx_cr_2 {g : am_G} {l : Launch} {X d tp us : Nat} {D : xx_D} {Q : Option Value → am_S → Prop} {σ0 : am_S} (hd : 5 ≤ d) (hQ : ∀ σ', xx_O g σ' X (xx_cr D) → xx_fr X σ0 σ' → Q none σ') :
    ∀ (m t : Nat) (σ : am_S), m + t = 8 → xx_O g σ X (xx_c1 D t) → xx_fr X σ0 σ → am_tp σ = tp → am_us σ = us → am_W g l mX9_crash d (tp, us) Q 2 [some (.ref X), some (.int (nI t))] [] σ := by
  intro m
  induction m with
  | zero =>
    intro t σ hm H hf h1 h2
    have t8 : Int32.toInt 8 = 8 := rfl
    refine kX9_crash_2 ?_
    simp (disch := omega) only [ax_const, ax_iload, ax_lload, ax_aload, ax_istore, ax_astore, ax_iinc, ax_i2, ax_i2n, ax_l2, ax_lsh, ax_ii, ax_il, ax_li, ax_pop, ax_dup, ax_dup2, ax_if, ax_cmp, ax_acmp, ax_goto, ax_getI, ax_getR, ax_putI, ax_putR, ax_gets, ax_getsT, ax_aldI, ax_aldR, ax_astI, ax_astR, ax_alen, ax_ret, ax_aret, ax_vret, am_st, am_kl, List.getElem?_cons_zero, List.getElem?_cons_succ, List.set_cons_zero, List.set_cons_succ, Value.category, true_and, and_true, if_true, if_false, reduceCtorEq, Bool.false_eq_true, false_implies, forall_const, Option.some.injEq, exists_eq_left', exists_eq_left, Sum.inl.injEq, Sum.inr.injEq, Prod.mk.injEq, nI_toInt, nI_clamp, am_ix_nI, am_ix_0, am_ix_1, am_ix_2, am_ix_3, am_n0, am_n1, am_n2, am_n3, am_n4, am_t0, am_t1, am_t2, am_t3, am_t4, am_tm1, am_nS, am_nP, am_nM, Int.ofNat_lt, Int.ofNat_le, t8]
    refine ⟨fun h => by omega, fun _ => ?_⟩
    refine xx_cr_25 (by omega) hQ 4 0 σ rfl (H.ext (fun i hi => ⟨rfl, ?_, ?_, rfl⟩) (fun i hi => ⟨rfl, rfl, rfl, rfl, rfl⟩)) hf h1 h2
    · show D.2.1 i = if i < t then D.2.1 i else _
      rw [if_pos (by omega)]
    · show -1 = if i < t then -1 else _
      rw [if_pos (by omega)]
  | succ m ih =>
    intro t σ hm H hf h1 h2
    have H0 := H
    obtain ⟨⟨a1, a2, a3, a4, a5, a6, a7, a8, a9⟩, hst, hse, -⟩ := H
    obtain ⟨b1, b2⟩ := hst t (by omega)
    have t8 : Int32.toInt 8 = 8 := rfl
    refine kX9_crash_2 ?_
    simp (disch := omega) only [ax_const, ax_iload, ax_lload, ax_aload, ax_istore, ax_astore, ax_iinc, ax_i2, ax_i2n, ax_l2, ax_lsh, ax_ii, ax_il, ax_li, ax_pop, ax_dup, ax_dup2, ax_if, ax_cmp, ax_acmp, ax_goto, ax_getI, ax_getR, ax_putI, ax_putR, ax_gets, ax_getsT, ax_aldI, ax_aldR, ax_astI, ax_astR, ax_alen, ax_ret, ax_aret, ax_vret, am_st, am_kl, List.getElem?_cons_zero, List.getElem?_cons_succ, List.set_cons_zero, List.set_cons_succ, Value.category, true_and, and_true, if_true, if_false, reduceCtorEq, Bool.false_eq_true, false_implies, forall_const, Option.some.injEq, exists_eq_left', exists_eq_left, Sum.inl.injEq, Sum.inr.injEq, Prod.mk.injEq, nI_toInt, nI_clamp, am_ix_nI, am_ix_0, am_ix_1, am_ix_2, am_ix_3, am_n0, am_n1, am_n2, am_n3, am_n4, am_t0, am_t1, am_t2, am_t3, am_t4, am_tm1, am_nS, am_nP, am_nM, Int.ofNat_lt, Int.ofNat_le, t8, a1, a2, a7, b1]
    refine ⟨fun _ => ⟨by omega, ?_⟩, fun h => by omega⟩
    refine am_callK [.ref (xx_st X t)] [] (d' := 4) (lim' := (am_tp σ, am_us σ)) rfl (by omega) (by rw [h1]; exact Nat.le_refl _) (by rw [h2]; exact Nat.le_refl _) rfl (by decide) (am_recv b2.1.1) ?_
    refine c_drop b2 (fun σ' hs f1 t1 u1 => ?_)
    simp (disch := omega) only [ax_const, ax_iload, ax_lload, ax_aload, ax_istore, ax_astore, ax_iinc, ax_i2, ax_i2n, ax_l2, ax_lsh, ax_ii, ax_il, ax_li, ax_pop, ax_dup, ax_dup2, ax_if, ax_cmp, ax_acmp, ax_goto, ax_getI, ax_getR, ax_putI, ax_putR, ax_gets, ax_getsT, ax_aldI, ax_aldR, ax_astI, ax_astR, ax_alen, ax_ret, ax_aret, ax_vret, am_st, am_kl, List.getElem?_cons_zero, List.getElem?_cons_succ, List.set_cons_zero, List.set_cons_succ, Value.category, true_and, and_true, if_true, if_false, reduceCtorEq, Bool.false_eq_true, false_implies, forall_const, Option.some.injEq, exists_eq_left', exists_eq_left, Sum.inl.injEq, Sum.inr.injEq, Prod.mk.injEq, nI_toInt, nI_clamp, am_ix_nI, am_ix_0, am_ix_1, am_ix_2, am_ix_3, am_n0, am_n1, am_n2, am_n3, am_n4, am_t0, am_t1, am_t2, am_t3, am_t4, am_tm1, am_nS, am_nP, am_nM, Int.ofNat_lt, Int.ofNat_le, Option.toList_some, Option.toList_none, List.cons_append, List.nil_append, List.append_nil]
    refine ih (t + 1) σ' (by omega) ((H0.store (by omega) f1 hs).ext (fun i hi => ⟨?_, ?_, ?_, ?_⟩) (fun i hi => ⟨rfl, rfl, rfl, rfl, rfl⟩)) (hf.tr (xx_fr.st (by omega) f1)) (t1.trans h1) (u1.trans h2)
    · show D.2.1 i = if i = t then D.2.1 t else D.2.1 i
      by_cases e : i = t
      · rw [if_pos e, e]
      · rw [if_neg e]
    · show (if i < t + 1 then D.2.1 i else D.2.2.1 i) = if i = t then D.2.1 t else if i < t then D.2.1 i else D.2.2.1 i
      by_cases e : i = t
      · rw [if_pos e, if_pos (by omega), e]
      · rw [if_neg e]
        by_cases e2 : i < t
        · rw [if_pos e2, if_pos (by omega)]
        · rw [if_neg e2, if_neg (by omega)]
    · show (if i < t + 1 then -1 else D.2.2.2.1 i) = if i = t then -1 else if i < t then -1 else D.2.2.2.1 i
      by_cases e : i = t
      · rw [if_pos e, if_pos (by omega)]
      · rw [if_neg e]
        by_cases e2 : i < t
        · rw [if_pos e2, if_pos (by omega)]
        · rw [if_neg e2, if_neg (by omega)]
    · show D.2.2.2.2.1 i = if i = t then D.2.2.2.2.1 t else D.2.2.2.2.1 i
      by_cases e : i = t
      · rw [if_pos e, e]
      · rw [if_neg e]
theorem c_xcrash {g : am_G} {l : Launch} {σ : am_S} {X : Nat} {D : xx_D} {Q : Option Value → am_S → Prop} (h : xx_O g σ X D) (hQ : ∀ σ', xx_O g σ' X (xx_cr D) → xx_fr X σ σ' → Q none σ') : am_C g l mX9_crash 5 (am_tp σ, am_us σ) [.ref X] σ Q := by
  refine am_C.go [some (.ref X), none] (by decide +kernel) (Nat.le_of_ble_eq_true rfl) rfl (kX9_crash_0 ?_)
  simp (disch := omega) only [ax_const, ax_iload, ax_lload, ax_aload, ax_istore, ax_astore, ax_iinc, ax_i2, ax_i2n, ax_l2, ax_lsh, ax_ii, ax_il, ax_li, ax_pop, ax_dup, ax_dup2, ax_if, ax_cmp, ax_acmp, ax_goto, ax_getI, ax_getR, ax_putI, ax_putR, ax_gets, ax_getsT, ax_aldI, ax_aldR, ax_astI, ax_astR, ax_alen, ax_ret, ax_aret, ax_vret, am_st, am_kl, List.getElem?_cons_zero, List.getElem?_cons_succ, List.set_cons_zero, List.set_cons_succ, Value.category, true_and, and_true, if_true, if_false, reduceCtorEq, Bool.false_eq_true, false_implies, forall_const, Option.some.injEq, exists_eq_left', exists_eq_left, Sum.inl.injEq, Sum.inr.injEq, Prod.mk.injEq, nI_toInt, nI_clamp, am_ix_nI, am_ix_0, am_ix_1, am_ix_2, am_ix_3, am_n0, am_n1, am_n2, am_n3, am_n4, am_t0, am_t1, am_t2, am_t3, am_t4, am_tm1, am_nS, am_nP, am_nM, Int.ofNat_lt, Int.ofNat_le]
  exact xx_cr_2 (Nat.le_refl _) hQ 8 0 σ rfl (h.ext (fun i hi => ⟨rfl, rfl, rfl, rfl⟩) (fun i hi => ⟨rfl, rfl, rfl, rfl, rfl⟩)) .rf rfl rfl
theorem c_xabort {g : am_G} {l : Launch} {σ : am_S} {X : Nat} {D : xx_D} {s : Int32} {Q : Option Value → am_S → Prop} (h : xx_O g σ X D) (hQ0 : ¬ xx_in s → Q (some (.int (-1))) σ) (hQ1 : ∀ i, i < 4 → s = nI i → D.2.2.2.1 (D.1 i) ≠ nI i → Q (some (.int (-8))) σ)
    (hQ2 : ∀ i, i < 4 → s = nI i → D.2.2.2.1 (D.1 i) = nI i → ∀ σ', xx_O g σ' X (xx_ds D (D.1 i) (D.2.1 (D.1 i)) (D.2.1 (D.1 i)) (-1) (D.2.2.2.2.1 (D.1 i))) → xx_fr X σ σ' → Q (some (.int 0)) σ') : am_C g l mX9_abort 5 (am_tp σ, am_us σ) [.ref X, .int s] σ Q := by
  have h0 := h
  obtain ⟨⟨a1, a2, a3, a4, a5, a6, a7, a8, a9⟩, hst, hse, -⟩ := h
  have o1 : ¬ (1 : Int32) = 0 := by decide
  refine am_C.go [some (.ref X), some (.int s)] (by decide +kernel) (Nat.le_of_ble_eq_true rfl) rfl (kX9_abort_0 ?_)
  simp (disch := omega) only [ax_const, ax_iload, ax_lload, ax_aload, ax_istore, ax_astore, ax_iinc, ax_i2, ax_i2n, ax_l2, ax_lsh, ax_ii, ax_il, ax_li, ax_pop, ax_dup, ax_dup2, ax_if, ax_cmp, ax_acmp, ax_goto, ax_getI, ax_getR, ax_putI, ax_putR, ax_gets, ax_getsT, ax_aldI, ax_aldR, ax_astI, ax_astR, ax_alen, ax_ret, ax_aret, ax_vret, am_st, am_kl, List.getElem?_cons_zero, List.getElem?_cons_succ, List.set_cons_zero, List.set_cons_succ, Value.category, true_and, and_true, if_true, if_false, reduceCtorEq, Bool.false_eq_true, false_implies, forall_const, Option.some.injEq, exists_eq_left', exists_eq_left, Sum.inl.injEq, Sum.inr.injEq, Prod.mk.injEq, nI_toInt, nI_clamp, am_ix_nI, am_ix_0, am_ix_1, am_ix_2, am_ix_3, am_n0, am_n1, am_n2, am_n3, am_n4, am_t0, am_t1, am_t2, am_t3, am_t4, am_tm1, am_nS, am_nP, am_nM, Int.ofNat_lt, Int.ofNat_le]
  refine am_callK [.int s] [] (d' := 0) (lim' := (am_tp σ, am_us σ)) rfl (by decide) (Nat.le_refl _) (Nat.le_refl _) rfl (Nat.le_of_ble_eq_true rfl) am_stat ?_
  refine c_isSession (fun _ _ => ?_)
  by_cases q : 0 ≤ s.toInt ∧ s.toInt < 4
  · rw [if_pos q]
    obtain ⟨i, hi, rfl⟩ := xx_in.of q
    obtain ⟨b1, b2, b3⟩ := hse i hi
    obtain ⟨d1, d2⟩ := hst (D.1 i) b2
    simp (disch := omega) only [ax_const, ax_iload, ax_lload, ax_aload, ax_istore, ax_astore, ax_iinc, ax_i2, ax_i2n, ax_l2, ax_lsh, ax_ii, ax_il, ax_li, ax_pop, ax_dup, ax_dup2, ax_if, ax_cmp, ax_acmp, ax_goto, ax_getI, ax_getR, ax_putI, ax_putR, ax_gets, ax_getsT, ax_aldI, ax_aldR, ax_astI, ax_astR, ax_alen, ax_ret, ax_aret, ax_vret, am_st, am_kl, List.getElem?_cons_zero, List.getElem?_cons_succ, List.set_cons_zero, List.set_cons_succ, Value.category, true_and, and_true, if_true, if_false, reduceCtorEq, Bool.false_eq_true, false_implies, forall_const, Option.some.injEq, exists_eq_left', exists_eq_left, Sum.inl.injEq, Sum.inr.injEq, Prod.mk.injEq, nI_toInt, nI_clamp, am_ix_nI, am_ix_0, am_ix_1, am_ix_2, am_ix_3, am_n0, am_n1, am_n2, am_n3, am_n4, am_t0, am_t1, am_t2, am_t3, am_t4, am_tm1, am_nS, am_nP, am_nM, Int.ofNat_lt, Int.ofNat_le, Option.toList_some, Option.toList_none, List.cons_append, List.nil_append, List.append_nil, o1]
    intro _
    refine am_callK [.ref X, .int (nI i)] [] (d' := 1) (lim' := (am_tp σ, am_us σ)) rfl (by decide) (Nat.le_refl _) (Nat.le_refl _) rfl (Nat.le_of_ble_eq_true rfl) (am_recv a1) ?_
    refine c_xbusy h0 (fun z => absurd q z) (fun i' hi' e _ _ => ?_)
    have e' : i' = i := ((nI_inj (by omega) (by omega)).mp e).symm
    subst e'
    by_cases c : D.2.2.2.1 (D.1 i') = nI i'
    · rw [if_pos c]
      simp (disch := omega) only [ax_const, ax_iload, ax_lload, ax_aload, ax_istore, ax_astore, ax_iinc, ax_i2, ax_i2n, ax_l2, ax_lsh, ax_ii, ax_il, ax_li, ax_pop, ax_dup, ax_dup2, ax_if, ax_cmp, ax_acmp, ax_goto, ax_getI, ax_getR, ax_putI, ax_putR, ax_gets, ax_getsT, ax_aldI, ax_aldR, ax_astI, ax_astR, ax_alen, ax_ret, ax_aret, ax_vret, am_st, am_kl, List.getElem?_cons_zero, List.getElem?_cons_succ, List.set_cons_zero, List.set_cons_succ, Value.category, true_and, and_true, if_true, if_false, reduceCtorEq, Bool.false_eq_true, false_implies, forall_const, Option.some.injEq, exists_eq_left', exists_eq_left, Sum.inl.injEq, Sum.inr.injEq, Prod.mk.injEq, nI_toInt, nI_clamp, am_ix_nI, am_ix_0, am_ix_1, am_ix_2, am_ix_3, am_n0, am_n1, am_n2, am_n3, am_n4, am_t0, am_t1, am_t2, am_t3, am_t4, am_tm1, am_nS, am_nP, am_nM, Int.ofNat_lt, Int.ofNat_le, Option.toList_some, Option.toList_none, List.cons_append, List.nil_append, List.append_nil, o1, a1, a3, a8, b1, b3.1, b3.2.1]
      refine fun _ => ⟨hi, ?_⟩
      refine am_callK [.ref (xx_st X (D.1 i'))] [] (d' := 4) (lim' := (am_tp σ, am_us σ)) rfl (by decide) (Nat.le_refl _) (Nat.le_refl _) rfl (Nat.le_of_ble_eq_true rfl) (am_recv d2.1.1) ?_
      refine c_drop d2 (fun σ' hS hf t1 u1 => ?_)
      simp (disch := omega) only [ax_const, ax_iload, ax_lload, ax_aload, ax_istore, ax_astore, ax_iinc, ax_i2, ax_i2n, ax_l2, ax_lsh, ax_ii, ax_il, ax_li, ax_pop, ax_dup, ax_dup2, ax_if, ax_cmp, ax_acmp, ax_goto, ax_getI, ax_getR, ax_putI, ax_putR, ax_gets, ax_getsT, ax_aldI, ax_aldR, ax_astI, ax_astR, ax_alen, ax_ret, ax_aret, ax_vret, am_st, am_kl, List.getElem?_cons_zero, List.getElem?_cons_succ, List.set_cons_zero, List.set_cons_succ, Value.category, true_and, and_true, if_true, if_false, reduceCtorEq, Bool.false_eq_true, false_implies, forall_const, Option.some.injEq, exists_eq_left', exists_eq_left, Sum.inl.injEq, Sum.inr.injEq, Prod.mk.injEq, Option.toList_some, Option.toList_none, List.cons_append, List.nil_append, List.append_nil]
      exact ⟨t1, u1, hQ2 i' hi rfl c σ' (h0.store b2 hf hS) (xx_fr.st b2 hf)⟩
    · rw [if_neg c]
      simp (disch := omega) only [ax_const, ax_iload, ax_lload, ax_aload, ax_istore, ax_astore, ax_iinc, ax_i2, ax_i2n, ax_l2, ax_lsh, ax_ii, ax_il, ax_li, ax_pop, ax_dup, ax_dup2, ax_if, ax_cmp, ax_acmp, ax_goto, ax_getI, ax_getR, ax_putI, ax_putR, ax_gets, ax_getsT, ax_aldI, ax_aldR, ax_astI, ax_astR, ax_alen, ax_ret, ax_aret, ax_vret, am_st, am_kl, List.getElem?_cons_zero, List.getElem?_cons_succ, List.set_cons_zero, List.set_cons_succ, Value.category, true_and, and_true, if_true, if_false, reduceCtorEq, Bool.false_eq_true, false_implies, forall_const, Option.some.injEq, exists_eq_left', exists_eq_left, Sum.inl.injEq, Sum.inr.injEq, Prod.mk.injEq, nI_toInt, nI_clamp, am_ix_nI, am_ix_0, am_ix_1, am_ix_2, am_ix_3, am_n0, am_n1, am_n2, am_n3, am_n4, am_t0, am_t1, am_t2, am_t3, am_t4, am_tm1, am_nS, am_nP, am_nM, Int.ofNat_lt, Int.ofNat_le, Option.toList_some, Option.toList_none, List.cons_append, List.nil_append, List.append_nil]
      exact ⟨hQ1 i' hi rfl c, fun z => absurd trivial z⟩
  · rw [if_neg q]
    simp (disch := omega) only [ax_const, ax_iload, ax_lload, ax_aload, ax_istore, ax_astore, ax_iinc, ax_i2, ax_i2n, ax_l2, ax_lsh, ax_ii, ax_il, ax_li, ax_pop, ax_dup, ax_dup2, ax_if, ax_cmp, ax_acmp, ax_goto, ax_getI, ax_getR, ax_putI, ax_putR, ax_gets, ax_getsT, ax_aldI, ax_aldR, ax_astI, ax_astR, ax_alen, ax_ret, ax_aret, ax_vret, am_st, am_kl, List.getElem?_cons_zero, List.getElem?_cons_succ, List.set_cons_zero, List.set_cons_succ, Value.category, true_and, and_true, if_true, if_false, reduceCtorEq, Bool.false_eq_true, false_implies, forall_const, Option.some.injEq, exists_eq_left', exists_eq_left, Sum.inl.injEq, Sum.inr.injEq, Prod.mk.injEq, nI_toInt, nI_clamp, am_ix_nI, am_ix_0, am_ix_1, am_ix_2, am_ix_3, am_n0, am_n1, am_n2, am_n3, am_n4, am_t0, am_t1, am_t2, am_t3, am_t4, am_tm1, am_nS, am_nP, am_nM, Int.ofNat_lt, Int.ofNat_le, Option.toList_some, Option.toList_none, List.cons_append, List.nil_append, List.append_nil]
    exact ⟨hQ0 q, fun z => absurd trivial z⟩
theorem c_xwrite {g : am_G} {l : Launch} {σ : am_S} {X : Nat} {D : xx_D} {s : Int32} {w : Int64} {Q : Option Value → am_S → Prop} (h : xx_O g σ X D) (hQ0 : ¬ xx_in s → Q (some (.int 0)) σ) (hQ1 : ∀ i, i < 4 → s = nI i → ∀ σ' B dx, (xe_go (xe_b w) 8 (D.2.2.2.2.2.1 i) = none ∧ B = (0 : Int32) ∧ dx = D.2.2.2.2.2.1 i ∨ xe_go (xe_b w) 8 (D.2.2.2.2.2.1 i) = some dx ∧ B = 1) → xx_O g σ' X (xx_es D i dx (D.2.2.2.2.2.2.1 i) (D.2.2.2.2.2.2.2.1 i) (D.2.2.2.2.2.2.2.2 i)) → xx_fr X σ σ' → Q (some (.int B)) σ') : am_C g l mX9_write 1 (am_tp σ, am_us σ) [.ref X, .int s, .long w] σ Q := by
  have h0 := h
  obtain ⟨⟨a1, a2, a3, a4, a5, a6, a7, a8, a9⟩, hst, hse, -⟩ := h
  have o1 : ¬ (1 : Int32) = 0 := by decide
  refine am_C.go [some (.ref X), some (.int s), some (.long w), none] (by decide +kernel) (Nat.le_of_ble_eq_true rfl) rfl (kX9_write_0 ?_)
  simp (disch := omega) only [ax_const, ax_iload, ax_lload, ax_aload, ax_istore, ax_astore, ax_iinc, ax_i2, ax_i2n, ax_l2, ax_lsh, ax_ii, ax_il, ax_li, ax_pop, ax_dup, ax_dup2, ax_if, ax_cmp, ax_acmp, ax_goto, ax_getI, ax_getR, ax_putI, ax_putR, ax_gets, ax_getsT, ax_aldI, ax_aldR, ax_astI, ax_astR, ax_alen, ax_ret, ax_aret, ax_vret, am_st, am_kl, List.getElem?_cons_zero, List.getElem?_cons_succ, List.set_cons_zero, List.set_cons_succ, Value.category, true_and, and_true, if_true, if_false, reduceCtorEq, Bool.false_eq_true, false_implies, forall_const, Option.some.injEq, exists_eq_left', exists_eq_left, Sum.inl.injEq, Sum.inr.injEq, Prod.mk.injEq, nI_toInt, nI_clamp, am_ix_nI, am_ix_0, am_ix_1, am_ix_2, am_ix_3, am_n0, am_n1, am_n2, am_n3, am_n4, am_t0, am_t1, am_t2, am_t3, am_t4, am_tm1, am_nS, am_nP, am_nM, Int.ofNat_lt, Int.ofNat_le]
  refine am_callK [.int s] [] (d' := 0) (lim' := (am_tp σ, am_us σ)) rfl (by decide) (Nat.le_refl _) (Nat.le_refl _) rfl (Nat.le_of_ble_eq_true rfl) am_stat ?_
  refine c_isSession (fun _ _ => ?_)
  by_cases q : 0 ≤ s.toInt ∧ s.toInt < 4
  · rw [if_pos q]
    obtain ⟨i, hi, rfl⟩ := xx_in.of q
    obtain ⟨b1, b2, b3⟩ := hse i hi
    simp (disch := omega) only [ax_const, ax_iload, ax_lload, ax_aload, ax_istore, ax_astore, ax_iinc, ax_i2, ax_i2n, ax_l2, ax_lsh, ax_ii, ax_il, ax_li, ax_pop, ax_dup, ax_dup2, ax_if, ax_cmp, ax_acmp, ax_goto, ax_getI, ax_getR, ax_putI, ax_putR, ax_gets, ax_getsT, ax_aldI, ax_aldR, ax_astI, ax_astR, ax_alen, ax_ret, ax_aret, ax_vret, am_st, am_kl, List.getElem?_cons_zero, List.getElem?_cons_succ, List.set_cons_zero, List.set_cons_succ, Value.category, true_and, and_true, if_true, if_false, reduceCtorEq, Bool.false_eq_true, false_implies, forall_const, Option.some.injEq, exists_eq_left', exists_eq_left, Sum.inl.injEq, Sum.inr.injEq, Prod.mk.injEq, nI_toInt, nI_clamp, am_ix_nI, am_ix_0, am_ix_1, am_ix_2, am_ix_3, am_n0, am_n1, am_n2, am_n3, am_n4, am_t0, am_t1, am_t2, am_t3, am_t4, am_tm1, am_nS, am_nP, am_nM, Int.ofNat_lt, Int.ofNat_le, Option.toList_some, Option.toList_none, List.cons_append, List.nil_append, List.append_nil, o1, a1, a3, a8, b1]
    refine fun _ => ⟨hi, ?_⟩
    refine am_callK [.ref (xx_se X i), .long w] [] (d' := 0) (lim' := (am_tp σ, am_us σ)) rfl (by decide) (Nat.le_refl _) (Nat.le_refl _) rfl (Nat.le_of_ble_eq_true rfl) (am_recv b3.1) ?_
    refine c_eappend b3 (fun σ' B dx hB hS hf t1 u1 => ?_)
    have hf' : am_fm (fun b => xx_se X i ≤ b ∧ b < xx_se X i + 43) σ σ' := hf.mono (fun b x => by omega)
    have fin := hQ1 i hi rfl σ' B dx hB (h0.sess hi hf' hS) (xx_fr.se hi hf')
    simp (disch := omega) only [ax_const, ax_iload, ax_lload, ax_aload, ax_istore, ax_astore, ax_iinc, ax_i2, ax_i2n, ax_l2, ax_lsh, ax_ii, ax_il, ax_li, ax_pop, ax_dup, ax_dup2, ax_if, ax_cmp, ax_acmp, ax_goto, ax_getI, ax_getR, ax_putI, ax_putR, ax_gets, ax_getsT, ax_aldI, ax_aldR, ax_astI, ax_astR, ax_alen, ax_ret, ax_aret, ax_vret, am_st, am_kl, List.getElem?_cons_zero, List.getElem?_cons_succ, List.set_cons_zero, List.set_cons_succ, Value.category, true_and, and_true, if_true, if_false, reduceCtorEq, Bool.false_eq_true, false_implies, forall_const, Option.some.injEq, exists_eq_left', exists_eq_left, Sum.inl.injEq, Sum.inr.injEq, Prod.mk.injEq, Option.toList_some, Option.toList_none, List.cons_append, List.nil_append, List.append_nil]
    rcases hB with ⟨-, rfl, -⟩ | ⟨-, rfl⟩
    · exact ⟨fun _ => ⟨by simp, t1, u1, fin⟩, fun z => absurd rfl z⟩
    · exact ⟨fun z => absurd z o1, fun _ => ⟨by simp, t1, u1, fin⟩⟩
  · rw [if_neg q]
    simp (disch := omega) only [ax_const, ax_iload, ax_lload, ax_aload, ax_istore, ax_astore, ax_iinc, ax_i2, ax_i2n, ax_l2, ax_lsh, ax_ii, ax_il, ax_li, ax_pop, ax_dup, ax_dup2, ax_if, ax_cmp, ax_acmp, ax_goto, ax_getI, ax_getR, ax_putI, ax_putR, ax_gets, ax_getsT, ax_aldI, ax_aldR, ax_astI, ax_astR, ax_alen, ax_ret, ax_aret, ax_vret, am_st, am_kl, List.getElem?_cons_zero, List.getElem?_cons_succ, List.set_cons_zero, List.set_cons_succ, Value.category, true_and, and_true, if_true, if_false, reduceCtorEq, Bool.false_eq_true, false_implies, forall_const, Option.some.injEq, exists_eq_left', exists_eq_left, Sum.inl.injEq, Sum.inr.injEq, Prod.mk.injEq, nI_toInt, nI_clamp, am_ix_nI, am_ix_0, am_ix_1, am_ix_2, am_ix_3, am_n0, am_n1, am_n2, am_n3, am_n4, am_t0, am_t1, am_t2, am_t3, am_t4, am_tm1, am_nS, am_nP, am_nM, Int.ofNat_lt, Int.ofNat_le, Option.toList_some, Option.toList_none, List.cons_append, List.nil_append, List.append_nil]
    exact ⟨⟨by simp, hQ0 q⟩, fun z => absurd trivial z⟩
theorem xx_cut_63 {g : am_G} {l : Launch} {σ : am_S} {s : Value} {X d tp us due : Nat} {n : Int32} {D : xx_D} {v : Option Value} {Q : Option Value → am_S → Prop} (hd : 6 ≤ d) (hdue : due < 1000) (h : xx_O g σ X D) (h1 : am_tp σ = tp) (h2 : am_us σ = us) (hQ : ∀ σ', xx_O g σ' X (xx_cr D) → xx_fr X σ σ' → Q (some (.int (if n.toInt < due then 0 else 1))) σ') :
    am_W g l mX9_cut d (tp, us) Q 63 [some (.ref X), some s, some (.int n), v, some (.int (nI due))] [] σ := by
  refine kX9_cut_63 ?_
  simp (disch := omega) only [ax_const, ax_iload, ax_lload, ax_aload, ax_istore, ax_astore, ax_iinc, ax_i2, ax_i2n, ax_l2, ax_lsh, ax_ii, ax_il, ax_li, ax_pop, ax_dup, ax_dup2, ax_if, ax_cmp, ax_acmp, ax_goto, ax_getI, ax_getR, ax_putI, ax_putR, ax_gets, ax_getsT, ax_aldI, ax_aldR, ax_astI, ax_astR, ax_alen, ax_ret, ax_aret, ax_vret, am_st, am_kl, List.getElem?_cons_zero, List.getElem?_cons_succ, List.set_cons_zero, List.set_cons_succ, Value.category, true_and, and_true, if_true, if_false, reduceCtorEq, Bool.false_eq_true, false_implies, forall_const, Option.some.injEq, exists_eq_left', exists_eq_left, Sum.inl.injEq, Sum.inr.injEq, Prod.mk.injEq, nI_toInt, nI_clamp, am_ix_nI, am_ix_0, am_ix_1, am_ix_2, am_ix_3, am_n0, am_n1, am_n2, am_n3, am_n4, am_t0, am_t1, am_t2, am_t3, am_t4, am_tm1, am_nS, am_nP, am_nM, Int.ofNat_lt, Int.ofNat_le]
  refine am_callK [.ref X] [] (d' := 5) (lim' := (am_tp σ, am_us σ)) rfl (by omega) (by rw [h1]; exact Nat.le_refl _) (by rw [h2]; exact Nat.le_refl _) rfl (by decide) (am_recv h.1.1) ?_
  refine c_xcrash h (fun σ' hO hf t1 u1 => ?_)
  simp (disch := omega) only [ax_const, ax_iload, ax_lload, ax_aload, ax_istore, ax_astore, ax_iinc, ax_i2, ax_i2n, ax_l2, ax_lsh, ax_ii, ax_il, ax_li, ax_pop, ax_dup, ax_dup2, ax_if, ax_cmp, ax_acmp, ax_goto, ax_getI, ax_getR, ax_putI, ax_putR, ax_gets, ax_getsT, ax_aldI, ax_aldR, ax_astI, ax_astR, ax_alen, ax_ret, ax_aret, ax_vret, am_st, am_kl, List.getElem?_cons_zero, List.getElem?_cons_succ, List.set_cons_zero, List.set_cons_succ, Value.category, true_and, and_true, if_true, if_false, reduceCtorEq, Bool.false_eq_true, false_implies, forall_const, Option.some.injEq, exists_eq_left', exists_eq_left, Sum.inl.injEq, Sum.inr.injEq, Prod.mk.injEq, nI_toInt, nI_clamp, am_ix_nI, am_ix_0, am_ix_1, am_ix_2, am_ix_3, am_n0, am_n1, am_n2, am_n3, am_n4, am_t0, am_t1, am_t2, am_t3, am_t4, am_tm1, am_nS, am_nP, am_nM, Int.ofNat_lt, Int.ofNat_le, Option.toList_some, Option.toList_none, List.cons_append, List.nil_append, List.append_nil]
  have fin := hQ σ' hO hf
  refine ⟨fun c => ⟨t1.trans h1, u1.trans h2, ?_⟩, fun c => ⟨t1.trans h1, u1.trans h2, ?_⟩⟩
  · rwa [if_pos c] at fin
  · rwa [if_neg c] at fin
theorem c_xcut {g : am_G} {l : Launch} {σ : am_S} {X : Nat} {D : xx_D} {s n : Int32} {Q : Option Value → am_S → Prop} (h : xx_O g σ X D) (hQ0 : ¬ xx_in s ∨ n.toInt < 0 → Q (some (.int (-1))) σ) (hQ1 : ∀ i, i < 4 → s = nI i → ¬ n.toInt < 0 → D.2.2.2.1 (D.1 i) ≠ nI i → Q (some (.int (-8))) σ)
    (hQ2 : ∀ i, i < 4 → s = nI i → ¬ n.toInt < 0 → D.2.2.2.1 (D.1 i) = nI i → 30 < D.2.2.2.2.1 (D.1 i) + xo_due (D.2.1 (D.1 i)) (D.2.2.1 (D.1 i)) → Q (some (.int (-5))) σ)
    (hQ3 : ∀ i, i < 4 → s = nI i → ¬ n.toInt < 0 → D.2.2.2.1 (D.1 i) = nI i → D.2.2.2.2.1 (D.1 i) + xo_due (D.2.1 (D.1 i)) (D.2.2.1 (D.1 i)) ≤ 30 → n.toInt < xo_due (D.2.1 (D.1 i)) (D.2.2.1 (D.1 i)) → ∀ σ', xx_O g σ' X (xx_cr D) → xx_fr X σ σ' → Q (some (.int 0)) σ')
    (hQ4 : ∀ i, i < 4 → s = nI i → ¬ n.toInt < 0 → D.2.2.2.1 (D.1 i) = nI i → D.2.2.2.2.1 (D.1 i) + xo_due (D.2.1 (D.1 i)) (D.2.2.1 (D.1 i)) ≤ 30 → ¬ n.toInt < xo_due (D.2.1 (D.1 i)) (D.2.2.1 (D.1 i)) → ∀ σ', xx_O g σ' X (xx_cr (xx_ds D (D.1 i) (D.2.2.1 (D.1 i)) (D.2.2.1 (D.1 i)) (-1) (D.2.2.2.2.1 (D.1 i) + xo_due (D.2.1 (D.1 i)) (D.2.2.1 (D.1 i))))) → xx_fr X σ σ' → Q (some (.int 1)) σ') : am_C g l mX9_cut 6 (am_tp σ, am_us σ) [.ref X, .int s, .int n] σ Q := by
  have h0 := h
  obtain ⟨⟨a1, a2, a3, a4, a5, a6, a7, a8, a9⟩, hst, hse, -⟩ := h
  have o1 : ¬ (1 : Int32) = 0 := by decide
  refine am_C.go [some (.ref X), some (.int s), some (.int n), none, none] (by decide +kernel) (Nat.le_of_ble_eq_true rfl) rfl (kX9_cut_0 ?_)
  simp (disch := omega) only [ax_const, ax_iload, ax_lload, ax_aload, ax_istore, ax_astore, ax_iinc, ax_i2, ax_i2n, ax_l2, ax_lsh, ax_ii, ax_il, ax_li, ax_pop, ax_dup, ax_dup2, ax_if, ax_cmp, ax_acmp, ax_goto, ax_getI, ax_getR, ax_putI, ax_putR, ax_gets, ax_getsT, ax_aldI, ax_aldR, ax_astI, ax_astR, ax_alen, ax_ret, ax_aret, ax_vret, am_st, am_kl, List.getElem?_cons_zero, List.getElem?_cons_succ, List.set_cons_zero, List.set_cons_succ, Value.category, true_and, and_true, if_true, if_false, reduceCtorEq, Bool.false_eq_true, false_implies, forall_const, Option.some.injEq, exists_eq_left', exists_eq_left, Sum.inl.injEq, Sum.inr.injEq, Prod.mk.injEq, nI_toInt, nI_clamp, am_ix_nI, am_ix_0, am_ix_1, am_ix_2, am_ix_3, am_n0, am_n1, am_n2, am_n3, am_n4, am_t0, am_t1, am_t2, am_t3, am_t4, am_tm1, am_nS, am_nP, am_nM, Int.ofNat_lt, Int.ofNat_le]
  refine am_callK [.int s] [] (d' := 0) (lim' := (am_tp σ, am_us σ)) rfl (by decide) (Nat.le_refl _) (Nat.le_refl _) rfl (Nat.le_of_ble_eq_true rfl) am_stat ?_
  refine c_isSession (fun _ _ => ?_)
  by_cases q : 0 ≤ s.toInt ∧ s.toInt < 4
  · rw [if_pos q]
    obtain ⟨i, hi, rfl⟩ := xx_in.of q
    obtain ⟨b1, b2, b3⟩ := hse i hi
    obtain ⟨d1, d2⟩ := hst (D.1 i) b2
    have hdue := d2.due
    simp (disch := omega) only [ax_const, ax_iload, ax_lload, ax_aload, ax_istore, ax_astore, ax_iinc, ax_i2, ax_i2n, ax_l2, ax_lsh, ax_ii, ax_il, ax_li, ax_pop, ax_dup, ax_dup2, ax_if, ax_cmp, ax_acmp, ax_goto, ax_getI, ax_getR, ax_putI, ax_putR, ax_gets, ax_getsT, ax_aldI, ax_aldR, ax_astI, ax_astR, ax_alen, ax_ret, ax_aret, ax_vret, am_st, am_kl, List.getElem?_cons_zero, List.getElem?_cons_succ, List.set_cons_zero, List.set_cons_succ, Value.category, true_and, and_true, if_true, if_false, reduceCtorEq, Bool.false_eq_true, false_implies, forall_const, Option.some.injEq, exists_eq_left', exists_eq_left, Sum.inl.injEq, Sum.inr.injEq, Prod.mk.injEq, nI_toInt, nI_clamp, am_ix_nI, am_ix_0, am_ix_1, am_ix_2, am_ix_3, am_n0, am_n1, am_n2, am_n3, am_n4, am_t0, am_t1, am_t2, am_t3, am_t4, am_tm1, am_nS, am_nP, am_nM, Int.ofNat_lt, Int.ofNat_le, Option.toList_some, Option.toList_none, List.cons_append, List.nil_append, List.append_nil, o1]
    refine fun _ => ⟨fun hn => hQ0 (Or.inr hn), fun hn => ?_⟩
    refine am_callK [.ref X, .int (nI i)] [] (d' := 1) (lim' := (am_tp σ, am_us σ)) rfl (by decide) (Nat.le_refl _) (Nat.le_refl _) rfl (Nat.le_of_ble_eq_true rfl) (am_recv a1) ?_
    refine c_xbusy h0 (fun z => absurd q z) (fun i' hi' e _ _ => ?_)
    have e' : i' = i := ((nI_inj (by omega) (by omega)).mp e).symm
    subst e'
    by_cases c : D.2.2.2.1 (D.1 i') = nI i'
    · rw [if_pos c]
      simp (disch := omega) only [ax_const, ax_iload, ax_lload, ax_aload, ax_istore, ax_astore, ax_iinc, ax_i2, ax_i2n, ax_l2, ax_lsh, ax_ii, ax_il, ax_li, ax_pop, ax_dup, ax_dup2, ax_if, ax_cmp, ax_acmp, ax_goto, ax_getI, ax_getR, ax_putI, ax_putR, ax_gets, ax_getsT, ax_aldI, ax_aldR, ax_astI, ax_astR, ax_alen, ax_ret, ax_aret, ax_vret, am_st, am_kl, List.getElem?_cons_zero, List.getElem?_cons_succ, List.set_cons_zero, List.set_cons_succ, Value.category, true_and, and_true, if_true, if_false, reduceCtorEq, Bool.false_eq_true, false_implies, forall_const, Option.some.injEq, exists_eq_left', exists_eq_left, Sum.inl.injEq, Sum.inr.injEq, Prod.mk.injEq, nI_toInt, nI_clamp, am_ix_nI, am_ix_0, am_ix_1, am_ix_2, am_ix_3, am_n0, am_n1, am_n2, am_n3, am_n4, am_t0, am_t1, am_t2, am_t3, am_t4, am_tm1, am_nS, am_nP, am_nM, Int.ofNat_lt, Int.ofNat_le, Option.toList_some, Option.toList_none, List.cons_append, List.nil_append, List.append_nil, o1, a1, a3, a8, b1, b3.1, b3.2.1]
      refine fun _ => ⟨hi, ?_⟩
      refine am_callK [.ref (xx_st X (D.1 i'))] [] (d' := 2) (lim' := (am_tp σ, am_us σ)) rfl (by decide) (Nat.le_refl _) (Nat.le_refl _) rfl (Nat.le_of_ble_eq_true rfl) (am_recv d2.1.1) ?_
      refine c_recordsDue d2 (fun t1 u1 => ?_)
      simp (disch := omega) only [ax_const, ax_iload, ax_lload, ax_aload, ax_istore, ax_astore, ax_iinc, ax_i2, ax_i2n, ax_l2, ax_lsh, ax_ii, ax_il, ax_li, ax_pop, ax_dup, ax_dup2, ax_if, ax_cmp, ax_acmp, ax_goto, ax_getI, ax_getR, ax_putI, ax_putR, ax_gets, ax_getsT, ax_aldI, ax_aldR, ax_astI, ax_astR, ax_alen, ax_ret, ax_aret, ax_vret, am_st, am_kl, List.getElem?_cons_zero, List.getElem?_cons_succ, List.set_cons_zero, List.set_cons_succ, Value.category, true_and, and_true, if_true, if_false, reduceCtorEq, Bool.false_eq_true, false_implies, forall_const, Option.some.injEq, exists_eq_left', exists_eq_left, Sum.inl.injEq, Sum.inr.injEq, Prod.mk.injEq, nI_toInt, nI_clamp, am_ix_nI, am_ix_0, am_ix_1, am_ix_2, am_ix_3, am_n0, am_n1, am_n2, am_n3, am_n4, am_t0, am_t1, am_t2, am_t3, am_t4, am_tm1, am_nS, am_nP, am_nM, Int.ofNat_lt, Int.ofNat_le, Option.toList_some, Option.toList_none, List.cons_append, List.nil_append, List.append_nil]
      refine am_callK [.ref (xx_st X (D.1 i')), .int (nI (xo_due (D.2.1 (D.1 i')) (D.2.2.1 (D.1 i'))))] [] (d' := 0) (lim' := (am_tp σ, am_us σ)) rfl (by decide) (Nat.le_refl _) (Nat.le_refl _) rfl (Nat.le_of_ble_eq_true rfl) (am_recv d2.1.1) ?_
      refine c_hasRoomFor d2 (by omega) (fun _ _ => ?_)
      by_cases r : D.2.2.2.2.1 (D.1 i') + xo_due (D.2.1 (D.1 i')) (D.2.2.1 (D.1 i')) ≤ 30
      · rw [if_pos r]
        simp (disch := omega) only [ax_const, ax_iload, ax_lload, ax_aload, ax_istore, ax_astore, ax_iinc, ax_i2, ax_i2n, ax_l2, ax_lsh, ax_ii, ax_il, ax_li, ax_pop, ax_dup, ax_dup2, ax_if, ax_cmp, ax_acmp, ax_goto, ax_getI, ax_getR, ax_putI, ax_putR, ax_gets, ax_getsT, ax_aldI, ax_aldR, ax_astI, ax_astR, ax_alen, ax_ret, ax_aret, ax_vret, am_st, am_kl, List.getElem?_cons_zero, List.getElem?_cons_succ, List.set_cons_zero, List.set_cons_succ, Value.category, true_and, and_true, if_true, if_false, reduceCtorEq, Bool.false_eq_true, false_implies, forall_const, Option.some.injEq, exists_eq_left', exists_eq_left, Sum.inl.injEq, Sum.inr.injEq, Prod.mk.injEq, nI_toInt, nI_clamp, am_ix_nI, am_ix_0, am_ix_1, am_ix_2, am_ix_3, am_n0, am_n1, am_n2, am_n3, am_n4, am_t0, am_t1, am_t2, am_t3, am_t4, am_tm1, am_nS, am_nP, am_nM, Int.ofNat_lt, Int.ofNat_le, Option.toList_some, Option.toList_none, List.cons_append, List.nil_append, List.append_nil, o1]
        refine fun _ => ⟨fun z => ?_, fun z => ?_⟩
        · exact xx_cut_63 (Nat.le_refl _) (by omega) h0 rfl rfl (fun σ' hO hf => by rw [if_pos z]; exact hQ3 i' hi rfl hn c r z σ' hO hf)
        · refine am_callK [.ref (xx_st X (D.1 i'))] [] (d' := 4) (lim' := (am_tp σ, am_us σ)) rfl (by decide) (Nat.le_refl _) (Nat.le_refl _) rfl (Nat.le_of_ble_eq_true rfl) (am_recv d2.1.1) ?_
          refine c_keep d2 (fun w => absurd r (by omega)) (fun w σ1 hS hf t1 u1 => ?_)
          simp (disch := omega) only [ax_const, ax_iload, ax_lload, ax_aload, ax_istore, ax_astore, ax_iinc, ax_i2, ax_i2n, ax_l2, ax_lsh, ax_ii, ax_il, ax_li, ax_pop, ax_dup, ax_dup2, ax_if, ax_cmp, ax_acmp, ax_goto, ax_getI, ax_getR, ax_putI, ax_putR, ax_gets, ax_getsT, ax_aldI, ax_aldR, ax_astI, ax_astR, ax_alen, ax_ret, ax_aret, ax_vret, am_st, am_kl, List.getElem?_cons_zero, List.getElem?_cons_succ, List.set_cons_zero, List.set_cons_succ, Value.category, true_and, and_true, if_true, if_false, reduceCtorEq, Bool.false_eq_true, false_implies, forall_const, Option.some.injEq, exists_eq_left', exists_eq_left, Sum.inl.injEq, Sum.inr.injEq, Prod.mk.injEq, nI_toInt, nI_clamp, am_ix_nI, am_ix_0, am_ix_1, am_ix_2, am_ix_3, am_n0, am_n1, am_n2, am_n3, am_n4, am_t0, am_t1, am_t2, am_t3, am_t4, am_tm1, am_nS, am_nP, am_nM, Int.ofNat_lt, Int.ofNat_le, Option.toList_some, Option.toList_none, List.cons_append, List.nil_append, List.append_nil]
          exact xx_cut_63 (Nat.le_refl _) (by omega) (h0.store b2 hf hS) t1 u1 (fun σ' hO hf' => by rw [if_neg z]; exact hQ4 i' hi rfl hn c r z σ' hO ((xx_fr.st b2 hf).tr hf'))
      · rw [if_neg r]
        simp (disch := omega) only [ax_const, ax_iload, ax_lload, ax_aload, ax_istore, ax_astore, ax_iinc, ax_i2, ax_i2n, ax_l2, ax_lsh, ax_ii, ax_il, ax_li, ax_pop, ax_dup, ax_dup2, ax_if, ax_cmp, ax_acmp, ax_goto, ax_getI, ax_getR, ax_putI, ax_putR, ax_gets, ax_getsT, ax_aldI, ax_aldR, ax_astI, ax_astR, ax_alen, ax_ret, ax_aret, ax_vret, am_st, am_kl, List.getElem?_cons_zero, List.getElem?_cons_succ, List.set_cons_zero, List.set_cons_succ, Value.category, true_and, and_true, if_true, if_false, reduceCtorEq, Bool.false_eq_true, false_implies, forall_const, Option.some.injEq, exists_eq_left', exists_eq_left, Sum.inl.injEq, Sum.inr.injEq, Prod.mk.injEq, nI_toInt, nI_clamp, am_ix_nI, am_ix_0, am_ix_1, am_ix_2, am_ix_3, am_n0, am_n1, am_n2, am_n3, am_n4, am_t0, am_t1, am_t2, am_t3, am_t4, am_tm1, am_nS, am_nP, am_nM, Int.ofNat_lt, Int.ofNat_le, Option.toList_some, Option.toList_none, List.cons_append, List.nil_append, List.append_nil]
        exact ⟨hQ2 i' hi rfl hn c (by omega), fun z => absurd trivial z⟩
    · rw [if_neg c]
      simp (disch := omega) only [ax_const, ax_iload, ax_lload, ax_aload, ax_istore, ax_astore, ax_iinc, ax_i2, ax_i2n, ax_l2, ax_lsh, ax_ii, ax_il, ax_li, ax_pop, ax_dup, ax_dup2, ax_if, ax_cmp, ax_acmp, ax_goto, ax_getI, ax_getR, ax_putI, ax_putR, ax_gets, ax_getsT, ax_aldI, ax_aldR, ax_astI, ax_astR, ax_alen, ax_ret, ax_aret, ax_vret, am_st, am_kl, List.getElem?_cons_zero, List.getElem?_cons_succ, List.set_cons_zero, List.set_cons_succ, Value.category, true_and, and_true, if_true, if_false, reduceCtorEq, Bool.false_eq_true, false_implies, forall_const, Option.some.injEq, exists_eq_left', exists_eq_left, Sum.inl.injEq, Sum.inr.injEq, Prod.mk.injEq, nI_toInt, nI_clamp, am_ix_nI, am_ix_0, am_ix_1, am_ix_2, am_ix_3, am_n0, am_n1, am_n2, am_n3, am_n4, am_t0, am_t1, am_t2, am_t3, am_t4, am_tm1, am_nS, am_nP, am_nM, Int.ofNat_lt, Int.ofNat_le, Option.toList_some, Option.toList_none, List.cons_append, List.nil_append, List.append_nil]
      exact ⟨hQ1 i' hi rfl hn c, fun z => absurd trivial z⟩
  · rw [if_neg q]
    simp (disch := omega) only [ax_const, ax_iload, ax_lload, ax_aload, ax_istore, ax_astore, ax_iinc, ax_i2, ax_i2n, ax_l2, ax_lsh, ax_ii, ax_il, ax_li, ax_pop, ax_dup, ax_dup2, ax_if, ax_cmp, ax_acmp, ax_goto, ax_getI, ax_getR, ax_putI, ax_putR, ax_gets, ax_getsT, ax_aldI, ax_aldR, ax_astI, ax_astR, ax_alen, ax_ret, ax_aret, ax_vret, am_st, am_kl, List.getElem?_cons_zero, List.getElem?_cons_succ, List.set_cons_zero, List.set_cons_succ, Value.category, true_and, and_true, if_true, if_false, reduceCtorEq, Bool.false_eq_true, false_implies, forall_const, Option.some.injEq, exists_eq_left', exists_eq_left, Sum.inl.injEq, Sum.inr.injEq, Prod.mk.injEq, nI_toInt, nI_clamp, am_ix_nI, am_ix_0, am_ix_1, am_ix_2, am_ix_3, am_n0, am_n1, am_n2, am_n3, am_n4, am_t0, am_t1, am_t2, am_t3, am_t4, am_tm1, am_nS, am_nP, am_nM, Int.ofNat_lt, Int.ofNat_le, Option.toList_some, Option.toList_none, List.cons_append, List.nil_append, List.append_nil]
    exact ⟨hQ0 (Or.inl q), fun z => absurd trivial z⟩
