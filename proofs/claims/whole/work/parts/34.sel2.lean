/-! isFound, find -/
def xr_0 : xr_E := (0, 0, 0, 0)
/-- what the condition says -/
def xl_W (Wh : xr_E → xr_E → Bool) (f s : Nat) (two : Bool) (k : Nat → Nat) (ss : Nat → List (Nat × Int32)) (L1 L2 : List xr_E) : Prop :=
  ∀ (i : Nat) (a : xr_E) (j : Nat) (b : xr_E), L1[i]? = some a → L2.getD j xr_0 = b → (two = true → j < L2.length) → ∀ env, xl_en two f s env a b → (k 3 = 0 ∧ Wh a b = true) ∨ (k 3 = 1 ∧ xk_run env (ss 3) [] = some [if Wh a b then 1 else 0])
def xl_fd (Wh : xr_E → xr_E → Bool) (two top : Bool) (L1 L2 : List xr_E) (i j : Nat) : Bool := !(top && xl_cv two L1 L2 (L1.getD i xr_0) (L2.getD j xr_0)) && Wh (L1.getD i xr_0) (L2.getD j xr_0)
theorem xl_get {L : List xr_E} {i : Nat} (h : i < L.length) : L[i]? = some (L.getD i xr_0) := by
  rw [List.getD_eq_getElem?_getD, List.getElem?_eq_getElem h]
  rfl
theorem c_lfound {g : am_G} {l : Launch} {σ : am_S} {e S f s i j : Nat} {k : Nat → Nat} {ss : Nat → List (Nat × Int32)} {two top : Bool} {L1 L2 : List xr_E} {Wh : xr_E → xr_E → Bool} {Q : Option Value → am_S → Prop} (h : xl_J g σ e S k ss f s two top L1 L2) (hW : xl_W Wh f s two k ss L1 L2) (hi : i < L1.length) (hj : two = true → j < L2.length) (hj2 : j < 2 ^ 31)
    (hQ : ∀ σ', xl_J g σ' e S k ss f s two top L1 L2 → am_fm (fun b => b = S + 15 ∨ b = S + 5) σ σ' → Q (some (.int (if xl_fd Wh two top L1 L2 i j then 1 else 0))) σ') : am_C g l mX4_isFound 3 (am_tp σ, am_us σ) [.ref e, .int (nI i), .int (nI j)] σ Q := by
  have hi' := xl_get hi
  have hj' : two = true → L2[j]? = some (L2.getD j xr_0) := fun q => xl_get (hj q)
  have o1 : ¬ (1 : Int32) = 0 := by decide
  unfold xl_fd at hQ
  refine am_C.go [some (.ref e), some (.int (nI i)), some (.int (nI j))] (by decide +kernel) (Nat.le_of_ble_eq_true rfl) rfl (kX4_isFound_0 ?_)
  simp (disch := omega) only [ax_const, ax_iload, ax_lload, ax_aload, ax_istore, ax_astore, ax_iinc, ax_i2, ax_i2n, ax_l2, ax_lsh, ax_ii, ax_il, ax_li, ax_pop, ax_dup, ax_dup2, ax_if, ax_cmp, ax_acmp, ax_goto, ax_getI, ax_getR, ax_putI, ax_putR, ax_gets, ax_getsT, ax_aldI, ax_aldR, ax_astI, ax_astR, ax_alen, ax_ret, ax_aret, ax_vret, am_st, am_kl, List.getElem?_cons_zero, List.getElem?_cons_succ, List.set_cons_zero, List.set_cons_succ, Value.category, true_and, and_true, if_true, if_false, reduceCtorEq, Bool.false_eq_true, false_implies, forall_const, Option.some.injEq, exists_eq_left', exists_eq_left, Sum.inl.injEq, Sum.inr.injEq, Prod.mk.injEq, nI_toInt, nI_clamp, am_ix_nI, am_ix_0, am_ix_1, am_ix_2, am_ix_3, am_n0, am_n1, am_n2, am_n3, am_n4, am_t0, am_t1, am_t2, am_t3, am_t4, am_tm1, am_nS, am_nP, am_nM, Int.ofNat_lt, Int.ofNat_le]
  refine am_callK [.ref e, .int (nI i), .int (nI j)] [] (d' := 1) (lim' := (am_tp σ, am_us σ)) rfl (by decide) (Nat.le_refl _) (Nat.le_refl _) rfl (Nat.le_of_ble_eq_true rfl) (am_recv h.2.1.1) ?_
  refine c_lpoint h hi' hj' hj2 (fun σ1 hJ hen hf t1 u1 => ?_)
  have h25 : (top && xl_cv two L1 L2 (L1.getD i xr_0) (L2.getD j xr_0)) = false → am_W g l mX4_isFound 3 (am_tp σ, am_us σ) Q 25 [some (.ref e), some (.int (nI i)), some (.int (nI j))] [] σ1 := by
    intro q
    rw [q] at hQ
    obtain ⟨h1, h2, h3, h4, h5, h6, h7, h8, h9, h10, h11, h12, h13, h14⟩ := id hJ
    refine kX4_isFound_25 ?_
    simp (disch := omega) only [ax_const, ax_iload, ax_lload, ax_aload, ax_istore, ax_astore, ax_iinc, ax_i2, ax_i2n, ax_l2, ax_lsh, ax_ii, ax_il, ax_li, ax_pop, ax_dup, ax_dup2, ax_if, ax_cmp, ax_acmp, ax_goto, ax_getI, ax_getR, ax_putI, ax_putR, ax_gets, ax_getsT, ax_aldI, ax_aldR, ax_astI, ax_astR, ax_alen, ax_ret, ax_aret, ax_vret, am_st, am_kl, List.getElem?_cons_zero, List.getElem?_cons_succ, List.set_cons_zero, List.set_cons_succ, Value.category, true_and, and_true, if_true, if_false, reduceCtorEq, Bool.false_eq_true, false_implies, forall_const, Option.some.injEq, exists_eq_left', exists_eq_left, Sum.inl.injEq, Sum.inr.injEq, Prod.mk.injEq, nI_toInt, nI_clamp, am_ix_nI, am_ix_0, am_ix_1, am_ix_2, am_ix_3, am_n0, am_n1, am_n2, am_n3, am_n4, am_t0, am_t1, am_t2, am_t3, am_t4, am_tm1, am_nS, am_nP, am_nM, Int.ofNat_lt, Int.ofNat_le, h2.1, h2.2.2.2.1]
    refine am_callK [.ref S] [] (d' := 2) (lim' := (am_tp σ1, am_us σ1)) rfl (by decide) (by rw [t1]; exact Nat.le_refl _) (by rw [u1]; exact Nat.le_refl _) rfl (by decide) (am_recv h5.1) ?_
    refine c_sholds h1 h5 h13 (h6 3 (by decide)) (hW i _ j _ hi' rfl hj _ hen) (fun σ2 m1 m2 m3 => ?_)
    have hJ2 := hJ.up (m1.mono (fun b x => Or.inl (Or.inl x))) (h5.fm m1 (by omega) (by omega) (by omega)) (m1.2.2.2 e (by omega)).2
    have hq := hQ σ2 hJ2 ((hf.mono (fun b x => Or.inl x)).tr (m1.mono (fun b x => Or.inr x)))
    cases hw : Wh (L1.getD i xr_0) (L2.getD j xr_0) with
    | true =>
      rw [hw] at hq
      simp (disch := omega) only [ax_const, ax_iload, ax_lload, ax_aload, ax_istore, ax_astore, ax_iinc, ax_i2, ax_i2n, ax_l2, ax_lsh, ax_ii, ax_il, ax_li, ax_pop, ax_dup, ax_dup2, ax_if, ax_cmp, ax_acmp, ax_goto, ax_getI, ax_getR, ax_putI, ax_putR, ax_gets, ax_getsT, ax_aldI, ax_aldR, ax_astI, ax_astR, ax_alen, ax_ret, ax_aret, ax_vret, am_st, am_kl, List.getElem?_cons_zero, List.getElem?_cons_succ, List.set_cons_zero, List.set_cons_succ, Value.category, true_and, and_true, if_true, if_false, reduceCtorEq, Bool.false_eq_true, false_implies, forall_const, Option.some.injEq, exists_eq_left', exists_eq_left, Sum.inl.injEq, Sum.inr.injEq, Prod.mk.injEq, nI_toInt, nI_clamp, am_ix_nI, am_ix_0, am_ix_1, am_ix_2, am_ix_3, am_n0, am_n1, am_n2, am_n3, am_n4, am_t0, am_t1, am_t2, am_t3, am_t4, am_tm1, am_nS, am_nP, am_nM, Int.ofNat_lt, Int.ofNat_le, Option.toList_some, Option.toList_none, List.cons_append, List.nil_append, List.append_nil, o1]
      exact fun _ => ⟨by simp, m2.trans t1, m3.trans u1, hq⟩
    | false =>
      rw [hw] at hq
      simp (disch := omega) only [ax_const, ax_iload, ax_lload, ax_aload, ax_istore, ax_astore, ax_iinc, ax_i2, ax_i2n, ax_l2, ax_lsh, ax_ii, ax_il, ax_li, ax_pop, ax_dup, ax_dup2, ax_if, ax_cmp, ax_acmp, ax_goto, ax_getI, ax_getR, ax_putI, ax_putR, ax_gets, ax_getsT, ax_aldI, ax_aldR, ax_astI, ax_astR, ax_alen, ax_ret, ax_aret, ax_vret, am_st, am_kl, List.getElem?_cons_zero, List.getElem?_cons_succ, List.set_cons_zero, List.set_cons_succ, Value.category, true_and, and_true, if_true, if_false, reduceCtorEq, Bool.false_eq_true, false_implies, forall_const, Option.some.injEq, exists_eq_left', exists_eq_left, Sum.inl.injEq, Sum.inr.injEq, Prod.mk.injEq, nI_toInt, nI_clamp, am_ix_nI, am_ix_0, am_ix_1, am_ix_2, am_ix_3, am_n0, am_n1, am_n2, am_n3, am_n4, am_t0, am_t1, am_t2, am_t3, am_t4, am_tm1, am_nS, am_nP, am_nM, Int.ofNat_lt, Int.ofNat_le, Option.toList_some, Option.toList_none, List.cons_append, List.nil_append, List.append_nil]
      exact ⟨⟨by simp, m2.trans t1, m3.trans u1, hq⟩, fun z => absurd trivial z⟩
  obtain ⟨h1, h2, h3, h4, h5, h6, h7, h8, h9, h10, h11, h12, h13, h14⟩ := id hJ
  simp (disch := omega) only [ax_const, ax_iload, ax_lload, ax_aload, ax_istore, ax_astore, ax_iinc, ax_i2, ax_i2n, ax_l2, ax_lsh, ax_ii, ax_il, ax_li, ax_pop, ax_dup, ax_dup2, ax_if, ax_cmp, ax_acmp, ax_goto, ax_getI, ax_getR, ax_putI, ax_putR, ax_gets, ax_getsT, ax_aldI, ax_aldR, ax_astI, ax_astR, ax_alen, ax_ret, ax_aret, ax_vret, am_st, am_kl, List.getElem?_cons_zero, List.getElem?_cons_succ, List.set_cons_zero, List.set_cons_succ, Value.category, true_and, and_true, if_true, if_false, reduceCtorEq, Bool.false_eq_true, false_implies, forall_const, Option.some.injEq, exists_eq_left', exists_eq_left, Sum.inl.injEq, Sum.inr.injEq, Prod.mk.injEq, nI_toInt, nI_clamp, am_ix_nI, am_ix_0, am_ix_1, am_ix_2, am_ix_3, am_n0, am_n1, am_n2, am_n3, am_n4, am_t0, am_t1, am_t2, am_t3, am_t4, am_tm1, am_nS, am_nP, am_nM, Int.ofNat_lt, Int.ofNat_le, Option.toList_some, Option.toList_none, List.cons_append, List.nil_append, List.append_nil, h2.1, h2.2.2.2.1, h5.1, h7]
  cases htop : top with
  | false =>
    rw [if_neg (show ¬ (false = true) by decide)]
    exact ⟨fun _ => h25 (by rw [htop]; rfl), fun z => absurd rfl z⟩
  | true =>
    rw [if_pos rfl]
    refine ⟨fun z => absurd z o1, fun _ => ?_⟩
    refine am_callK [.ref e, .int (nI i), .int (nI j)] [] (d' := 2) (lim' := (am_tp σ1, am_us σ1)) rfl (by decide) (by rw [t1]; exact Nat.le_refl _) (by rw [u1]; exact Nat.le_refl _) rfl (by decide) (am_recv h2.1) ?_
    refine c_lcovered hJ hi' hj' (fun _ _ => ?_)
    cases hcv : xl_cv two L1 L2 (L1.getD i xr_0) (L2.getD j xr_0) with
    | false =>
      simp (disch := omega) only [ax_const, ax_iload, ax_lload, ax_aload, ax_istore, ax_astore, ax_iinc, ax_i2, ax_i2n, ax_l2, ax_lsh, ax_ii, ax_il, ax_li, ax_pop, ax_dup, ax_dup2, ax_if, ax_cmp, ax_acmp, ax_goto, ax_getI, ax_getR, ax_putI, ax_putR, ax_gets, ax_getsT, ax_aldI, ax_aldR, ax_astI, ax_astR, ax_alen, ax_ret, ax_aret, ax_vret, am_st, am_kl, List.getElem?_cons_zero, List.getElem?_cons_succ, List.set_cons_zero, List.set_cons_succ, Value.category, true_and, and_true, if_true, if_false, reduceCtorEq, Bool.false_eq_true, false_implies, forall_const, Option.some.injEq, exists_eq_left', exists_eq_left, Sum.inl.injEq, Sum.inr.injEq, Prod.mk.injEq, nI_toInt, nI_clamp, am_ix_nI, am_ix_0, am_ix_1, am_ix_2, am_ix_3, am_n0, am_n1, am_n2, am_n3, am_n4, am_t0, am_t1, am_t2, am_t3, am_t4, am_tm1, am_nS, am_nP, am_nM, Int.ofNat_lt, Int.ofNat_le, Option.toList_some, Option.toList_none, List.cons_append, List.nil_append, List.append_nil]
      exact ⟨h25 (by rw [htop, hcv]; rfl), fun z => absurd trivial z⟩
    | true =>
      rw [htop, hcv] at hQ
      simp (disch := omega) only [ax_const, ax_iload, ax_lload, ax_aload, ax_istore, ax_astore, ax_iinc, ax_i2, ax_i2n, ax_l2, ax_lsh, ax_ii, ax_il, ax_li, ax_pop, ax_dup, ax_dup2, ax_if, ax_cmp, ax_acmp, ax_goto, ax_getI, ax_getR, ax_putI, ax_putR, ax_gets, ax_getsT, ax_aldI, ax_aldR, ax_astI, ax_astR, ax_alen, ax_ret, ax_aret, ax_vret, am_st, am_kl, List.getElem?_cons_zero, List.getElem?_cons_succ, List.set_cons_zero, List.set_cons_succ, Value.category, true_and, and_true, if_true, if_false, reduceCtorEq, Bool.false_eq_true, false_implies, forall_const, Option.some.injEq, exists_eq_left', exists_eq_left, Sum.inl.injEq, Sum.inr.injEq, Prod.mk.injEq, nI_toInt, nI_clamp, am_ix_nI, am_ix_0, am_ix_1, am_ix_2, am_ix_3, am_n0, am_n1, am_n2, am_n3, am_n4, am_t0, am_t1, am_t2, am_t3, am_t4, am_tm1, am_nS, am_nP, am_nM, Int.ofNat_lt, Int.ofNat_le, Option.toList_some, Option.toList_none, List.cons_append, List.nil_append, List.append_nil, o1]
      have hJt : xl_J g σ1 e S k ss f s two true L1 L2 := htop ▸ hJ
      exact fun _ => ⟨by simp, t1, u1, hQ σ1 hJt (hf.mono (fun b x => Or.inl x))⟩
/-- the found ones -/
def xl_FL (σ : am_S) (e : Nat) (FL : List (Nat × Nat)) : Prop := am_i σ e 3 = nI FL.length ∧ FL.length ≤ 40 ∧ ∀ q i j, FL[q]? = some (i, j) → am_i σ (e + 101) q = nI i ∧ am_i σ (e + 102) q = nI j
def xl_in (P : Nat → Nat → Bool) (i : Nat) : Nat → Nat → List (Nat × Nat) → Option (List (Nat × Nat))
  | 0, _, acc => some acc
  | n + 1, j, acc => if P i j = true then (if acc.length = 40 then none else xl_in P i n (j + 1) (acc ++ [(i, j)])) else xl_in P i n (j + 1) acc
def xl_out (P : Nat → Nat → Bool) (n2 : Nat) : Nat → Nat → List (Nat × Nat) → Option (List (Nat × Nat))
  | 0, _, acc => some acc
  | n + 1, i, acc => (xl_in P i n2 0 acc).bind (fun acc' => xl_out P n2 n (i + 1) acc')
theorem xl_FL.fm {P : Nat → Prop} {σ σ' : am_S} {e : Nat} {FL : List (Nat × Nat)} (h : xl_FL σ e FL) (hf : am_fm P σ σ') (h0 : ¬ P e) (h1 : ¬ P (e + 101)) (h2 : ¬ P (e + 102)) : xl_FL σ' e FL := by
  unfold xl_FL
  rw [(hf.2.2.2 _ h0).1, (hf.2.2.2 _ h1).1, (hf.2.2.2 _ h2).1]
  exact h
theorem xl_FL.add {σ : am_S} {e i j : Nat} {FL : List (Nat × Nat)} (h : xl_FL σ e FL) (hl : FL.length < 40) : xl_FL (am_wi (am_wi (am_wi σ (e + 101) FL.length (nI i)) (e + 102) FL.length (nI j)) e 3 (nI (FL.length + 1))) e (FL ++ [(i, j)]) := by
  refine ⟨by rw [am_i_wi, if_pos ⟨rfl, rfl⟩]; simp, by simp; omega, fun q i' j' hq => ?_⟩
  simp only [am_i_wi]
  by_cases c : q < FL.length
  · rw [List.getElem?_append_left c] at hq
    obtain ⟨a1, a2⟩ := h.2.2 q i' j' hq
    rw [if_neg (by omega), if_neg (by omega), if_neg (by omega), if_neg (by omega), if_neg (by omega), if_neg (by omega)]
    exact ⟨a1, a2⟩
  · rw [List.getElem?_append_right (by omega)] at hq
    have e1 : q = FL.length := by
      have := (List.getElem?_eq_some_iff.mp hq).1
      simp at this
      omega
    subst e1
    rw [Nat.sub_self, List.getElem?_cons_zero, Option.some.injEq, Prod.mk.injEq] at hq
    obtain ⟨rfl, rfl⟩ := hq
    rw [if_neg (by omega), if_neg (by omega), if_pos (by simp), if_neg (by omega), if_pos (by simp)]
    exact ⟨rfl, rfl⟩
/-- how many partners a row has -/
def xl_n2 (two : Bool) (L2 : List xr_E) : Nat := if two then L2.length else 1
theorem xl_find_in {g : am_G} {l : Launch} {e S f s d tp us i : Nat} {k : Nat → Nat} {ss : Nat → List (Nat × Int32)} {two top : Bool} {L1 L2 : List xr_E} {Wh : xr_E → xr_E → Bool} {Q : Option Value → am_S → Prop} {σ0 : am_S} {G : Option (List (Nat × Nat))} (hd : 4 ≤ d) (hW : xl_W Wh f s two k ss L1 L2) (hi : i < L1.length) (h48 : xl_n2 two L2 ≤ 48)
    (hQ0 : G = none → ∀ σ', xl_J g σ' e S k ss f s two top L1 L2 → am_fm (xl_P S e) σ0 σ' → Q (some (.int 0)) σ')
    (hK : ∀ σ' FL z, G = some FL → xl_J g σ' e S k ss f s two top L1 L2 → am_fm (xl_P S e) σ0 σ' → xl_FL σ' e FL → am_tp σ' = tp → am_us σ' = us → am_W g l mX4_find d (tp, us) Q 29 [some (.ref e), some (.int (nI (xl_n2 two L2))), some (.int (nI (i + 1))), z] [] σ') :
    ∀ (n j : Nat) (acc : List (Nat × Nat)) (σ : am_S), n + j = xl_n2 two L2 → xl_in (xl_fd Wh two top L1 L2) i n j acc = G → xl_J g σ e S k ss f s two top L1 L2 → am_fm (xl_P S e) σ0 σ → xl_FL σ e acc → am_tp σ = tp → am_us σ = us →
      am_W g l mX4_find d (tp, us) Q 42 [some (.ref e), some (.int (nI (xl_n2 two L2))), some (.int (nI i)), some (.int (nI j))] [] σ := by
  intro n
  induction n with
  | zero =>
    intro j acc σ hn hG hJ hf hFL h1 h2
    obtain ⟨p, h3⟩ := hJ.2.2.1
    have hl1 := h3.2.2.2.1
    refine kX4_find_42 ?_
    simp (disch := omega) only [ax_const, ax_iload, ax_lload, ax_aload, ax_istore, ax_astore, ax_iinc, ax_i2, ax_i2n, ax_l2, ax_lsh, ax_ii, ax_il, ax_li, ax_pop, ax_dup, ax_dup2, ax_if, ax_cmp, ax_acmp, ax_goto, ax_getI, ax_getR, ax_putI, ax_putR, ax_gets, ax_getsT, ax_aldI, ax_aldR, ax_astI, ax_astR, ax_alen, ax_ret, ax_aret, ax_vret, am_st, am_kl, List.getElem?_cons_zero, List.getElem?_cons_succ, List.set_cons_zero, List.set_cons_succ, Value.category, true_and, and_true, if_true, if_false, reduceCtorEq, Bool.false_eq_true, false_implies, forall_const, Option.some.injEq, exists_eq_left', exists_eq_left, Sum.inl.injEq, Sum.inr.injEq, Prod.mk.injEq, nI_toInt, nI_clamp, am_ix_nI, am_ix_0, am_ix_1, am_ix_2, am_ix_3, am_n0, am_n1, am_n2, am_n3, am_n4, am_t0, am_t1, am_t2, am_t3, am_t4, am_tm1, am_nS, am_nP, am_nM, Int.ofNat_lt, Int.ofNat_le]
    exact ⟨fun z => by omega, fun _ => hK σ acc _ hG.symm hJ hf hFL h1 h2⟩
  | succ n ih =>
    intro j acc σ hn hG hJ hf hFL h1 h2
    obtain ⟨p, h3⟩ := hJ.2.2.1
    have hl1 := h3.2.2.2.1
    have o1 : ¬ (1 : Int32) = 0 := by decide
    rw [xl_in] at hG
    refine kX4_find_42 ?_
    simp (disch := omega) only [ax_const, ax_iload, ax_lload, ax_aload, ax_istore, ax_astore, ax_iinc, ax_i2, ax_i2n, ax_l2, ax_lsh, ax_ii, ax_il, ax_li, ax_pop, ax_dup, ax_dup2, ax_if, ax_cmp, ax_acmp, ax_goto, ax_getI, ax_getR, ax_putI, ax_putR, ax_gets, ax_getsT, ax_aldI, ax_aldR, ax_astI, ax_astR, ax_alen, ax_ret, ax_aret, ax_vret, am_st, am_kl, List.getElem?_cons_zero, List.getElem?_cons_succ, List.set_cons_zero, List.set_cons_succ, Value.category, true_and, and_true, if_true, if_false, reduceCtorEq, Bool.false_eq_true, false_implies, forall_const, Option.some.injEq, exists_eq_left', exists_eq_left, Sum.inl.injEq, Sum.inr.injEq, Prod.mk.injEq, nI_toInt, nI_clamp, am_ix_nI, am_ix_0, am_ix_1, am_ix_2, am_ix_3, am_n0, am_n1, am_n2, am_n3, am_n4, am_t0, am_t1, am_t2, am_t3, am_t4, am_tm1, am_nS, am_nP, am_nM, Int.ofNat_lt, Int.ofNat_le]
    refine ⟨fun _ => ?_, fun z => by omega⟩
    refine am_callK [.ref e, .int (nI i), .int (nI j)] [] (d' := 3) (lim' := (am_tp σ, am_us σ)) rfl (by omega) (by rw [h1]; exact Nat.le_refl _) (by rw [h2]; exact Nat.le_refl _) rfl (by decide) (am_recv hJ.2.1.1) ?_
    refine c_lfound hJ hW hi (fun q => by rw [q] at hn; have hn : n + 1 + j = L2.length := hn; omega) (by omega) (fun σ1 hJ1 hf1 t1 u1 => ?_)
    have t1 := t1.trans h1
    have u1 := u1.trans h2
    have hf1p : am_fm (xl_P S e) σ0 σ1 := hf.tr (hf1.mono (fun b x => Or.inl (by omega)))
    have hse : S + 31 ≤ e := hJ1.2.2.2.2.2.2.2.2.2.2.2.2.2
    have hFL1 := hFL.fm hf1 (by omega) (by omega) (by omega)
    cases hP : xl_fd Wh two top L1 L2 i j with
    | false =>
      rw [hP, if_neg (by decide)] at hG
      simp (disch := omega) only [ax_const, ax_iload, ax_lload, ax_aload, ax_istore, ax_astore, ax_iinc, ax_i2, ax_i2n, ax_l2, ax_lsh, ax_ii, ax_il, ax_li, ax_pop, ax_dup, ax_dup2, ax_if, ax_cmp, ax_acmp, ax_goto, ax_getI, ax_getR, ax_putI, ax_putR, ax_gets, ax_getsT, ax_aldI, ax_aldR, ax_astI, ax_astR, ax_alen, ax_ret, ax_aret, ax_vret, am_st, am_kl, List.getElem?_cons_zero, List.getElem?_cons_succ, List.set_cons_zero, List.set_cons_succ, Value.category, true_and, and_true, if_true, if_false, reduceCtorEq, Bool.false_eq_true, false_implies, forall_const, Option.some.injEq, exists_eq_left', exists_eq_left, Sum.inl.injEq, Sum.inr.injEq, Prod.mk.injEq, nI_toInt, nI_clamp, am_ix_nI, am_ix_0, am_ix_1, am_ix_2, am_ix_3, am_n0, am_n1, am_n2, am_n3, am_n4, am_t0, am_t1, am_t2, am_t3, am_t4, am_tm1, am_nS, am_nP, am_nM, Int.ofNat_lt, Int.ofNat_le, Option.toList_some, Option.toList_none, List.cons_append, List.nil_append, List.append_nil]
      exact ⟨ih (j + 1) acc σ1 (by omega) hG hJ1 hf1p hFL1 t1 u1, fun z => absurd trivial z⟩
    | true =>
      rw [hP, if_pos rfl] at hG
      obtain ⟨y1, y2, y3, y4, y5, y6, y7, y8, y9, y10, y11⟩ := hJ1.2.1
      have w0 := y11 0 (by decide)
      have w1 := y11 1 (by decide)
      rw [Nat.add_zero] at w0
      have w1 : am_sh σ1 (e + 102) = some (.inr (0, 40)) := w1
      obtain ⟨f1, f2, f3⟩ := id hFL1
      have e40 : nI acc.length = 40 ↔ acc.length = 40 := nI_inj (b := 40) (by omega) (by omega)
      rw [if_pos rfl]
      have n1 : ¬ e = e + 101 := by omega
      have n2 : ¬ e = e + 102 := by omega
      simp (disch := omega) only [ax_const, ax_iload, ax_lload, ax_aload, ax_istore, ax_astore, ax_iinc, ax_i2, ax_i2n, ax_l2, ax_lsh, ax_ii, ax_il, ax_li, ax_pop, ax_dup, ax_dup2, ax_if, ax_cmp, ax_acmp, ax_goto, ax_getI, ax_getR, ax_putI, ax_putR, ax_gets, ax_getsT, ax_aldI, ax_aldR, ax_astI, ax_astR, ax_alen, ax_ret, ax_aret, ax_vret, am_st, am_kl, List.getElem?_cons_zero, List.getElem?_cons_succ, List.set_cons_zero, List.set_cons_succ, Value.category, true_and, and_true, if_true, if_false, reduceCtorEq, Bool.false_eq_true, false_implies, forall_const, Option.some.injEq, exists_eq_left', exists_eq_left, Sum.inl.injEq, Sum.inr.injEq, Prod.mk.injEq, nI_toInt, nI_clamp, am_ix_nI, am_ix_0, am_ix_1, am_ix_2, am_ix_3, am_n0, am_n1, am_n2, am_n3, am_n4, am_t0, am_t1, am_t2, am_t3, am_t4, am_tm1, am_nS, am_nP, am_nM, Int.ofNat_lt, Int.ofNat_le, Option.toList_some, Option.toList_none, List.cons_append, List.nil_append, List.append_nil, am_sh_wi, am_sh_wr, am_r_wi, am_i_wr, am_tp_wi, am_tp_wr, am_us_wi, am_us_wr, am_i_wi, am_r_wr, o1, y1, y5, y6, w0, w1, f1, e40, n1, n2, false_and]
      refine fun _ => ⟨fun q => ⟨by simp, t1, u1, ?_⟩, fun q => ⟨by omega, by omega, ?_⟩⟩
      · rw [if_pos q] at hG
        exact hQ0 hG.symm σ1 hJ1 hf1p
      · rw [if_neg q] at hG
        have fw : am_fm (xl_P S e) σ1 (am_wi (am_wi (am_wi σ1 (e + 101) acc.length (nI i)) (e + 102) acc.length (nI j)) e 3 (nI (acc.length + 1))) := ((am_fm.rf.wi (Or.inr (Or.inr ⟨by omega, by omega⟩))).wi (Or.inr (Or.inr ⟨by omega, by omega⟩))).wi (Or.inr (Or.inl rfl))
        exact ih (j + 1) (acc ++ [(i, j)]) _ (by omega) hG (hJ1.up fw hJ1.2.2.2.2.1 rfl) (hf1p.tr fw) (hFL1.add (by omega)) t1 u1
theorem xl_find_out {g : am_G} {l : Launch} {e S f s d tp us : Nat} {k : Nat → Nat} {ss : Nat → List (Nat × Int32)} {two top : Bool} {L1 L2 : List xr_E} {Wh : xr_E → xr_E → Bool} {Q : Option Value → am_S → Prop} {σ0 : am_S} {G : Option (List (Nat × Nat))} (hd : 4 ≤ d) (hW : xl_W Wh f s two k ss L1 L2) (h48 : xl_n2 two L2 ≤ 48)
    (hQ0 : G = none → ∀ σ', xl_J g σ' e S k ss f s two top L1 L2 → am_fm (xl_P S e) σ0 σ' → Q (some (.int 0)) σ') (hQ1 : ∀ σ' FL, G = some FL → xl_J g σ' e S k ss f s two top L1 L2 → am_fm (xl_P S e) σ0 σ' → xl_FL σ' e FL → Q (some (.int 1)) σ') :
    ∀ (n i : Nat) (acc : List (Nat × Nat)) (σ : am_S) (z : Option Value), n + i = L1.length → xl_out (xl_fd Wh two top L1 L2) (xl_n2 two L2) n i acc = G → xl_J g σ e S k ss f s two top L1 L2 → am_fm (xl_P S e) σ0 σ → xl_FL σ e acc → am_tp σ = tp → am_us σ = us →
      am_W g l mX4_find d (tp, us) Q 29 [some (.ref e), some (.int (nI (xl_n2 two L2))), some (.int (nI i)), z] [] σ := by
  intro n
  induction n with
  | zero =>
    intro i acc σ z hn hG hJ hf hFL h1 h2
    obtain ⟨p, h3⟩ := hJ.2.2.1
    have hl1 := h3.2.2.2.1
    obtain ⟨y1, y2, y3, y4, y5, y6, y7, y8, y9, y10, y11⟩ := hJ.2.1
    refine kX4_find_29 ?_
    simp (disch := omega) only [ax_const, ax_iload, ax_lload, ax_aload, ax_istore, ax_astore, ax_iinc, ax_i2, ax_i2n, ax_l2, ax_lsh, ax_ii, ax_il, ax_li, ax_pop, ax_dup, ax_dup2, ax_if, ax_cmp, ax_acmp, ax_goto, ax_getI, ax_getR, ax_putI, ax_putR, ax_gets, ax_getsT, ax_aldI, ax_aldR, ax_astI, ax_astR, ax_alen, ax_ret, ax_aret, ax_vret, am_st, am_kl, List.getElem?_cons_zero, List.getElem?_cons_succ, List.set_cons_zero, List.set_cons_succ, Value.category, true_and, and_true, if_true, if_false, reduceCtorEq, Bool.false_eq_true, false_implies, forall_const, Option.some.injEq, exists_eq_left', exists_eq_left, Sum.inl.injEq, Sum.inr.injEq, Prod.mk.injEq, nI_toInt, nI_clamp, am_ix_nI, am_ix_0, am_ix_1, am_ix_2, am_ix_3, am_n0, am_n1, am_n2, am_n3, am_n4, am_t0, am_t1, am_t2, am_t3, am_t4, am_tm1, am_nS, am_nP, am_nM, Int.ofNat_lt, Int.ofNat_le, y1, y2, h3.1, h3.2.2.1]
    exact ⟨fun z => by omega, fun _ => ⟨by simp, h1, h2, hQ1 σ acc hG.symm hJ hf hFL⟩⟩
  | succ n ih =>
    intro i acc σ z hn hG hJ hf hFL h1 h2
    obtain ⟨p, h3⟩ := hJ.2.2.1
    have hl1 := h3.2.2.2.1
    obtain ⟨y1, y2, y3, y4, y5, y6, y7, y8, y9, y10, y11⟩ := hJ.2.1
    rw [xl_out] at hG
    refine kX4_find_29 ?_
    simp (disch := omega) only [ax_const, ax_iload, ax_lload, ax_aload, ax_istore, ax_astore, ax_iinc, ax_i2, ax_i2n, ax_l2, ax_lsh, ax_ii, ax_il, ax_li, ax_pop, ax_dup, ax_dup2, ax_if, ax_cmp, ax_acmp, ax_goto, ax_getI, ax_getR, ax_putI, ax_putR, ax_gets, ax_getsT, ax_aldI, ax_aldR, ax_astI, ax_astR, ax_alen, ax_ret, ax_aret, ax_vret, am_st, am_kl, List.getElem?_cons_zero, List.getElem?_cons_succ, List.set_cons_zero, List.set_cons_succ, Value.category, true_and, and_true, if_true, if_false, reduceCtorEq, Bool.false_eq_true, false_implies, forall_const, Option.some.injEq, exists_eq_left', exists_eq_left, Sum.inl.injEq, Sum.inr.injEq, Prod.mk.injEq, nI_toInt, nI_clamp, am_ix_nI, am_ix_0, am_ix_1, am_ix_2, am_ix_3, am_n0, am_n1, am_n2, am_n3, am_n4, am_t0, am_t1, am_t2, am_t3, am_t4, am_tm1, am_nS, am_nP, am_nM, Int.ofNat_lt, Int.ofNat_le, y1, y2, h3.1, h3.2.2.1]
    refine ⟨fun _ => ?_, fun z => by omega⟩
    refine xl_find_in hd hW (show i < L1.length by omega) h48 (fun q σ' a b => hQ0 (by rw [q] at hG; exact hG.symm) σ' a b) (fun σ' FL z q a b c t u => ?_) (xl_n2 two L2) 0 acc σ (Nat.add_zero _) rfl hJ hf hFL h1 h2
    rw [q] at hG
    exact ih (i + 1) FL σ' z (by omega) hG a b c t u
/-- Selection.find -/
theorem c_lfind {g : am_G} {l : Launch} {σ : am_S} {e S f s : Nat} {k : Nat → Nat} {ss : Nat → List (Nat × Int32)} {two top : Bool} {L1 L2 : List xr_E} {Wh : xr_E → xr_E → Bool} {Q : Option Value → am_S → Prop} (h : xl_J g σ e S k ss f s two top L1 L2) (hW : xl_W Wh f s two k ss L1 L2)
    (hQ0 : xl_out (xl_fd Wh two top L1 L2) (xl_n2 two L2) L1.length 0 [] = none → ∀ σ', xl_J g σ' e S k ss f s two top L1 L2 → am_fm (xl_P S e) σ σ' → Q (some (.int 0)) σ') (hQ1 : ∀ σ' FL, xl_out (xl_fd Wh two top L1 L2) (xl_n2 two L2) L1.length 0 [] = some FL → xl_J g σ' e S k ss f s two top L1 L2 → am_fm (xl_P S e) σ σ' → xl_FL σ' e FL → Q (some (.int 1)) σ') :
    am_C g l mX4_find 4 (am_tp σ, am_us σ) [.ref e] σ Q := by
  obtain ⟨h1, h2, h3, h4, h5, h6, h7, h8, h9, h10, h11, h12, h13, h14⟩ := id h
  obtain ⟨y1, y2, y3, y4, y5, y6, y7, y8, y9, y10, y11⟩ := h2
  have fw : am_fm (xl_P S e) σ (am_wi σ e 3 0) := am_fm.rf.wi (Or.inr (Or.inl rfl))
  have hJ1 := h.up fw h5 rfl
  have hFL : xl_FL (am_wi σ e 3 0) e [] := ⟨by rw [am_i_wi, if_pos ⟨rfl, rfl⟩]; rfl, by decide, fun q i j hq => by simp at hq⟩
  have o1 : ¬ (1 : Int32) = 0 := by decide
  have q4 : am_i (am_wi σ e 3 0) S 4 = if two then nI s else -1 := by rw [am_i_wi, if_neg (by omega)]; exact h9
  refine am_C.go [some (.ref e), none, none, none] (by decide +kernel) (Nat.le_of_ble_eq_true rfl) rfl (kX4_find_0 ?_)
  simp (disch := omega) only [ax_const, ax_iload, ax_lload, ax_aload, ax_istore, ax_astore, ax_iinc, ax_i2, ax_i2n, ax_l2, ax_lsh, ax_ii, ax_il, ax_li, ax_pop, ax_dup, ax_dup2, ax_if, ax_cmp, ax_acmp, ax_goto, ax_getI, ax_getR, ax_putI, ax_putR, ax_gets, ax_getsT, ax_aldI, ax_aldR, ax_astI, ax_astR, ax_alen, ax_ret, ax_aret, ax_vret, am_st, am_kl, List.getElem?_cons_zero, List.getElem?_cons_succ, List.set_cons_zero, List.set_cons_succ, Value.category, true_and, and_true, if_true, if_false, reduceCtorEq, Bool.false_eq_true, false_implies, forall_const, Option.some.injEq, exists_eq_left', exists_eq_left, Sum.inl.injEq, Sum.inr.injEq, Prod.mk.injEq, nI_toInt, nI_clamp, am_ix_nI, am_ix_0, am_ix_1, am_ix_2, am_ix_3, am_n0, am_n1, am_n2, am_n3, am_n4, am_t0, am_t1, am_t2, am_t3, am_t4, am_tm1, am_nS, am_nP, am_nM, Int.ofNat_lt, Int.ofNat_le, am_sh_wi, am_sh_wr, am_r_wi, am_i_wr, am_tp_wi, am_tp_wr, am_us_wi, am_us_wr, am_i_wi, am_r_wr, y1, y4]
  refine am_callK [.ref S] [] (d' := 0) (lim' := (am_tp σ, am_us σ)) rfl (by decide) (Nat.le_refl _) (Nat.le_refl _) rfl (Nat.le_of_ble_eq_true rfl) (am_recv hJ1.2.2.2.2.1.1) ?_
  refine c_stwo (σ := am_wi σ e 3 0) hJ1.2.2.2.2.1 (fun _ _ => ?_)
  rw [q4]
  have main : ∀ h48 : xl_n2 two L2 ≤ 48, am_W g l mX4_find 4 (am_tp σ, am_us σ) Q 29 [some (.ref e), some (.int (nI (xl_n2 two L2))), some (.int (nI 0)), none] [] (am_wi σ e 3 0) := fun h48 =>
    xl_find_out (Nat.le_refl _) hW h48 hQ0 hQ1 L1.length 0 [] _ none (Nat.add_zero _) rfl hJ1 fw hFL rfl rfl
  cases two with
  | false =>
    rw [if_neg (show ¬ (false = true) by decide), if_pos rfl]
    simp (disch := omega) only [ax_const, ax_iload, ax_lload, ax_aload, ax_istore, ax_astore, ax_iinc, ax_i2, ax_i2n, ax_l2, ax_lsh, ax_ii, ax_il, ax_li, ax_pop, ax_dup, ax_dup2, ax_if, ax_cmp, ax_acmp, ax_goto, ax_getI, ax_getR, ax_putI, ax_putR, ax_gets, ax_getsT, ax_aldI, ax_aldR, ax_astI, ax_astR, ax_alen, ax_ret, ax_aret, ax_vret, am_st, am_kl, List.getElem?_cons_zero, List.getElem?_cons_succ, List.set_cons_zero, List.set_cons_succ, Value.category, true_and, and_true, if_true, if_false, reduceCtorEq, Bool.false_eq_true, false_implies, forall_const, Option.some.injEq, exists_eq_left', exists_eq_left, Sum.inl.injEq, Sum.inr.injEq, Prod.mk.injEq, nI_toInt, nI_clamp, am_ix_nI, am_ix_0, am_ix_1, am_ix_2, am_ix_3, am_n0, am_n1, am_n2, am_n3, am_n4, am_t0, am_t1, am_t2, am_t3, am_t4, am_tm1, am_nS, am_nP, am_nM, Int.ofNat_lt, Int.ofNat_le, Option.toList_some, Option.toList_none, List.cons_append, List.nil_append, List.append_nil]
    exact ⟨main (show 1 ≤ 48 by decide), fun z => absurd trivial z⟩
  | true =>
    obtain ⟨p2, g2⟩ := hJ1.2.2.2.1 rfl
    have hs1 : am_i (am_wi σ e 3 0) (e + 51) 1 = nI L2.length := g2.2.2.1
    rw [if_pos rfl, if_neg (nI_m1 (by omega))]
    have y3' : am_r (am_wi σ e 3 0) e 1 = some (e + 51) := y3
    have g21 : am_sh (am_wi σ e 3 0) (e + 51) = some (.inl 2) := g2.1
    rw [am_i_wi, if_neg (by omega)] at hs1
    simp (disch := omega) only [ax_const, ax_iload, ax_lload, ax_aload, ax_istore, ax_astore, ax_iinc, ax_i2, ax_i2n, ax_l2, ax_lsh, ax_ii, ax_il, ax_li, ax_pop, ax_dup, ax_dup2, ax_if, ax_cmp, ax_acmp, ax_goto, ax_getI, ax_getR, ax_putI, ax_putR, ax_gets, ax_getsT, ax_aldI, ax_aldR, ax_astI, ax_astR, ax_alen, ax_ret, ax_aret, ax_vret, am_st, am_kl, List.getElem?_cons_zero, List.getElem?_cons_succ, List.set_cons_zero, List.set_cons_succ, Value.category, true_and, and_true, if_true, if_false, reduceCtorEq, Bool.false_eq_true, false_implies, forall_const, Option.some.injEq, exists_eq_left', exists_eq_left, Sum.inl.injEq, Sum.inr.injEq, Prod.mk.injEq, nI_toInt, nI_clamp, am_ix_nI, am_ix_0, am_ix_1, am_ix_2, am_ix_3, am_n0, am_n1, am_n2, am_n3, am_n4, am_t0, am_t1, am_t2, am_t3, am_t4, am_tm1, am_nS, am_nP, am_nM, Int.ofNat_lt, Int.ofNat_le, Option.toList_some, Option.toList_none, List.cons_append, List.nil_append, List.append_nil, am_sh_wi, am_sh_wr, am_r_wi, am_i_wr, am_tp_wi, am_tp_wr, am_us_wi, am_us_wr, am_i_wi, am_r_wr, o1, y1, y3, g21, hs1]
    have hl2 := g2.2.2.2.1
    rw [if_neg (show ¬ (e + 51 = e ∧ 1 = 3) by omega)]
    exact fun _ => ⟨g21, main hl2⟩
