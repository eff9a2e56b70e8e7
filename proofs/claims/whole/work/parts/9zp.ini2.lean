/-! making: chunks, Statement -/
theorem nw_0 {g : am_G} {l : Launch} {σ : am_S} {d a u : Nat} {lim : Nat × Nat} {K : am_K} {L : List (Option Value)} {st : List Value} (hd : 2 ≤ d) (ht : am_tp σ = a) (hu : am_us σ = u) (h1 : a + 4 ≤ lim.1) (h2 : u + 485 ≤ lim.2) (hc : ((Value.ref a :: st).map fun v => v.category).sum ≤ 8)
    (hK : ∀ σ', xk_C g σ' a 0 [] → am_fa (fun b => a ≤ b ∧ b < a + 4) σ σ' → am_tp σ' = a + 4 → am_us σ' = u + 485 → K L (.ref a :: st) σ') : ax_new lim 0 5 (ax_dup (ax_call g l d lim mX0_init (some 0) 1 K)) L st σ := by
  subst ht hu
  refine ⟨by omega, by omega, rfl, ?_⟩
  have hs : am_sh (am_al σ (.inl 0) 5) (am_tp σ) = some (.inl 0) := by simp only [ax_new, ax_newa, ax_mna, ax_oinit, List.map_nil, List.map_cons, List.sum_nil, List.sum_cons, am_sh_al, am_i_al, am_r_al, am_tp_al, am_us_al, am_sh_mna, am_i_mna, am_r_mna, am_tp_mna, am_us_mna, am_sh_wi, am_sh_wr, am_r_wi, am_i_wr, am_tp_wi, am_tp_wr, am_us_wi, am_us_wr, am_i_wi, am_r_wr, if_neg, if_pos, if_true, if_false, true_and, and_true, and_self, false_and, and_false]
  refine am_callK [.ref (am_tp σ)] (.ref (am_tp σ) :: st) (d' := 1) (lim' := (am_tp σ + 4, am_us (am_al σ (.inl 0) 5) + 480)) rfl (by omega) h1 (by simp only [ax_new, ax_newa, ax_mna, ax_oinit, List.map_nil, List.map_cons, List.sum_nil, List.sum_cons, am_sh_al, am_i_al, am_r_al, am_tp_al, am_us_al, am_sh_mna, am_i_mna, am_r_mna, am_tp_mna, am_us_mna, am_sh_wi, am_sh_wr, am_r_wi, am_i_wr, am_tp_wi, am_tp_wr, am_us_wi, am_us_wr, am_i_wi, am_r_wr, if_neg, if_pos, if_true, if_false, true_and, and_true, and_self, false_and, and_false]; omega) rfl hc (am_recv hs) ?_
  refine c_x0i hs (fun j => by simp only [ax_new, ax_newa, ax_mna, ax_oinit, List.map_nil, List.map_cons, List.sum_nil, List.sum_cons, am_sh_al, am_i_al, am_r_al, am_tp_al, am_us_al, am_sh_mna, am_i_mna, am_r_mna, am_tp_mna, am_us_mna, am_sh_wi, am_sh_wr, am_r_wi, am_i_wr, am_tp_wi, am_tp_wr, am_us_wi, am_us_wr, am_i_wi, am_r_wr, if_neg, if_pos, if_true, if_false, true_and, and_true, and_self, false_and, and_false]) (by simp only [ax_new, ax_newa, ax_mna, ax_oinit, List.map_nil, List.map_cons, List.sum_nil, List.sum_cons, am_sh_al, am_i_al, am_r_al, am_tp_al, am_us_al, am_sh_mna, am_i_mna, am_r_mna, am_tp_mna, am_us_mna, am_sh_wi, am_sh_wr, am_r_wi, am_i_wr, am_tp_wi, am_tp_wr, am_us_wi, am_us_wr, am_i_wi, am_r_wr, if_neg, if_pos, if_true, if_false, true_and, and_true, and_self, false_and, and_false]) (fun σ' hC hf t1 u1 => ?_)
  exact hK σ' hC (((am_fa.rf (P := fun b => am_tp σ ≤ b ∧ b < am_tp σ + 4)).al ⟨Nat.le_refl _, by omega⟩).tr hf) t1 (by rw [u1]; simp only [ax_new, ax_newa, ax_mna, ax_oinit, List.map_nil, List.map_cons, List.sum_nil, List.sum_cons, am_sh_al, am_i_al, am_r_al, am_tp_al, am_us_al, am_sh_mna, am_i_mna, am_r_mna, am_tp_mna, am_us_mna, am_sh_wi, am_sh_wr, am_r_wi, am_i_wr, am_tp_wi, am_tp_wr, am_us_wi, am_us_wr, am_i_wi, am_r_wr, if_neg, if_pos, if_true, if_false, true_and, and_true, and_self, false_and, and_false])
theorem nw_2 {g : am_G} {l : Launch} {σ : am_S} {d a u n : Nat} {v : Int32} {lim : Nat × Nat} {K : am_K} {L : List (Option Value)} {st : List Value} (hd : 2 ≤ d) (hv : v = nI n) (hn : n ≤ 48) (ht : am_tp σ = a) (hu : am_us σ = u) (h1 : a + 2 + n ≤ lim.1) (h2 : u + 2 + n + n * 4 ≤ lim.2) (hc : ((Value.ref a :: st).map fun v => v.category).sum ≤ 8)
    (hK : ∀ σ', xr_R σ' a n (fun i => a + 2 + i) [] → am_fa (fun b => a ≤ b ∧ b < a + 2 + n) σ σ' → am_tp σ' = a + 2 + n → am_us σ' = u + 2 + n + n * 4 → K L (.ref a :: st) σ') : ax_new lim 2 2 (ax_dup (ax_const (.int v) (ax_call g l d lim mX2_init (some 2) 2 K))) L st σ := by
  subst ht hu hv
  refine ⟨by omega, by omega, rfl, ?_⟩
  have hs : am_sh (am_al σ (.inl 2) 2) (am_tp σ) = some (.inl 2) := by simp only [ax_new, ax_newa, ax_mna, ax_oinit, List.map_nil, List.map_cons, List.sum_nil, List.sum_cons, am_sh_al, am_i_al, am_r_al, am_tp_al, am_us_al, am_sh_mna, am_i_mna, am_r_mna, am_tp_mna, am_us_mna, am_sh_wi, am_sh_wr, am_r_wi, am_i_wr, am_tp_wi, am_tp_wr, am_us_wi, am_us_wr, am_i_wi, am_r_wr, if_neg, if_pos, if_true, if_false, true_and, and_true, and_self, false_and, and_false]
  refine am_callK [.ref (am_tp σ), .int (nI n)] (.ref (am_tp σ) :: st) (d' := 1) (lim' := (am_tp σ + 2 + n, am_us (am_al σ (.inl 2) 2) + n + n * 4)) rfl (by omega) h1 (by simp only [ax_new, ax_newa, ax_mna, ax_oinit, List.map_nil, List.map_cons, List.sum_nil, List.sum_cons, am_sh_al, am_i_al, am_r_al, am_tp_al, am_us_al, am_sh_mna, am_i_mna, am_r_mna, am_tp_mna, am_us_mna, am_sh_wi, am_sh_wr, am_r_wi, am_i_wr, am_tp_wi, am_tp_wr, am_us_wi, am_us_wr, am_i_wi, am_r_wr, if_neg, if_pos, if_true, if_false, true_and, and_true, and_self, false_and, and_false]; omega) rfl hc (am_recv hs) ?_
  refine c_x2i hn hs (fun j => by simp only [ax_new, ax_newa, ax_mna, ax_oinit, List.map_nil, List.map_cons, List.sum_nil, List.sum_cons, am_sh_al, am_i_al, am_r_al, am_tp_al, am_us_al, am_sh_mna, am_i_mna, am_r_mna, am_tp_mna, am_us_mna, am_sh_wi, am_sh_wr, am_r_wi, am_i_wr, am_tp_wi, am_tp_wr, am_us_wi, am_us_wr, am_i_wi, am_r_wr, if_neg, if_pos, if_true, if_false, true_and, and_true, and_self, false_and, and_false]) (by simp only [ax_new, ax_newa, ax_mna, ax_oinit, List.map_nil, List.map_cons, List.sum_nil, List.sum_cons, am_sh_al, am_i_al, am_r_al, am_tp_al, am_us_al, am_sh_mna, am_i_mna, am_r_mna, am_tp_mna, am_us_mna, am_sh_wi, am_sh_wr, am_r_wi, am_i_wr, am_tp_wi, am_tp_wr, am_us_wi, am_us_wr, am_i_wi, am_r_wr, if_neg, if_pos, if_true, if_false, true_and, and_true, and_self, false_and, and_false]) (fun σ' hC hf t1 u1 => ?_)
  exact hK σ' hC (((am_fa.rf (P := fun b => am_tp σ ≤ b ∧ b < am_tp σ + 2 + n)).al ⟨Nat.le_refl _, by omega⟩).tr hf) t1 (by rw [u1]; simp only [ax_new, ax_newa, ax_mna, ax_oinit, List.map_nil, List.map_cons, List.sum_nil, List.sum_cons, am_sh_al, am_i_al, am_r_al, am_tp_al, am_us_al, am_sh_mna, am_i_mna, am_r_mna, am_tp_mna, am_us_mna, am_sh_wi, am_sh_wr, am_r_wi, am_i_wr, am_tp_wi, am_tp_wr, am_us_wi, am_us_wr, am_i_wi, am_r_wr, if_neg, if_pos, if_true, if_false, true_and, and_true, and_self, false_and, and_false])
theorem nw_3 {g : am_G} {l : Launch} {σ : am_S} {d a u : Nat} {lim : Nat × Nat} {K : am_K} {L : List (Option Value)} {st : List Value} (hd : 2 ≤ d) (ht : am_tp σ = a) (hu : am_us σ = u) (h1 : a + 3 ≤ lim.1) (h2 : u + 164 ≤ lim.2) (hc : ((Value.ref a :: st).map fun v => v.category).sum ≤ 8)
    (hK : ∀ σ', xn_S σ' a → am_fa (fun b => a ≤ b ∧ b < a + 3) σ σ' → am_tp σ' = a + 3 → am_us σ' = u + 164 → K L (.ref a :: st) σ') : ax_new lim 3 2 (ax_dup (ax_call g l d lim mX3_init (some 3) 1 K)) L st σ := by
  subst ht hu
  refine ⟨by omega, by omega, rfl, ?_⟩
  have hs : am_sh (am_al σ (.inl 3) 2) (am_tp σ) = some (.inl 3) := by simp only [ax_new, ax_newa, ax_mna, ax_oinit, List.map_nil, List.map_cons, List.sum_nil, List.sum_cons, am_sh_al, am_i_al, am_r_al, am_tp_al, am_us_al, am_sh_mna, am_i_mna, am_r_mna, am_tp_mna, am_us_mna, am_sh_wi, am_sh_wr, am_r_wi, am_i_wr, am_tp_wi, am_tp_wr, am_us_wi, am_us_wr, am_i_wi, am_r_wr, if_neg, if_pos, if_true, if_false, true_and, and_true, and_self, false_and, and_false]
  refine am_callK [.ref (am_tp σ)] (.ref (am_tp σ) :: st) (d' := 1) (lim' := (am_tp σ + 3, am_us (am_al σ (.inl 3) 2) + 162)) rfl (by omega) h1 (by simp only [ax_new, ax_newa, ax_mna, ax_oinit, List.map_nil, List.map_cons, List.sum_nil, List.sum_cons, am_sh_al, am_i_al, am_r_al, am_tp_al, am_us_al, am_sh_mna, am_i_mna, am_r_mna, am_tp_mna, am_us_mna, am_sh_wi, am_sh_wr, am_r_wi, am_i_wr, am_tp_wi, am_tp_wr, am_us_wi, am_us_wr, am_i_wi, am_r_wr, if_neg, if_pos, if_true, if_false, true_and, and_true, and_self, false_and, and_false]; omega) rfl hc (am_recv hs) ?_
  refine c_x3i hs (by simp only [ax_new, ax_newa, ax_mna, ax_oinit, List.map_nil, List.map_cons, List.sum_nil, List.sum_cons, am_sh_al, am_i_al, am_r_al, am_tp_al, am_us_al, am_sh_mna, am_i_mna, am_r_mna, am_tp_mna, am_us_mna, am_sh_wi, am_sh_wr, am_r_wi, am_i_wr, am_tp_wi, am_tp_wr, am_us_wi, am_us_wr, am_i_wi, am_r_wr, if_neg, if_pos, if_true, if_false, true_and, and_true, and_self, false_and, and_false]) (fun σ' hC hf t1 u1 => ?_)
  exact hK σ' hC (((am_fa.rf (P := fun b => am_tp σ ≤ b ∧ b < am_tp σ + 3)).al ⟨Nat.le_refl _, by omega⟩).tr hf) t1 (by rw [u1]; simp only [ax_new, ax_newa, ax_mna, ax_oinit, List.map_nil, List.map_cons, List.sum_nil, List.sum_cons, am_sh_al, am_i_al, am_r_al, am_tp_al, am_us_al, am_sh_mna, am_i_mna, am_r_mna, am_tp_mna, am_us_mna, am_sh_wi, am_sh_wr, am_r_wi, am_i_wr, am_tp_wi, am_tp_wr, am_us_wi, am_us_wr, am_i_wi, am_r_wr, if_neg, if_pos, if_true, if_false, true_and, and_true, and_self, false_and, and_false])
/-- the statement's own codes, one behind another -/
theorem x6i_71 {g : am_G} {l : Launch} {S d : Nat} {lim : Nat × Nat} {σ0 : am_S} {Q : Option Value → am_S → Prop} (hd : 2 ≤ d) (hl : lim.1 = S + 31) (hQ : ∀ σ', xs_0 g σ' S → am_fa (fun b => S ≤ b ∧ b < S + 31) σ0 σ' → Q none σ') :
    ∀ (n i : Nat) (σ : am_S), n + i = 3 → am_tp σ = S + 19 + 4 * i → am_us σ + 485 * n = lim.2 →
      (am_sh σ S = some (.inl 6) ∧ am_r σ S 7 = some (S + 1) ∧ am_r σ S 8 = some (S + 2) ∧ am_r σ S 9 = some (S + 6) ∧ am_r σ S 10 = some (S + 10) ∧ am_r σ S 11 = some (S + 14) ∧ am_r σ S 12 = some (S + 15)) →
      (am_sh σ (S + 1) = some (.inr (7, 3)) ∧ (∀ j, j < i → am_r σ (S + 1) j = some (S + 19 + 4 * j)) ∧ am_sh σ (S + 14) = some (.inr (2, 3)) ∧ am_sh σ (S + 15) = some (.inr (3, 3)) ∧ ∀ j, j < 3 → am_r σ (S + 15) j = some (S + 16 + j) ∧ am_sh σ (S + 16 + j) = some (.inr (0, 4))) →
      (xk_C g σ (S + 2) 0 [] ∧ xk_C g σ (S + 6) 0 [] ∧ xk_C g σ (S + 10) 0 [] ∧ ∀ j, j < i → xk_C g σ (S + 19 + 4 * j) 0 []) → am_fa (fun b => S ≤ b ∧ b < S + 31) σ0 σ → am_W g l mX6_init d lim Q 71 [some (.ref S), some (.int (nI i))] [] σ := by
  intro n
  induction n with
  | zero =>
    intro i σ hn ht hu hA hB hC hf
    have hi : i = 3 := by omega
    subst hi
    refine kX6_init_71 ?_
    simp (disch := omega) only [ax_const, ax_iload, ax_lload, ax_aload, ax_istore, ax_astore, ax_iinc, ax_i2, ax_i2n, ax_l2, ax_lsh, ax_ii, ax_il, ax_li, ax_pop, ax_dup, ax_dup2, ax_if, ax_cmp, ax_acmp, ax_goto, ax_getI, ax_getR, ax_putI, ax_putR, ax_gets, ax_getsT, ax_aldI, ax_aldR, ax_astI, ax_astR, ax_alen, ax_ret, ax_aret, ax_vret, am_st, am_kl, List.getElem?_cons_zero, List.getElem?_cons_succ, List.set_cons_zero, List.set_cons_succ, Value.category, true_and, and_true, if_true, if_false, reduceCtorEq, Bool.false_eq_true, false_implies, forall_const, Option.some.injEq, exists_eq_left', exists_eq_left, Sum.inl.injEq, Sum.inr.injEq, Prod.mk.injEq, nI_toInt, nI_clamp, am_ix_nI, am_ix_0, am_ix_1, am_ix_2, am_ix_3, am_n0, am_n1, am_n2, am_n3, am_n4, am_t0, am_t1, am_t2, am_t3, am_t4, am_tm1, am_nS, am_nP, am_nM, Int.ofNat_lt, Int.ofNat_le]
    obtain ⟨a1, a2, a3, a4, a5, a6, a7⟩ := hA
    obtain ⟨b1, b2, b3, b4, b5⟩ := hB
    obtain ⟨c1, c2, c3, c4⟩ := hC
    exact ⟨fun z => absurd z (by decide), fun _ => ⟨by rw [ht, hl], by omega, hQ σ ⟨a1, a2, a3, a4, a5, a6, a7, b1, b2, b3, b4, b5, c1, c2, c3, c4⟩ hf⟩⟩
  | succ n ih =>
    intro i σ hn ht hu hA hB hC hf
    obtain ⟨a1, a2, a3, a4, a5, a6, a7⟩ := hA
    obtain ⟨b1, b2, b3, b4, b5⟩ := hB
    obtain ⟨c1, c2, c3, c4⟩ := hC
    refine kX6_init_71 ?_
    simp (disch := omega) only [ax_const, ax_iload, ax_lload, ax_aload, ax_istore, ax_astore, ax_iinc, ax_i2, ax_i2n, ax_l2, ax_lsh, ax_ii, ax_il, ax_li, ax_pop, ax_dup, ax_dup2, ax_if, ax_cmp, ax_acmp, ax_goto, ax_getI, ax_getR, ax_putI, ax_putR, ax_gets, ax_getsT, ax_aldI, ax_aldR, ax_astI, ax_astR, ax_alen, ax_ret, ax_aret, ax_vret, am_st, am_kl, List.getElem?_cons_zero, List.getElem?_cons_succ, List.set_cons_zero, List.set_cons_succ, Value.category, true_and, and_true, if_true, if_false, reduceCtorEq, Bool.false_eq_true, false_implies, forall_const, Option.some.injEq, exists_eq_left', exists_eq_left, Sum.inl.injEq, Sum.inr.injEq, Prod.mk.injEq, nI_toInt, nI_clamp, am_ix_nI, am_ix_0, am_ix_1, am_ix_2, am_ix_3, am_n0, am_n1, am_n2, am_n3, am_n4, am_t0, am_t1, am_t2, am_t3, am_t4, am_tm1, am_nS, am_nP, am_nM, Int.ofNat_lt, Int.ofNat_le, a1, a2]
    refine ⟨fun _ => ?_, fun z => by omega⟩
    refine nw_0 hd ht rfl (by omega) (by omega) (Nat.le_of_ble_eq_true rfl) (fun σ1 hk f1 t1 u1 => ?_)
    have e0 := f1 S (by omega)
    have e1 := f1 (S + 1) (by omega)
    have e14 := f1 (S + 14) (by omega)
    have e15 := f1 (S + 15) (by omega)
    have y : am_ac 7 = 0 := rfl
    simp (disch := omega) only [ax_const, ax_iload, ax_lload, ax_aload, ax_istore, ax_astore, ax_iinc, ax_i2, ax_i2n, ax_l2, ax_lsh, ax_ii, ax_il, ax_li, ax_pop, ax_dup, ax_dup2, ax_if, ax_cmp, ax_acmp, ax_goto, ax_getI, ax_getR, ax_putI, ax_putR, ax_gets, ax_getsT, ax_aldI, ax_aldR, ax_astI, ax_astR, ax_alen, ax_ret, ax_aret, ax_vret, am_st, am_kl, List.getElem?_cons_zero, List.getElem?_cons_succ, List.set_cons_zero, List.set_cons_succ, Value.category, true_and, and_true, if_true, if_false, reduceCtorEq, Bool.false_eq_true, false_implies, forall_const, Option.some.injEq, exists_eq_left', exists_eq_left, Sum.inl.injEq, Sum.inr.injEq, Prod.mk.injEq, nI_toInt, nI_clamp, am_ix_nI, am_ix_0, am_ix_1, am_ix_2, am_ix_3, am_n0, am_n1, am_n2, am_n3, am_n4, am_t0, am_t1, am_t2, am_t3, am_t4, am_tm1, am_nS, am_nP, am_nM, Int.ofNat_lt, Int.ofNat_le, e1.1, b1, y, hk.1]
    rw [if_neg (by decide)]
    refine ⟨by omega, trivial, ?_⟩
    have F1 : am_fa (fun b => S ≤ b ∧ b < S + 31) σ0 (am_wr σ1 (S + 1) i (some (S + 19 + 4 * i))) := (hf.tr (f1.mono (fun b x => by omega))).wr ⟨by omega, by omega⟩
    have F2 : am_fa (fun b => b = S + 1 ∨ (S + 19 + 4 * i ≤ b ∧ b < S + 19 + 4 * i + 4)) σ (am_wr σ1 (S + 1) i (some (S + 19 + 4 * i))) := (f1.mono (P' := fun b => b = S + 1 ∨ (S + 19 + 4 * i ≤ b ∧ b < S + 19 + 4 * i + 4)) (fun b x => Or.inr x)).wr (Or.inl rfl)
    have F3 : am_fa (fun b => b = S + 1) σ1 (am_wr σ1 (S + 1) i (some (S + 19 + 4 * i))) := am_fa.rf.wr rfl
    have g0 := F2 S (by omega)
    have g1 := F2 (S + 14) (by omega)
    have g2 := F2 (S + 15) (by omega)
    refine ih (i + 1) _ (by omega) (by rw [am_tp_wr, t1]; omega) (by rw [am_us_wr, u1]; omega) ?_ ⟨by rw [am_sh_wr, e1.1]; exact b1, fun j hj => ?_, by rw [g1.1]; exact b3, by rw [g2.1]; exact b4, fun j hj => ⟨by rw [g2.2.2]; exact (b5 j hj).1, by rw [(F2 (S + 16 + j) (by omega)).1]; exact (b5 j hj).2⟩⟩ ⟨c1.fa F2 (fun b x y => by omega), c2.fa F2 (fun b x y => by omega), c3.fa F2 (fun b x y => by omega), fun j hj => ?_⟩ F1
    · rw [g0.1, g0.2.2]
      exact ⟨a1, a2, a3, a4, a5, a6, a7⟩
    · rw [am_r_wr]
      by_cases q : j = i
      · rw [if_pos ⟨rfl, q⟩, q]
      · rw [if_neg (fun z => q z.2), e1.2.2]
        exact b2 j (by omega)
    · by_cases q : j = i
      · rw [q]
        exact hk.fa F3 (fun b x y => by omega)
      · exact (c4 j (by omega)).fa F2 (fun b x y => by omega)
