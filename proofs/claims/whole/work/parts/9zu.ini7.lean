/-! making: LabelledTables -/
def x9_B (g : am_G) (σ : am_S) (X : Nat) : Prop :=
  (am_sh σ X = some (.inl 9) ∧ am_r σ X 0 = some (X + 1) ∧ am_r σ X 1 = some (X + 2) ∧ am_r σ X 2 = some (X + 3) ∧ am_r σ X 3 = some (X + 53) ∧ am_r σ X 4 = some (X + 88) ∧ am_sh σ (X + 1) = some (.inr (4, 8)) ∧ am_sh σ (X + 2) = some (.inr (5, 4))) ∧ (∃ p, xr_R σ (X + 3) 48 p []) ∧ xp_0 g σ (X + 53) ∧ xl_0 σ (X + 88) (X + 54)
theorem x9_B.fa {g : am_G} {P : Nat → Prop} {σ σ' : am_S} {X : Nat} (h : x9_B g σ X) (hf : am_fa P σ σ') (hs1 : am_sh σ' (X + 1) = am_sh σ (X + 1)) (hs2 : am_sh σ' (X + 2) = am_sh σ (X + 2)) (hd : ∀ b, X ≤ b → b < X + 195 → b ≠ X + 1 → b ≠ X + 2 → ¬ P b) : x9_B g σ' X := by
  obtain ⟨⟨a1, a2, a3, a4, a5, a6, a7, a8⟩, ⟨p, h2⟩, h3, h4⟩ := h
  have e := hf X (hd X (by omega) (by omega) (by omega) (by omega))
  refine ⟨?_, ⟨p, h2.fa hf (fun b x y => hd b (by omega) (by omega) (by omega) (by omega))⟩, h3.fa hf (fun b x y => hd b (by omega) (by omega) (by omega) (by omega)), h4.fa hf (fun b x y => hd b (by omega) (by omega) (by omega) (by omega))⟩
  rw [e.1, e.2.2, hs1, hs2]
  exact ⟨a1, a2, a3, a4, a5, a6, a7, a8⟩
def x9_S (σ : am_S) (X i : Nat) : Prop := ∀ i', i' < i → am_r σ (X + 1) i' = some (xx_st X i') ∧ xo_S σ (xx_st X i') i' (fun _ => []) (fun _ => []) (-1) 0
def x9_E (σ : am_S) (X j : Nat) (D1 : Nat → Nat) : Prop := ∀ i, i < j → am_r σ (X + 2) i = some (xx_se X i) ∧ D1 i < 8 ∧ xe_S σ (xx_se X i) (xx_st X (D1 i)) [] 0 0 (fun _ _ => 0)
theorem x9i_66 {g : am_G} {l : Launch} {X d : Nat} {lim : Nat × Nat} {σ0 : am_S} {q1 q2 q3 q4 : Int32} {Q : Option Value → am_S → Prop} (hd : 3 ≤ d) (h1 : X + 547 ≤ lim.1)
    (hK : ∀ σ', x9_B g σ' X → x9_S σ' X 8 → am_tp σ' = X + 547 → am_us σ' + 984 = lim.2 → am_fa (fun b => X ≤ b) σ0 σ' → 
      (ax_aload 0 (ax_getR 9 1 (ax_const (.int 0) (ax_new lim 5 6 (ax_dup (ax_aload 0 (ax_getR 9 0 (ax_iload 1 (ax_const (.int 7) (ax_i2 (fun x y => x &&& y) (ax_aldR 4 (ax_call g l d lim mX5_init (some 5) 2 (ax_astR 5 (ax_aload 0 (ax_getR 9 1 (ax_const (.int 1) (ax_new lim 5 6 (ax_dup (ax_aload 0 (ax_getR 9 0 (ax_iload 2 (ax_const (.int 7) (ax_i2 (fun x y => x &&& y) (am_W g l mX9_init d lim Q 134)))))))))))))))))))))))) [some (.ref X), some (.int q1), some (.int q2), some (.int q3), some (.int q4), some (.int (nI 8))] [] σ') :
    ∀ (n i : Nat) (σ : am_S), n + i = 8 → am_tp σ = X + 195 + 44 * i → am_us σ + 175 * n + 984 = lim.2 → x9_B g σ X → x9_S σ X i → am_fa (fun b => X ≤ b) σ0 σ → am_W g l mX9_init d lim Q 66 [some (.ref X), some (.int q1), some (.int q2), some (.int q3), some (.int q4), some (.int (nI i))] [] σ := by
  intro n
  induction n with
  | zero =>
    intro i σ hn ht hu hB hS hf
    have hi : i = 8 := by omega
    subst hi
    refine kX9_init_66 ?_
    have k := hK σ hB hS (by omega) (by omega) hf
    simp only [ax_iload, ax_const, ax_cmp, List.getElem?_cons_zero, List.getElem?_cons_succ]
    refine ⟨fun z => absurd z (by decide), fun _ => k⟩
  | succ n ih =>
    intro i σ hn ht hu hB hS hf
    obtain ⟨⟨a1, a2, a3, a4, a5, a6, a7, a8⟩, hB2⟩ := id hB
    refine kX9_init_66 ?_
    simp (disch := omega) only [ax_const, ax_iload, ax_lload, ax_aload, ax_istore, ax_astore, ax_iinc, ax_i2, ax_i2n, ax_l2, ax_lsh, ax_ii, ax_il, ax_li, ax_pop, ax_dup, ax_dup2, ax_if, ax_cmp, ax_acmp, ax_goto, ax_getI, ax_getR, ax_putI, ax_putR, ax_gets, ax_getsT, ax_aldI, ax_aldR, ax_astI, ax_astR, ax_alen, ax_ret, ax_aret, ax_vret, am_st, am_kl, List.getElem?_cons_zero, List.getElem?_cons_succ, List.set_cons_zero, List.set_cons_succ, Value.category, true_and, and_true, if_true, if_false, reduceCtorEq, Bool.false_eq_true, false_implies, forall_const, Option.some.injEq, exists_eq_left', exists_eq_left, Sum.inl.injEq, Sum.inr.injEq, Prod.mk.injEq, nI_toInt, nI_clamp, am_ix_nI, am_ix_0, am_ix_1, am_ix_2, am_ix_3, am_n0, am_n1, am_n2, am_n3, am_n4, am_t0, am_t1, am_t2, am_t3, am_t4, am_tm1, am_nS, am_nP, am_nM, Int.ofNat_lt, Int.ofNat_le, a1, a2]
    refine ⟨fun _ => ?_, fun z => by have : (↑i : Int) < 8 := by omega
                                     exact absurd this z⟩
    refine ⟨by omega, by omega, ?_⟩
    simp only [ax_dup, ax_iload, Value.category, true_and, List.getElem?_cons_zero, List.getElem?_cons_succ]
    have hs : am_sh (am_al σ (.inl 7) 7) (am_tp σ) = some (.inl 7) := by simp only [ax_new, ax_newa, ax_mna, ax_oinit, List.map_nil, List.map_cons, List.sum_nil, List.sum_cons, am_sh_al, am_i_al, am_r_al, am_tp_al, am_us_al, am_sh_mna, am_i_mna, am_r_mna, am_tp_mna, am_us_mna, am_sh_wi, am_sh_wr, am_r_wi, am_i_wr, am_tp_wi, am_tp_wr, am_us_wi, am_us_wr, am_i_wi, am_r_wr, if_neg, if_pos, if_true, if_false, true_and, and_true, and_self, false_and, and_false]
    refine am_callK [.ref (am_tp σ), .int (nI i)] [.ref (am_tp σ), .int (nI i), .ref (X + 1)] (d' := 2) (lim' := (am_tp σ + 44, am_us (am_al σ (.inl 7) 7) + 168)) rfl (by omega) (by dsimp only; omega) (by simp only [ax_new, ax_newa, ax_mna, ax_oinit, List.map_nil, List.map_cons, List.sum_nil, List.sum_cons, am_sh_al, am_i_al, am_r_al, am_tp_al, am_us_al, am_sh_mna, am_i_mna, am_r_mna, am_tp_mna, am_us_mna, am_sh_wi, am_sh_wr, am_r_wi, am_i_wr, am_tp_wi, am_tp_wr, am_us_wi, am_us_wr, am_i_wi, am_r_wr, if_neg, if_pos, if_true, if_false, true_and, and_true, and_self, false_and, and_false]; omega) rfl (Nat.le_of_ble_eq_true rfl) (am_recv hs) ?_
    refine c_x7i hs (fun j => by simp only [ax_new, ax_newa, ax_mna, ax_oinit, List.map_nil, List.map_cons, List.sum_nil, List.sum_cons, am_sh_al, am_i_al, am_r_al, am_tp_al, am_us_al, am_sh_mna, am_i_mna, am_r_mna, am_tp_mna, am_us_mna, am_sh_wi, am_sh_wr, am_r_wi, am_i_wr, am_tp_wi, am_tp_wr, am_us_wi, am_us_wr, am_i_wi, am_r_wr, if_neg, if_pos, if_true, if_false, true_and, and_true, and_self, false_and, and_false]) (by simp only [ax_new, ax_newa, ax_mna, ax_oinit, List.map_nil, List.map_cons, List.sum_nil, List.sum_cons, am_sh_al, am_i_al, am_r_al, am_tp_al, am_us_al, am_sh_mna, am_i_mna, am_r_mna, am_tp_mna, am_us_mna, am_sh_wi, am_sh_wr, am_r_wi, am_i_wr, am_tp_wi, am_tp_wr, am_us_wi, am_us_wr, am_i_wi, am_r_wr, if_neg, if_pos, if_true, if_false, true_and, and_true, and_self, false_and, and_false]) (fun σ1 hO f1 t1 u1 => ?_)
    have f2 : am_fa (fun b => am_tp σ ≤ b ∧ b < am_tp σ + 44) σ σ1 := ((am_fa.rf (P := fun b => am_tp σ ≤ b ∧ b < am_tp σ + 44)).al ⟨Nat.le_refl _, by omega⟩).tr f1
    rw [ht] at f2 hO t1
    have u1 : am_us σ1 = am_us σ + 175 := by rw [u1]; simp only [ax_new, ax_newa, ax_mna, ax_oinit, List.map_nil, List.map_cons, List.sum_nil, List.sum_cons, am_sh_al, am_i_al, am_r_al, am_tp_al, am_us_al, am_sh_mna, am_i_mna, am_r_mna, am_tp_mna, am_us_mna, am_sh_wi, am_sh_wr, am_r_wi, am_i_wr, am_tp_wi, am_tp_wr, am_us_wi, am_us_wr, am_i_wi, am_r_wr, if_neg, if_pos, if_true, if_false, true_and, and_true, and_self, false_and, and_false]
    have e1 := f2 (X + 1) (by omega)
    have e2 := f2 (X + 2) (by omega)
    have y : am_ac 4 = 7 := rfl
    have hB1 : x9_B g σ1 X := hB.fa f2 e1.1 e2.1 (fun b x1 x2 x3 x4 => by omega)
    have hO1 : am_sh σ1 (X + 195 + 44 * i) = some (.inl 7) := hO.1.1
    rw [ht]
    simp (disch := omega) only [ax_const, ax_iload, ax_lload, ax_aload, ax_istore, ax_astore, ax_iinc, ax_i2, ax_i2n, ax_l2, ax_lsh, ax_ii, ax_il, ax_li, ax_pop, ax_dup, ax_dup2, ax_if, ax_cmp, ax_acmp, ax_goto, ax_getI, ax_getR, ax_putI, ax_putR, ax_gets, ax_getsT, ax_aldI, ax_aldR, ax_astI, ax_astR, ax_alen, ax_ret, ax_aret, ax_vret, am_st, am_kl, List.getElem?_cons_zero, List.getElem?_cons_succ, List.set_cons_zero, List.set_cons_succ, Value.category, true_and, and_true, if_true, if_false, reduceCtorEq, Bool.false_eq_true, false_implies, forall_const, Option.some.injEq, exists_eq_left', exists_eq_left, Sum.inl.injEq, Sum.inr.injEq, Prod.mk.injEq, Option.toList_some, Option.toList_none, List.cons_append, List.nil_append, List.append_nil, nI_toInt, nI_clamp, am_ix_nI, am_ix_0, am_ix_1, am_ix_2, am_ix_3, am_n0, am_n1, am_n2, am_n3, am_n4, am_t0, am_t1, am_t2, am_t3, am_t4, am_tm1, am_nS, am_nP, am_nM, Int.ofNat_lt, Int.ofNat_le, e1.1, a7, y, hO1]
    rw [if_neg (by decide)]
    refine ⟨by omega, trivial, ?_⟩
    have f3 : am_fa (fun b => b = X + 1) σ1 (am_wr σ1 (X + 1) i (some (X + 195 + 44 * i))) := am_fa.rf.wr rfl
    have f4 : am_fa (fun b => b = X + 1 ∨ (X + 195 + 44 * i ≤ b ∧ b < X + 195 + 44 * i + 44)) σ (am_wr σ1 (X + 1) i (some (X + 195 + 44 * i))) := (f2.mono (P' := fun b => b = X + 1 ∨ (X + 195 + 44 * i ≤ b ∧ b < X + 195 + 44 * i + 44)) (fun b x => Or.inr x)).wr (Or.inl rfl)
    refine ih (i + 1) _ (by omega) (by rw [am_tp_wr, t1]; omega) (by rw [am_us_wr, u1]; omega) (hB1.fa f3 rfl rfl (fun b x1 x2 x3 x4 => x3)) (fun i' hi' => ?_) (hf.tr (f4.mono (fun b x => by omega)))
    by_cases c : i' = i
    · subst c
      refine ⟨by rw [am_r_wr, if_pos ⟨rfl, rfl⟩]; rfl, hO.fa f3 (fun b x y => by omega)⟩
    · obtain ⟨k1, k2⟩ := hS i' (by omega)
      refine ⟨by rw [am_r_wr, if_neg (fun z => c z.2), e1.2.2]; exact k1, ?_⟩
      unfold xx_st at k2 ⊢
      exact k2.fa f4 (fun b x y => by omega)
/-- one session more -/
theorem x9i_s {g : am_G} {l : Launch} {X d j n : Nat} {lim : Nat × Nat} {D1 : Nat → Nat} {σ : am_S} {K : am_K} {L : List (Option Value)} (hd : 3 ≤ d) (hj : j < 4) (hn : n < 8) (h1 : X + 590 + 43 * j ≤ lim.1) (h2 : am_us σ + 246 ≤ lim.2) (hB : x9_B g σ X) (hS : x9_S σ X 8) (hE : x9_E σ X j D1) (hD : D1 j = n) (ht : am_tp σ = X + 547 + 43 * j)
    (hK : ∀ σ', x9_B g σ' X → x9_S σ' X 8 → x9_E σ' X (j + 1) D1 → am_tp σ' = X + 547 + 43 * (j + 1) → am_us σ' = am_us σ + 246 → am_fa (fun b => X ≤ b) σ σ' → K L [] σ') :
    ax_call g l d lim mX5_init (some 5) 2 (ax_astR 5 K) L [.ref (xx_st X n), .ref (am_tp σ), .ref (am_tp σ), .int (nI j), .ref (X + 2)] (am_al σ (.inl 5) 6) := by
  have hs : am_sh (am_al σ (.inl 5) 6) (am_tp σ) = some (.inl 5) := by simp only [ax_new, ax_newa, ax_mna, ax_oinit, List.map_nil, List.map_cons, List.sum_nil, List.sum_cons, am_sh_al, am_i_al, am_r_al, am_tp_al, am_us_al, am_sh_mna, am_i_mna, am_r_mna, am_tp_mna, am_us_mna, am_sh_wi, am_sh_wr, am_r_wi, am_i_wr, am_tp_wi, am_tp_wr, am_us_wi, am_us_wr, am_i_wi, am_r_wr, if_neg, if_pos, if_true, if_false, true_and, and_true, and_self, false_and, and_false]
  refine am_callK [.ref (am_tp σ), .ref (xx_st X n)] [.ref (am_tp σ), .int (nI j), .ref (X + 2)] (d' := 1) (lim' := (am_tp σ + 43, am_us (am_al σ (.inl 5) 6) + 240)) rfl (by omega) (by dsimp only; omega) (by simp only [ax_new, ax_newa, ax_mna, ax_oinit, List.map_nil, List.map_cons, List.sum_nil, List.sum_cons, am_sh_al, am_i_al, am_r_al, am_tp_al, am_us_al, am_sh_mna, am_i_mna, am_r_mna, am_tp_mna, am_us_mna, am_sh_wi, am_sh_wr, am_r_wi, am_i_wr, am_tp_wi, am_tp_wr, am_us_wi, am_us_wr, am_i_wi, am_r_wr, if_neg, if_pos, if_true, if_false, true_and, and_true, and_self, false_and, and_false]; omega) rfl (Nat.le_of_ble_eq_true rfl) (am_recv hs) ?_
  refine c_x5i hs (fun j => by simp only [ax_new, ax_newa, ax_mna, ax_oinit, List.map_nil, List.map_cons, List.sum_nil, List.sum_cons, am_sh_al, am_i_al, am_r_al, am_tp_al, am_us_al, am_sh_mna, am_i_mna, am_r_mna, am_tp_mna, am_us_mna, am_sh_wi, am_sh_wr, am_r_wi, am_i_wr, am_tp_wi, am_tp_wr, am_us_wi, am_us_wr, am_i_wi, am_r_wr, if_neg, if_pos, if_true, if_false, true_and, and_true, and_self, false_and, and_false]) (by simp only [ax_new, ax_newa, ax_mna, ax_oinit, List.map_nil, List.map_cons, List.sum_nil, List.sum_cons, am_sh_al, am_i_al, am_r_al, am_tp_al, am_us_al, am_sh_mna, am_i_mna, am_r_mna, am_tp_mna, am_us_mna, am_sh_wi, am_sh_wr, am_r_wi, am_i_wr, am_tp_wi, am_tp_wr, am_us_wi, am_us_wr, am_i_wi, am_r_wr, if_neg, if_pos, if_true, if_false, true_and, and_true, and_self, false_and, and_false]) (fun σ1 hO f1 t1 u1 => ?_)
  have f2 : am_fa (fun b => am_tp σ ≤ b ∧ b < am_tp σ + 43) σ σ1 := ((am_fa.rf (P := fun b => am_tp σ ≤ b ∧ b < am_tp σ + 43)).al ⟨Nat.le_refl _, by omega⟩).tr f1
  rw [ht] at f2 hO t1
  have u1 : am_us σ1 = am_us σ + 246 := by rw [u1]; simp only [ax_new, ax_newa, ax_mna, ax_oinit, List.map_nil, List.map_cons, List.sum_nil, List.sum_cons, am_sh_al, am_i_al, am_r_al, am_tp_al, am_us_al, am_sh_mna, am_i_mna, am_r_mna, am_tp_mna, am_us_mna, am_sh_wi, am_sh_wr, am_r_wi, am_i_wr, am_tp_wi, am_tp_wr, am_us_wi, am_us_wr, am_i_wi, am_r_wr, if_neg, if_pos, if_true, if_false, true_and, and_true, and_self, false_and, and_false]
  obtain ⟨⟨a1, a2, a3, a4, a5, a6, a7, a8⟩, hB2⟩ := id hB
  have e1 := f2 (X + 1) (by omega)
  have e2 := f2 (X + 2) (by omega)
  have y : am_ac 5 = 5 := rfl
  have hB1 : x9_B g σ1 X := hB.fa f2 e1.1 e2.1 (fun b x1 x2 x3 x4 => by omega)
  have hO1 : am_sh σ1 (X + 547 + 43 * j) = some (.inl 5) := hO.1
  rw [ht]
  simp (disch := omega) only [ax_const, ax_iload, ax_lload, ax_aload, ax_istore, ax_astore, ax_iinc, ax_i2, ax_i2n, ax_l2, ax_lsh, ax_ii, ax_il, ax_li, ax_pop, ax_dup, ax_dup2, ax_if, ax_cmp, ax_acmp, ax_goto, ax_getI, ax_getR, ax_putI, ax_putR, ax_gets, ax_getsT, ax_aldI, ax_aldR, ax_astI, ax_astR, ax_alen, ax_ret, ax_aret, ax_vret, am_st, am_kl, List.getElem?_cons_zero, List.getElem?_cons_succ, List.set_cons_zero, List.set_cons_succ, Value.category, true_and, and_true, if_true, if_false, reduceCtorEq, Bool.false_eq_true, false_implies, forall_const, Option.some.injEq, exists_eq_left', exists_eq_left, Sum.inl.injEq, Sum.inr.injEq, Prod.mk.injEq, Option.toList_some, Option.toList_none, List.cons_append, List.nil_append, List.append_nil, nI_toInt, nI_clamp, am_ix_nI, am_ix_0, am_ix_1, am_ix_2, am_ix_3, am_n0, am_n1, am_n2, am_n3, am_n4, am_t0, am_t1, am_t2, am_t3, am_t4, am_tm1, am_nS, am_nP, am_nM, Int.ofNat_lt, Int.ofNat_le, e2.1, a8, y, hO1]
  rw [if_neg (by decide)]
  have f3 : am_fa (fun b => b = X + 2) σ1 (am_wr σ1 (X + 2) j (some (X + 547 + 43 * j))) := am_fa.rf.wr rfl
  have f4 : am_fa (fun b => b = X + 2 ∨ (X + 547 + 43 * j ≤ b ∧ b < X + 547 + 43 * j + 43)) σ (am_wr σ1 (X + 2) j (some (X + 547 + 43 * j))) := (f2.mono (P' := fun b => b = X + 2 ∨ (X + 547 + 43 * j ≤ b ∧ b < X + 547 + 43 * j + 43)) (fun b x => Or.inr x)).wr (Or.inl rfl)
  refine ⟨by omega, trivial, hK _ (hB1.fa f3 rfl rfl (fun b x1 x2 x3 x4 => x4)) (fun i' hi' => ?_) (fun i' hi' => ?_) (by rw [am_tp_wr, t1]; omega) (by rw [am_us_wr, u1]) (f4.mono (fun b x => by omega))⟩
  · obtain ⟨k1, k2⟩ := hS i' hi'
    refine ⟨by rw [(f4 (X + 1) (by omega)).2.2]; exact k1, ?_⟩
    unfold xx_st at k2 ⊢
    exact k2.fa f4 (fun b x y => by omega)
  · by_cases c : i' = j
    · subst c
      refine ⟨by rw [am_r_wr, if_pos ⟨rfl, rfl⟩]; rfl, by omega, ?_⟩
      rw [hD]
      exact hO.fa f3 (fun b x y => by omega)
    · obtain ⟨k1, k2, k3⟩ := hE i' (by omega)
      refine ⟨by rw [am_r_wr, if_neg (fun z => c z.2), e2.2.2]; exact k1, k2, ?_⟩
      unfold xx_se at k3 ⊢
      exact k3.fa f4 (fun b x y => by omega)
