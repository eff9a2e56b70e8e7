/-! ===== Rows ===== -/
abbrev xr_E : Type := Int32 × Int32 × Int32 × Int32
/-- a row's cell -/
def xr_at (σ : am_S) (a : Nat) (e : xr_E) : Prop := am_i σ a 0 = e.1 ∧ am_i σ a 1 = e.2.1 ∧ am_i σ a 2 = e.2.2.1 ∧ am_i σ a 3 = e.2.2.2
/-- Rows r of at most cap, with the rows Lr; p: where each place's array lies -/
def xr_R (σ : am_S) (r cap : Nat) (p : Nat → Nat) (Lr : List xr_E) : Prop :=
  am_sh σ r = some (.inl 2) ∧ am_r σ r 0 = some (r + 1) ∧ am_i σ r 1 = nI Lr.length ∧ Lr.length ≤ cap ∧ cap ≤ 48 ∧ am_sh σ (r + 1) = some (.inr (3, cap)) ∧
  (∀ i, i < cap → am_r σ (r + 1) i = some (p i) ∧ r + 2 ≤ p i ∧ p i < r + 2 + cap ∧ am_sh σ (p i) = some (.inr (0, 4))) ∧ (∀ i j, i < cap → j < cap → p i = p j → i = j) ∧ ∀ i e, Lr[i]? = some e → xr_at σ (p i) e
/-- find's answer, from place i on -/
def xr_find (k : Int32) : List xr_E → Nat → Int32
  | [], _ => -1
  | e :: t, i => if e.1 = k then nI i else xr_find k t (i + 1)
theorem xr_find_loop {g : am_G} {l : Launch} {σ : am_S} {d : Nat} {Q : Option Value → am_S → Prop} {r cap : Nat} {p : Nat → Nat} {Lr : List xr_E} {k : Int32} (hR : xr_R σ r cap p Lr) : ∀ (T pre : List xr_E), Lr = pre ++ T → Q (some (.int (xr_find k T pre.length))) σ →
    am_W g l mX2_find d (am_tp σ, am_us σ) Q 2 [some (.ref r), some (.int k), some (.int (nI pre.length))] [] σ := by
  obtain ⟨h1, h2, h3, h4, h5, h6, h7, h8, h9⟩ := hR
  intro T
  induction T with
  | nil =>
    intro pre hT hQ
    have hl : Lr.length = pre.length := by rw [hT]; simp
    refine kX2_find_2 ?_
    simp (disch := omega) only [ax_const, ax_iload, ax_lload, ax_aload, ax_istore, ax_astore, ax_iinc, ax_i2, ax_i2n, ax_l2, ax_lsh, ax_ii, ax_il, ax_li, ax_pop, ax_dup, ax_dup2, ax_if, ax_cmp, ax_acmp, ax_goto, ax_getI, ax_getR, ax_putI, ax_putR, ax_gets, ax_getsT, ax_aldI, ax_aldR, ax_astI, ax_astR, ax_alen, ax_ret, ax_aret, ax_vret, am_st, am_kl, List.getElem?_cons_zero, List.getElem?_cons_succ, List.set_cons_zero, List.set_cons_succ, Value.category, true_and, and_true, if_true, if_false, reduceCtorEq, Bool.false_eq_true, false_implies, forall_const, Option.some.injEq, exists_eq_left', exists_eq_left, Sum.inl.injEq, Sum.inr.injEq, Prod.mk.injEq, nI_toInt, nI_clamp, am_ix_nI, am_ix_0, am_ix_1, am_ix_2, am_ix_3, am_n0, am_n1, am_n2, am_n3, am_n4, am_t0, am_t1, am_t2, am_t3, am_t4, am_tm1, am_nS, am_nP, am_nM, Int.ofNat_lt, Int.ofNat_le, h1, h2, h3, h6]
    exact ⟨fun h => by omega, fun _ => hQ⟩
  | cons e T ih =>
    intro pre hT hQ
    have hl : Lr.length = pre.length + (T.length + 1) := by rw [hT]; simp
    obtain ⟨a1, a2, a3, a4⟩ := h7 pre.length (by omega)
    have a5 := (h9 pre.length e (by rw [hT]; simp)).1
    refine kX2_find_2 ?_
    simp (disch := omega) only [ax_const, ax_iload, ax_lload, ax_aload, ax_istore, ax_astore, ax_iinc, ax_i2, ax_i2n, ax_l2, ax_lsh, ax_ii, ax_il, ax_li, ax_pop, ax_dup, ax_dup2, ax_if, ax_cmp, ax_acmp, ax_goto, ax_getI, ax_getR, ax_putI, ax_putR, ax_gets, ax_getsT, ax_aldI, ax_aldR, ax_astI, ax_astR, ax_alen, ax_ret, ax_aret, ax_vret, am_st, am_kl, List.getElem?_cons_zero, List.getElem?_cons_succ, List.set_cons_zero, List.set_cons_succ, Value.category, true_and, and_true, if_true, if_false, reduceCtorEq, Bool.false_eq_true, false_implies, forall_const, Option.some.injEq, exists_eq_left', exists_eq_left, Sum.inl.injEq, Sum.inr.injEq, Prod.mk.injEq, nI_toInt, nI_clamp, am_ix_nI, am_ix_0, am_ix_1, am_ix_2, am_ix_3, am_n0, am_n1, am_n2, am_n3, am_n4, am_t0, am_t1, am_t2, am_t3, am_t4, am_tm1, am_nS, am_nP, am_nM, Int.ofNat_lt, Int.ofNat_le, h1, h2, h3, h6, a1, a4, a5]
    rw [xr_find] at hQ
    refine ⟨fun _ => ⟨by omega, by decide, fun he => ?_, fun he => ?_⟩, fun h => by omega⟩
    · rw [if_pos he] at hQ
      exact hQ
    · rw [if_neg he] at hQ
      have := ih (pre ++ [e]) (by rw [hT]; simp) (by rw [List.length_append]; exact hQ)
      rw [List.length_append] at this
      exact this
theorem c_find {g : am_G} {l : Launch} {σ : am_S} {r cap : Nat} {p : Nat → Nat} {Lr : List xr_E} {k : Int32} (hR : xr_R σ r cap p Lr) : am_C g l mX2_find 0 (am_tp σ, am_us σ) [.ref r, .int k] σ (fun v σ' => σ' = σ ∧ v = some (.int (xr_find k Lr 0))) := by
  refine am_C.go [some (.ref r), some (.int k), none] (by decide +kernel) (Nat.le_of_ble_eq_true rfl) rfl (kX2_find_0 ?_)
  simp (disch := omega) only [ax_const, ax_iload, ax_lload, ax_aload, ax_istore, ax_astore, ax_iinc, ax_i2, ax_i2n, ax_l2, ax_lsh, ax_ii, ax_il, ax_li, ax_pop, ax_dup, ax_dup2, ax_if, ax_cmp, ax_acmp, ax_goto, ax_getI, ax_getR, ax_putI, ax_putR, ax_gets, ax_getsT, ax_aldI, ax_aldR, ax_astI, ax_astR, ax_alen, ax_ret, ax_aret, ax_vret, am_st, am_kl, List.getElem?_cons_zero, List.getElem?_cons_succ, List.set_cons_zero, List.set_cons_succ, Value.category, true_and, and_true, if_true, if_false, reduceCtorEq, Bool.false_eq_true, false_implies, forall_const, Option.some.injEq, exists_eq_left', exists_eq_left, Sum.inl.injEq, Sum.inr.injEq, Prod.mk.injEq, nI_toInt, nI_clamp, am_ix_nI, am_ix_0, am_ix_1, am_ix_2, am_ix_3, am_n0, am_n1, am_n2, am_n3, am_n4, am_t0, am_t1, am_t2, am_t3, am_t4, am_tm1, am_nS, am_nP, am_nM, Int.ofNat_lt, Int.ofNat_le]
  exact xr_find_loop hR Lr [] rfl ⟨rfl, rfl⟩
