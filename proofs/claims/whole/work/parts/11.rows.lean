/-! ===== Rows ===== -/
abbrev xr_E : Type := Int32 × Int32 × Int32 × Int32
/-- a row's cell -/
def xr_at (σ : am_S) (a : Nat) (e : xr_E) : Prop := am_i σ a 0 = e.1 ∧ am_i σ a 1 = e.2.1 ∧ am_i σ a 2 = e.2.2.1 ∧ am_i σ a 3 = e.2.2.2
/-- Rows r of at most cap, with the rows Lr; p: where each place's array lies -/
def xr_R (σ : am_S) (r cap : Nat) (p : Nat → Nat) (Lr : List xr_E) : Prop :=
  am_sh σ r = some (.inl 2) ∧ am_r σ r 0 = some (r + 1) ∧ am_i σ r 1 = nI Lr.length ∧ Lr.length ≤ cap ∧ cap ≤ 48 ∧ am_sh σ (r + 1) = some (.inr (3, cap)) ∧
  (∀ i, i < cap → am_r σ (r + 1) i = some (p i) ∧ r + 2 ≤ p i ∧ p i < r + 2 + cap ∧ am_sh σ (p i) = some (.inr (0, 4))) ∧ (∀ i j, i < cap → j < cap → p i = p j → i = j) ∧ ∀ i e, Lr[i]? = some e → xr_at σ (p i) e
/-- find's answer, from place i on -/
def xr_find (k : Int32) : List xr_E → Nat → Int32
  | [], _ => -1
  | e :: t, i => if e.1 = k then nI i else xr_find k t (i + 1)
theorem xr_find_loop {g : am_G} {l : Launch} {σ : am_S} {d : Nat} {Q : Option Value → am_S → Prop} {r cap : Nat} {p : Nat → Nat} {Lr : List xr_E} {k : Int32} (hR : xr_R σ r cap p Lr) : ∀ (T pre : List xr_E), Lr = pre ++ T → Q (some (.int (xr_find k T pre.length))) σ →
    am_W g l mX2_find d (am_tp σ, am_us σ) Q 2 [some (.ref r), some (.int k), some (.int (nI pre.length))] [] σ := by
  obtain ⟨h1, h2, h3, h4, h5, h6, h7, h8, h9⟩ := hR
  intro T
  induction T with
  | nil =>
    intro pre hT hQ
    have hl : Lr.length = pre.length := by rw [hT]; simp
    refine kX2_find_2 ?_
    simp (disch := omega) only [ax_const, ax_iload, ax_lload, ax_aload, ax_istore, ax_astore, ax_iinc, ax_i2, ax_i2n, ax_l2, ax_lsh, ax_ii, ax_il, ax_li, ax_pop, ax_dup, ax_dup2, ax_if, ax_cmp, ax_acmp, ax_goto, ax_getI, ax_getR, ax_putI, ax_putR, ax_gets, ax_getsT, ax_aldI, ax_aldR, ax_astI, ax_astR, ax_alen, ax_ret, ax_aret, ax_vret, am_st, am_kl, List.getElem?_cons_zero, List.getElem?_cons_succ, List.set_cons_zero, List.set_cons_succ, Value.category, true_and, and_true, if_true, if_false, reduceCtorEq, Bool.false_eq_true, false_implies, forall_const, Option.some.injEq, exists_eq_left', exists_eq_left, Sum.inl.injEq, Sum.inr.injEq, Prod.mk.injEq, nI_toInt, nI_clamp, am_ix_nI, am_ix_0, am_ix_1, am_ix_2, am_ix_3, am_n0, am_n1, am_n2, am_n3, am_n4, am_t0, am_t1, am_t2, am_t3, am_t4, am_tm1, am_nS, am_nP, am_nM, Int.ofNat_lt, Int.ofNat_le, h1, h2, h3, h6]
    exact ⟨fun h => by omega, fun _ => hQ⟩
  | cons e T ih =>
    intro pre hT hQ
    have hl : Lr.length = pre.length + (T.length + 1) := by rw [hT]; simp
    obtain ⟨a1, a2, a3, a4⟩ := h7 pre.length (by omega)
    have a5 := (h9 pre.length e (by rw [hT]; simp)).1
    refine kX2_find_2 ?_
    simp (disch := omega) only [ax_const, ax_iload, ax_lload, ax_aload, ax_istore, ax_astore, ax_iinc, ax_i2, ax_i2n, ax_l2, ax_lsh, ax_ii, ax_il, ax_li, ax_pop, ax_dup, ax_dup2, ax_if, ax_cmp, ax_acmp, ax_goto, ax_getI, ax_getR, ax_putI, ax_putR, ax_gets, ax_getsT, ax_aldI, ax_aldR, ax_astI, ax_astR, ax_alen, ax_ret, ax_aret, ax_vret, am_st, am_kl, List.getElem?_cons_zero, List.getElem?_cons_succ, List.set_cons_zero, List.set_cons_succ, Value.category, true_and, and_true, if_true, if_false, reduceCtorEq, Bool.false_eq_true, false_implies, forall_const, Option.some.injEq, exists_eq_left', exists_eq_left, Sum.inl.injEq, Sum.inr.injEq, Prod.mk.injEq, nI_toInt, nI_clamp, am_ix_nI, am_ix_0, am_ix_1, am_ix_2, am_ix_3, am_n0, am_n1, am_n2, am_n3, am_n4, am_t0, am_t1, am_t2, am_t3, am_t4, am_tm1, am_nS, am_nP, am_nM, Int.ofNat_lt, Int.ofNat_le, h1, h2, h3, h6, a1, a4, a5]
    rw [xr_find] at hQ
    refine ⟨fun _ => ⟨by omega, by decide, fun he => ?_, fun he => ?_⟩, fun h => by omega⟩
    · rw [if_pos he] at hQ
      exact hQ
    · rw [if_neg he] at hQ
      have := ih (pre ++ [e]) (by rw [hT]; simp) (by rw [List.length_append]; exact hQ)
      rw [List.length_append] at this
      exact this
theorem c_find {g : am_G} {l : Launch} {σ : am_S} {r cap : Nat} {p : Nat → Nat} {Lr : List xr_E} {k : Int32} {Q : Option Value → am_S → Prop} (hR : xr_R σ r cap p Lr) (hQ : Q (some (.int (xr_find k Lr 0))) σ) : am_C g l mX2_find 0 (am_tp σ, am_us σ) [.ref r, .int k] σ Q := by
  refine am_C.go [some (.ref r), some (.int k), none] (by decide +kernel) (Nat.le_of_ble_eq_true rfl) rfl (kX2_find_0 ?_)
  simp (disch := omega) only [ax_const, ax_iload, ax_lload, ax_aload, ax_istore, ax_astore, ax_iinc, ax_i2, ax_i2n, ax_l2, ax_lsh, ax_ii, ax_il, ax_li, ax_pop, ax_dup, ax_dup2, ax_if, ax_cmp, ax_acmp, ax_goto, ax_getI, ax_getR, ax_putI, ax_putR, ax_gets, ax_getsT, ax_aldI, ax_aldR, ax_astI, ax_astR, ax_alen, ax_ret, ax_aret, ax_vret, am_st, am_kl, List.getElem?_cons_zero, List.getElem?_cons_succ, List.set_cons_zero, List.set_cons_succ, Value.category, true_and, and_true, if_true, if_false, reduceCtorEq, Bool.false_eq_true, false_implies, forall_const, Option.some.injEq, exists_eq_left', exists_eq_left, Sum.inl.injEq, Sum.inr.injEq, Prod.mk.injEq, nI_toInt, nI_clamp, am_ix_nI, am_ix_0, am_ix_1, am_ix_2, am_ix_3, am_n0, am_n1, am_n2, am_n3, am_n4, am_t0, am_t1, am_t2, am_t3, am_t4, am_tm1, am_nS, am_nP, am_nM, Int.ofNat_lt, Int.ofNat_le]
  exact xr_find_loop hR Lr [] rfl hQ
/-- where add puts a row: behind the last one among the first n whose key is not greater -/
def xr_pos (k : Int32) (Lr : List xr_E) : Nat → Nat
  | 0 => 0
  | n + 1 => if k.toInt < (Lr.getD n (0, 0, 0, 0)).1.toInt then xr_pos k Lr n else n + 1
theorem xr_pos_le (k : Int32) (Lr : List xr_E) : ∀ n, xr_pos k Lr n ≤ n
  | 0 => Nat.le_refl _
  | n + 1 => by
    rw [xr_pos]
    split
    · exact Nat.le_succ_of_le (xr_pos_le k Lr n)
    · exact Nat.le_refl _
def xr_put (Lr : List xr_E) (at_ : Nat) (e : xr_E) : List xr_E := Lr.take at_ ++ e :: Lr.drop at_
theorem xr_put_get {Lr : List xr_E} {at_ : Nat} {e : xr_E} (h : at_ ≤ Lr.length) (i : Nat) : (xr_put Lr at_ e)[i]? = if i < at_ then Lr[i]? else if i = at_ then some e else Lr[i - 1]? := by
  unfold xr_put
  have hl : (Lr.take at_).length = at_ := by rw [List.length_take]; omega
  by_cases h1 : i < at_
  · rw [if_pos h1, List.getElem?_append_left (by omega), List.getElem?_take, if_pos h1]
  · rw [if_neg h1, List.getElem?_append_right (by omega), hl]
    by_cases h2 : i = at_
    · rw [if_pos h2, h2, Nat.sub_self]
      rfl
    · rw [if_neg h2]
      obtain ⟨j, hj⟩ : ∃ j, i - at_ = j + 1 := ⟨i - at_ - 1, by omega⟩
      rw [hj, List.getElem?_cons_succ, List.getElem?_drop]
      congr 1
      omega
theorem xr_put_len {Lr : List xr_E} {at_ : Nat} {e : xr_E} (h : at_ ≤ Lr.length) : (xr_put Lr at_ e).length = Lr.length + 1 := by
  unfold xr_put
  simp
  omega
/-- the state of add's loop at place j: the references behind j are moved by one -/
def xr_J (σ σ' : am_S) (r cap n : Nat) (p : Nat → Nat) (j : Nat) : Prop :=
  am_sh σ' = am_sh σ ∧ am_tp σ' = am_tp σ ∧ am_us σ' = am_us σ ∧ am_i σ' = am_i σ ∧ (∀ b, b ≠ r + 1 → am_r σ' b = am_r σ b) ∧ ∀ i, i < cap → am_r σ' (r + 1) i = some (if i ≤ j then p i else if i ≤ n then p (i - 1) else p i)
def xr_pi (j n i : Nat) : Nat := if i < j then i else if i = j then n else if i ≤ n then i - 1 else i
theorem xr_pi_c (j n i : Nat) : (i < j ∧ xr_pi j n i = i) ∨ (i = j ∧ xr_pi j n i = n) ∨ (j < i ∧ i ≤ n ∧ xr_pi j n i = i - 1) ∨ (j < i ∧ n < i ∧ xr_pi j n i = i) := by
  unfold xr_pi
  by_cases h1 : i < j
  · exact Or.inl ⟨h1, if_pos h1⟩
  · rw [if_neg h1]
    by_cases h2 : i = j
    · exact Or.inr (Or.inl ⟨h2, if_pos h2⟩)
    · rw [if_neg h2]
      by_cases h3 : i ≤ n
      · exact Or.inr (Or.inr (Or.inl ⟨by omega, h3, if_pos h3⟩))
      · exact Or.inr (Or.inr (Or.inr ⟨by omega, by omega, if_neg h3⟩))
theorem xr_add_69 {g : am_G} {l : Launch} {σ σ' : am_S} {d : Nat} {Q : Option Value → am_S → Prop} {r cap a : Nat} {p : Nat → Nat} {Lr : List xr_E} {e : xr_E} (hdp : 1 ≤ d) (hR : xr_R σ r cap p Lr) (hn : Lr.length < cap) (ha : a < r ∨ r + 2 + cap ≤ a) (hsa : am_sh σ a = some (.inr (0, 4))) (hea : xr_at σ a e) {j : Nat} (hj : j ≤ Lr.length) (hJ : xr_J σ σ' r cap Lr.length p j)
    (hQ : ∀ σ'' p', xr_R σ'' r cap p' (xr_put Lr j e) → am_fm (fun b => r ≤ b ∧ b < r + 2 + cap) σ σ'' → Q (some (.int 1)) σ'') :
    am_W g l mX2_add d (am_tp σ, am_us σ) Q 69 [some (.ref r), some (.ref a), some (.ref (p Lr.length)), some (.int (nI j))] [] σ' := by
  obtain ⟨h1, h2, h3, h4, h5, h6, h7, h8, h9⟩ := hR
  obtain ⟨j1, j2, j3, j4, j5, j6⟩ := hJ
  obtain ⟨a1, a2, a3, a4⟩ := h7 Lr.length hn
  refine kX2_add_69 hdp ?_
  simp (disch := omega) only [ax_const, ax_iload, ax_lload, ax_aload, ax_istore, ax_astore, ax_iinc, ax_i2, ax_i2n, ax_l2, ax_lsh, ax_ii, ax_il, ax_li, ax_pop, ax_dup, ax_dup2, ax_if, ax_cmp, ax_acmp, ax_goto, ax_getI, ax_getR, ax_putI, ax_putR, ax_gets, ax_getsT, ax_aldI, ax_aldR, ax_astI, ax_astR, ax_alen, ax_ret, ax_aret, ax_vret, am_st, am_kl, List.getElem?_cons_zero, List.getElem?_cons_succ, List.set_cons_zero, List.set_cons_succ, Value.category, true_and, and_true, if_true, if_false, reduceCtorEq, Bool.false_eq_true, false_implies, forall_const, Option.some.injEq, exists_eq_left', exists_eq_left, Sum.inl.injEq, Sum.inr.injEq, Prod.mk.injEq, nI_toInt, nI_clamp, am_ix_nI, am_ix_0, am_ix_1, am_ix_2, am_ix_3, am_n0, am_n1, am_n2, am_n3, am_n4, am_t0, am_t1, am_t2, am_t3, am_t4, am_tm1, am_nS, am_nP, am_nM, Int.ofNat_lt, Int.ofNat_le]
  refine am_copy4 (by omega) (by rw [j1]; exact hsa) (by rw [j1]; exact a4) (by decide) ?_
  have b2 : am_r σ' r 0 = some (r + 1) := by rw [j5 r (by omega)]; exact h2
  have hrp : ¬ r = p Lr.length := by omega
  simp (disch := omega) only [ax_const, ax_iload, ax_lload, ax_aload, ax_istore, ax_astore, ax_iinc, ax_i2, ax_i2n, ax_l2, ax_lsh, ax_ii, ax_il, ax_li, ax_pop, ax_dup, ax_dup2, ax_if, ax_cmp, ax_acmp, ax_goto, ax_getI, ax_getR, ax_putI, ax_putR, ax_gets, ax_getsT, ax_aldI, ax_aldR, ax_astI, ax_astR, ax_alen, ax_ret, ax_aret, ax_vret, am_st, am_kl, List.getElem?_cons_zero, List.getElem?_cons_succ, List.set_cons_zero, List.set_cons_succ, Value.category, true_and, and_true, if_true, if_false, reduceCtorEq, Bool.false_eq_true, false_implies, forall_const, Option.some.injEq, exists_eq_left', exists_eq_left, Sum.inl.injEq, Sum.inr.injEq, Prod.mk.injEq, nI_toInt, nI_clamp, am_ix_nI, am_ix_0, am_ix_1, am_ix_2, am_ix_3, am_n0, am_n1, am_n2, am_n3, am_n4, am_t0, am_t1, am_t2, am_t3, am_t4, am_tm1, am_nS, am_nP, am_nM, Int.ofNat_lt, Int.ofNat_le, am_sh_wi, am_sh_wr, am_r_wi, am_i_wr, am_tp_wi, am_tp_wr, am_us_wi, am_us_wr, am_i_wi, am_r_wr, am_sh_cp, am_r_cp, am_tp_cp, am_us_cp, am_i_cp, j1, j2, j3, j4, h1, b2, h3, h6, hrp, false_and]
  refine ⟨by omega, ⟨4, a4⟩, Or.inr trivial, ?_⟩
  have hsh : am_sh (am_wi (am_wr (am_cp σ' a (p Lr.length) 0 0 4) (r + 1) j (some (p Lr.length))) r 1 (nI (Lr.length + 1))) = am_sh σ := j1
  refine hQ _ (fun i => p (xr_pi j Lr.length i)) ⟨by rw [hsh]; exact h1, ?_, ?_, by rw [xr_put_len hj]; omega, h5, by rw [hsh]; exact h6, fun i hi => ?_, fun x y hx hy hxy => ?_, fun i f hf => ?_⟩ ?_
  · rw [am_r_wi, am_r_wr, if_neg (by omega)]
    exact b2
  · rw [am_i_wi, if_pos ⟨rfl, rfl⟩, xr_put_len hj]
  · have hpi : xr_pi j Lr.length i < cap := by have := xr_pi_c j Lr.length i; omega
    obtain ⟨c1, c2, c3, c4⟩ := h7 _ hpi
    refine ⟨?_, c2, c3, by rw [hsh]; exact c4⟩
    rw [am_r_wi, am_r_wr, am_r_cp]
    by_cases e1 : i = j
    · rw [if_pos ⟨rfl, e1⟩]
      unfold xr_pi
      dsimp only
      rw [if_neg (by omega), if_pos e1]
    · rw [if_neg (fun z => e1 z.2), j6 i hi]
      unfold xr_pi
      by_cases e2 : i < j
      · dsimp only
        rw [if_pos (by omega), if_pos e2]
      · rw [if_neg (by omega)]
        dsimp only
        rw [if_neg e2, if_neg e1]
        split <;> rfl
  · have hpx : xr_pi j Lr.length x < cap := by have := xr_pi_c j Lr.length x; omega
    have hpy : xr_pi j Lr.length y < cap := by have := xr_pi_c j Lr.length y; omega
    have := h8 _ _ hpx hpy hxy
    have c1 := xr_pi_c j Lr.length x
    have c2 := xr_pi_c j Lr.length y
    omega
  · rw [xr_put_get hj] at hf
    have key : ∀ q, am_i (am_wi (am_wr (am_cp σ' a (p Lr.length) 0 0 4) (r + 1) j (some (p Lr.length))) r 1 (nI (Lr.length + 1))) (p (xr_pi j Lr.length i)) q = if p (xr_pi j Lr.length i) = p Lr.length ∧ q < 4 then am_i σ a q else am_i σ (p (xr_pi j Lr.length i)) q := by
      intro q
      have hi : i ≤ Lr.length := by
        by_cases e1 : i < j
        · omega
        · by_cases e2 : i = j
          · omega
          · rw [if_neg e1, if_neg e2] at hf
            have := (List.getElem?_eq_some_iff.mp hf).1
            omega
      have hpi : xr_pi j Lr.length i < cap := by have := xr_pi_c j Lr.length i; omega
      obtain ⟨c1, c2, c3, c4⟩ := h7 _ hpi
      rw [am_i_wi, if_neg (by omega), am_i_wr, am_i_cp, j4]
      simp
    have same : ∀ z, xr_pi j Lr.length i ≠ Lr.length → xr_pi j Lr.length i < cap → xr_at σ (p (xr_pi j Lr.length i)) z → xr_at (am_wi (am_wr (am_cp σ' a (p Lr.length) 0 0 4) (r + 1) j (some (p Lr.length))) r 1 (nI (Lr.length + 1))) (p (xr_pi j Lr.length i)) z := by
      intro z hz hz2 ⟨x1, x2, x3, x4⟩
      have hne : p (xr_pi j Lr.length i) ≠ p Lr.length := fun q => hz (h8 _ _ hz2 hn q)
      unfold xr_at
      rw [key, key, key, key, if_neg (fun q => hne q.1), if_neg (fun q => hne q.1), if_neg (fun q => hne q.1), if_neg (fun q => hne q.1)]
      exact ⟨x1, x2, x3, x4⟩
    by_cases e1 : i < j
    · rw [if_pos e1] at hf
      have hp : xr_pi j Lr.length i = i := by unfold xr_pi; rw [if_pos e1]
      refine same f (by rw [hp]; omega) (by rw [hp]; omega) ?_
      rw [hp]
      exact h9 i f hf
    · rw [if_neg e1] at hf
      by_cases e2 : i = j
      · rw [if_pos e2] at hf
        cases hf
        have hp : xr_pi j Lr.length i = Lr.length := by unfold xr_pi; rw [if_neg e1, if_pos e2]
        unfold xr_at
        rw [key, key, key, key, hp, if_pos ⟨rfl, by decide⟩, if_pos ⟨rfl, by decide⟩, if_pos ⟨rfl, by decide⟩, if_pos ⟨rfl, by decide⟩]
        exact hea
      · rw [if_neg e2] at hf
        have hl := (List.getElem?_eq_some_iff.mp hf).1
        have hp : xr_pi j Lr.length i = i - 1 := by unfold xr_pi; rw [if_neg e1, if_neg e2, if_pos (by omega)]
        refine same f (by rw [hp]; omega) (by rw [hp]; omega) ?_
        rw [hp]
        exact h9 (i - 1) f hf
  · refine ((am_fm.wr (am_fm.cp ⟨j1, j2, j3, fun b hb => ⟨by rw [j4], j5 b (fun q => hb ?_)⟩⟩ ?_) ?_).wi ?_)
    · subst q; exact ⟨by omega, by omega⟩
    · exact ⟨by omega, by omega⟩
    · exact ⟨by omega, by omega⟩
    · exact ⟨by omega, by omega⟩
theorem xr_add_loop {g : am_G} {l : Launch} {σ : am_S} {d : Nat} {Q : Option Value → am_S → Prop} {r cap a : Nat} {p : Nat → Nat} {Lr : List xr_E} {e : xr_E} (hdp : 1 ≤ d) (hR : xr_R σ r cap p Lr) (hn : Lr.length < cap) (ha : a < r ∨ r + 2 + cap ≤ a) (hsa : am_sh σ a = some (.inr (0, 4))) (hea : xr_at σ a e) : ∀ (j : Nat), j ≤ Lr.length → ∀ σ', xr_J σ σ' r cap Lr.length p j →
    (∀ σ'' p', xr_R σ'' r cap p' (xr_put Lr (xr_pos e.1 Lr j) e) → am_fm (fun b => r ≤ b ∧ b < r + 2 + cap) σ σ'' → Q (some (.int 1)) σ'') →
    am_W g l mX2_add d (am_tp σ, am_us σ) Q 29 [some (.ref r), some (.ref a), some (.ref (p Lr.length)), some (.int (nI j))] [] σ' := by
  have hR9 := hR
  obtain ⟨h1, h2, h3, h4, h5, h6, h7, h8, h9⟩ := hR
  intro j
  induction j with
  | zero =>
    intro hj σ' hJ hQ
    refine kX2_add_29 ?_
    simp (disch := omega) only [ax_const, ax_iload, ax_lload, ax_aload, ax_istore, ax_astore, ax_iinc, ax_i2, ax_i2n, ax_l2, ax_lsh, ax_ii, ax_il, ax_li, ax_pop, ax_dup, ax_dup2, ax_if, ax_cmp, ax_acmp, ax_goto, ax_getI, ax_getR, ax_putI, ax_putR, ax_gets, ax_getsT, ax_aldI, ax_aldR, ax_astI, ax_astR, ax_alen, ax_ret, ax_aret, ax_vret, am_st, am_kl, List.getElem?_cons_zero, List.getElem?_cons_succ, List.set_cons_zero, List.set_cons_succ, Value.category, true_and, and_true, if_true, if_false, reduceCtorEq, Bool.false_eq_true, false_implies, forall_const, Option.some.injEq, exists_eq_left', exists_eq_left, Sum.inl.injEq, Sum.inr.injEq, Prod.mk.injEq, nI_toInt, nI_clamp, am_ix_nI, am_ix_0, am_ix_1, am_ix_2, am_ix_3, am_n0, am_n1, am_n2, am_n3, am_n4, am_t0, am_t1, am_t2, am_t3, am_t4, am_tm1, am_nS, am_nP, am_nM, Int.ofNat_lt, Int.ofNat_le]
    exact ⟨fun h => by omega, fun _ => xr_add_69 hdp hR9 hn ha hsa hea (j := 0) hj hJ hQ⟩
  | succ j ih =>
    intro hj σ' hJ hQ
    have hJ9 := hJ
    obtain ⟨j1, j2, j3, j4, j5, j6⟩ := hJ
    obtain ⟨a1, a2, a3, a4⟩ := h7 j (by omega)
    have b2 : am_r σ' r 0 = some (r + 1) := by rw [j5 r (by omega)]; exact h2
    have b3 : am_r σ' (r + 1) j = some (p j) := by rw [j6 j (by omega), if_pos (by omega)]
    have hx : Lr[j]? = some (Lr.getD j (0, 0, 0, 0)) := by
      rw [List.getD_eq_getElem?_getD, List.getElem?_eq_getElem (by omega)]
      rfl
    have b4 := (h9 j _ hx).1
    have b5 := hea.1
    rw [xr_pos] at hQ
    refine kX2_add_29 ?_
    simp (disch := omega) only [ax_const, ax_iload, ax_lload, ax_aload, ax_istore, ax_astore, ax_iinc, ax_i2, ax_i2n, ax_l2, ax_lsh, ax_ii, ax_il, ax_li, ax_pop, ax_dup, ax_dup2, ax_if, ax_cmp, ax_acmp, ax_goto, ax_getI, ax_getR, ax_putI, ax_putR, ax_gets, ax_getsT, ax_aldI, ax_aldR, ax_astI, ax_astR, ax_alen, ax_ret, ax_aret, ax_vret, am_st, am_kl, List.getElem?_cons_zero, List.getElem?_cons_succ, List.set_cons_zero, List.set_cons_succ, Value.category, true_and, and_true, if_true, if_false, reduceCtorEq, Bool.false_eq_true, false_implies, forall_const, Option.some.injEq, exists_eq_left', exists_eq_left, Sum.inl.injEq, Sum.inr.injEq, Prod.mk.injEq, nI_toInt, nI_clamp, am_ix_nI, am_ix_0, am_ix_1, am_ix_2, am_ix_3, am_n0, am_n1, am_n2, am_n3, am_n4, am_t0, am_t1, am_t2, am_t3, am_t4, am_tm1, am_nS, am_nP, am_nM, Int.ofNat_lt, Int.ofNat_le, j1, j4, h1, b2, h6, b3, a4, b4, b5, hsa, Nat.add_sub_cancel]
    refine ⟨fun _ => ⟨by omega, by decide, by decide, fun hlt => ?_, fun hlt => ?_⟩, fun h => by omega⟩
    · refine ⟨by omega, by omega, ⟨4, rfl⟩, ?_⟩
      rw [if_pos hlt] at hQ
      refine ih (by omega) _ ⟨j1, j2, j3, j4, fun b hb => ?_, fun i hi => ?_⟩ hQ
      · rw [← j5 b hb]
        funext q
        rw [am_r_wr, if_neg (fun z => hb z.1)]
      · rw [am_r_wr]
        by_cases e1 : i = j + 1
        · subst e1
          rw [if_pos ⟨rfl, rfl⟩, if_neg (by omega), if_pos (by omega)]
          rfl
        · rw [if_neg (fun z => e1 z.2), j6 i hi]
          by_cases e2 : i ≤ j
          · rw [if_pos (by omega), if_pos e2]
          · rw [if_neg (by omega), if_neg e2]
    · rw [if_neg hlt] at hQ
      exact xr_add_69 hdp hR9 hn ha hsa hea hj hJ9 hQ
/-- Rows.add -/
theorem c_add {g : am_G} {l : Launch} {σ : am_S} {r cap a : Nat} {p : Nat → Nat} {Lr : List xr_E} {e : xr_E} {Q : Option Value → am_S → Prop} (hR : xr_R σ r cap p Lr) (ha : a < r ∨ r + 2 + cap ≤ a) (hsa : am_sh σ a = some (.inr (0, 4))) (hea : xr_at σ a e)
    (hQ0 : Lr.length = cap → Q (some (.int 0)) σ) (hQ1 : Lr.length < cap → ∀ σ' p', xr_R σ' r cap p' (xr_put Lr (xr_pos e.1 Lr Lr.length) e) → am_fm (fun b => r ≤ b ∧ b < r + 2 + cap) σ σ' → Q (some (.int 1)) σ') :
    am_C g l mX2_add 1 (am_tp σ, am_us σ) [.ref r, .ref a] σ Q := by
  have hR9 := hR
  obtain ⟨h1, h2, h3, h4, h5, h6, h7, h8, h9⟩ := hR
  refine am_C.go [some (.ref r), some (.ref a), none, none] (by decide +kernel) (Nat.le_of_ble_eq_true rfl) rfl (kX2_add_0 ?_)
  simp (disch := omega) only [ax_const, ax_iload, ax_lload, ax_aload, ax_istore, ax_astore, ax_iinc, ax_i2, ax_i2n, ax_l2, ax_lsh, ax_ii, ax_il, ax_li, ax_pop, ax_dup, ax_dup2, ax_if, ax_cmp, ax_acmp, ax_goto, ax_getI, ax_getR, ax_putI, ax_putR, ax_gets, ax_getsT, ax_aldI, ax_aldR, ax_astI, ax_astR, ax_alen, ax_ret, ax_aret, ax_vret, am_st, am_kl, List.getElem?_cons_zero, List.getElem?_cons_succ, List.set_cons_zero, List.set_cons_succ, Value.category, true_and, and_true, if_true, if_false, reduceCtorEq, Bool.false_eq_true, false_implies, forall_const, Option.some.injEq, exists_eq_left', exists_eq_left, Sum.inl.injEq, Sum.inr.injEq, Prod.mk.injEq, nI_toInt, nI_clamp, am_ix_nI, am_ix_0, am_ix_1, am_ix_2, am_ix_3, am_n0, am_n1, am_n2, am_n3, am_n4, am_t0, am_t1, am_t2, am_t3, am_t4, am_tm1, am_nS, am_nP, am_nM, Int.ofNat_lt, Int.ofNat_le, h1, h2, h3, h6]
  refine ⟨3, cap, ⟨rfl, rfl⟩, ?_⟩
  have hc : Int32.ofNat cap = nI cap := rfl
  rw [hc, nI_inj (by omega) (by omega)]
  refine ⟨fun h => ⟨by simp, hQ0 h⟩, fun h => ?_⟩
  have hn : Lr.length < cap := by omega
  obtain ⟨a1, a2, a3, a4⟩ := h7 Lr.length hn
  refine ⟨hn, _, a1, ?_⟩
  refine xr_add_loop (Nat.le_refl _) hR9 hn ha hsa hea Lr.length (Nat.le_refl _) σ ⟨rfl, rfl, rfl, rfl, fun _ _ => rfl, fun i hi => ?_⟩ (hQ1 hn)
  rw [(h7 i hi).1]
  by_cases e1 : i ≤ Lr.length
  · rw [if_pos e1]
  · rw [if_neg e1, if_neg e1]
