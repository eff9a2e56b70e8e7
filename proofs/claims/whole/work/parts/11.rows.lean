/-! ===== Rows ===== -/
abbrev xr_E : Type := Int32 × Int32 × Int32 × Int32
/-- a row's cell -/
def xr_at (σ : am_S) (a : Nat) (e : xr_E) : Prop := am_i σ a 0 = e.1 ∧ am_i σ a 1 = e.2.1 ∧ am_i σ a 2 = e.2.2.1 ∧ am_i σ a 3 = e.2.2.2
/-- Rows r of at most cap, with the rows Lr; p: where each place's array lies -/
def xr_R (σ : am_S) (r cap : Nat) (p : Nat → Nat) (Lr : List xr_E) : Prop :=
  am_sh σ r = some (.inl 2) ∧ am_r σ r 0 = some (r + 1) ∧ am_i σ r 1 = nI Lr.length ∧ Lr.length ≤ cap ∧ cap ≤ 48 ∧ am_sh σ (r + 1) = some (.inr (3, cap)) ∧
  (∀ i, i < cap → am_r σ (r + 1) i = some (p i) ∧ r + 2 ≤ p i ∧ p i < r + 2 + cap ∧ am_sh σ (p i) = some (.inr (0, 4))) ∧ (∀ i j, i < cap → j < cap → p i = p j → i = j) ∧ ∀ i e, Lr[i]? = some e → xr_at σ (p i) e
/-- find's answer, from place i on -/
def xr_find (k : Int32) : List xr_E → Nat → Int32
  | [], _ => -1
  | e :: t, i => if e.1 = k then nI i else xr_find k t (i + 1)
theorem xr_find_loop {g : am_G} {l : Launch} {σ : am_S} {d : Nat} {Q : Option Value → am_S → Prop} {r cap : Nat} {p : Nat → Nat} {Lr : List xr_E} {k : Int32} (hR : xr_R σ r cap p Lr) : ∀ (T pre : List xr_E), Lr = pre ++ T → Q (some (.int (xr_find k T pre.length))) σ →
    am_W g l mX2_find d (am_tp σ, am_us σ) Q 2 [some (.ref r), some (.int k), some (.int (nI pre.length))] [] σ := by
  obtain ⟨h1, h2, h3, h4, h5, h6, h7, h8, h9⟩ := hR
  intro T
  induction T with
  | nil =>
    intro pre hT hQ
    have hl : Lr.length = pre.length := by rw [hT]; simp
    refine kX2_find_2 ?_
    simp (disch := omega) only [ax_const, ax_iload, ax_lload, ax_aload, ax_istore, ax_astore, ax_iinc, ax_i2, ax_i2n, ax_l2, ax_lsh, ax_ii, ax_il, ax_li, ax_pop, ax_dup, ax_dup2, ax_if, ax_cmp, ax_acmp, ax_goto, ax_getI, ax_getR, ax_putI, ax_putR, ax_gets, ax_getsT, ax_aldI, ax_aldR, ax_astI, ax_astR, ax_alen, ax_ret, ax_aret, ax_vret, am_st, am_kl, List.getElem?_cons_zero, List.getElem?_cons_succ, List.set_cons_zero, List.set_cons_succ, Value.category, true_and, and_true, if_true, if_false, reduceCtorEq, Bool.false_eq_true, false_implies, forall_const, Option.some.injEq, exists_eq_left', exists_eq_left, Sum.inl.injEq, Sum.inr.injEq, Prod.mk.injEq, nI_toInt, nI_clamp, am_ix_nI, am_ix_0, am_ix_1, am_ix_2, am_ix_3, am_n0, am_n1, am_n2, am_n3, am_n4, am_t0, am_t1, am_t2, am_t3, am_t4, am_tm1, am_nS, am_nP, am_nM, Int.ofNat_lt, Int.ofNat_le, h1, h2, h3, h6]
    exact ⟨fun h => by omega, fun _ => hQ⟩
  | cons e T ih =>
    intro pre hT hQ
    have hl : Lr.length = pre.length + (T.length + 1) := by rw [hT]; simp
    obtain ⟨a1, a2, a3, a4⟩ := h7 pre.length (by omega)
    have a5 := (h9 pre.length e (by rw [hT]; simp)).1
    refine kX2_find_2 ?_
    simp (disch := omega) only [ax_const, ax_iload, ax_lload, ax_aload, ax_istore, ax_astore, ax_iinc, ax_i2, ax_i2n, ax_l2, ax_lsh, ax_ii, ax_il, ax_li, ax_pop, ax_dup, ax_dup2, ax_if, ax_cmp, ax_acmp, ax_goto, ax_getI, ax_getR, ax_putI, ax_putR, ax_gets, ax_getsT, ax_aldI, ax_aldR, ax_astI, ax_astR, ax_alen, ax_ret, ax_aret, ax_vret, am_st, am_kl, List.getElem?_cons_zero, List.getElem?_cons_succ, List.set_cons_zero, List.set_cons_succ, Value.category, true_and, and_true, if_true, if_false, reduceCtorEq, Bool.false_eq_true, false_implies, forall_const, Option.some.injEq, exists_eq_left', exists_eq_left, Sum.inl.injEq, Sum.inr.injEq, Prod.mk.injEq, nI_toInt, nI_clamp, am_ix_nI, am_ix_0, am_ix_1, am_ix_2, am_ix_3, am_n0, am_n1, am_n2, am_n3, am_n4, am_t0, am_t1, am_t2, am_t3, am_t4, am_tm1, am_nS, am_nP, am_nM, Int.ofNat_lt, Int.ofNat_le, h1, h2, h3, h6, a1, a4, a5]
    rw [xr_find] at hQ
    refine ⟨fun _ => ⟨by omega, by decide, fun he => ?_, fun he => ?_⟩, fun h => by omega⟩
    · rw [if_pos he] at hQ
      exact hQ
    · rw [if_neg he] at hQ
      have := ih (pre ++ [e]) (by rw [hT]; simp) (by rw [List.length_append]; exact hQ)
      rw [List.length_append] at this
      exact this
theorem c_find {g : am_G} {l : Launch} {σ : am_S} {r cap : Nat} {p : Nat → Nat} {Lr : List xr_E} {k : Int32} {Q : Option Value → am_S → Prop} (hR : xr_R σ r cap p Lr) (hQ : Q (some (.int (xr_find k Lr 0))) σ) : am_C g l mX2_find 0 (am_tp σ, am_us σ) [.ref r, .int k] σ Q := by
  refine am_C.go [some (.ref r), some (.int k), none] (by decide +kernel) (Nat.le_of_ble_eq_true rfl) rfl (kX2_find_0 ?_)
  simp (disch := omega) only [ax_const, ax_iload, ax_lload, ax_aload, ax_istore, ax_astore, ax_iinc, ax_i2, ax_i2n, ax_l2, ax_lsh, ax_ii, ax_il, ax_li, ax_pop, ax_dup, ax_dup2, ax_if, ax_cmp, ax_acmp, ax_goto, ax_getI, ax_getR, ax_putI, ax_putR, ax_gets, ax_getsT, ax_aldI, ax_aldR, ax_astI, ax_astR, ax_alen, ax_ret, ax_aret, ax_vret, am_st, am_kl, List.getElem?_cons_zero, List.getElem?_cons_succ, List.set_cons_zero, List.set_cons_succ, Value.category, true_and, and_true, if_true, if_false, reduceCtorEq, Bool.false_eq_true, false_implies, forall_const, Option.some.injEq, exists_eq_left', exists_eq_left, Sum.inl.injEq, Sum.inr.injEq, Prod.mk.injEq, nI_toInt, nI_clamp, am_ix_nI, am_ix_0, am_ix_1, am_ix_2, am_ix_3, am_n0, am_n1, am_n2, am_n3, am_n4, am_t0, am_t1, am_t2, am_t3, am_t4, am_tm1, am_nS, am_nP, am_nM, Int.ofNat_lt, Int.ofNat_le]
  exact xr_find_loop hR Lr [] rfl hQ
/-- where add puts a row: behind the last one among the first n whose key is not greater -/
def xr_pos (k : Int32) (Lr : List xr_E) : Nat → Nat
  | 0 => 0
  | n + 1 => if k.toInt < (Lr.getD n (0, 0, 0, 0)).1.toInt then xr_pos k Lr n else n + 1
theorem xr_pos_le (k : Int32) (Lr : List xr_E) : ∀ n, xr_pos k Lr n ≤ n
  | 0 => Nat.le_refl _
  | n + 1 => by
    rw [xr_pos]
    split
    · exact Nat.le_succ_of_le (xr_pos_le k Lr n)
    · exact Nat.le_refl _
def xr_put (Lr : List xr_E) (at_ : Nat) (e : xr_E) : List xr_E := Lr.take at_ ++ e :: Lr.drop at_
theorem xr_put_get {Lr : List xr_E} {at_ : Nat} {e : xr_E} (h : at_ ≤ Lr.length) (i : Nat) : (xr_put Lr at_ e)[i]? = if i < at_ then Lr[i]? else if i = at_ then some e else Lr[i - 1]? := by
  unfold xr_put
  have hl : (Lr.take at_).length = at_ := by rw [List.length_take]; omega
  by_cases h1 : i < at_
  · rw [if_pos h1, List.getElem?_append_left (by omega), List.getElem?_take, if_pos h1]
  · rw [if_neg h1, List.getElem?_append_right (by omega), hl]
    by_cases h2 : i = at_
    · rw [if_pos h2, h2, Nat.sub_self]
      rfl
    · rw [if_neg h2]
      obtain ⟨j, hj⟩ : ∃ j, i - at_ = j + 1 := ⟨i - at_ - 1, by omega⟩
      rw [hj, List.getElem?_cons_succ, List.getElem?_drop]
      congr 1
      omega
theorem xr_put_len {Lr : List xr_E} {at_ : Nat} {e : xr_E} (h : at_ ≤ Lr.length) : (xr_put Lr at_ e).length = Lr.length + 1 := by
  unfold xr_put
  simp
  omega
/-- the state of add's loop at place j: the references behind j are moved by one -/
def xr_J (σ σ' : am_S) (r cap n : Nat) (p : Nat → Nat) (j : Nat) : Prop :=
  am_sh σ' = am_sh σ ∧ am_tp σ' = am_tp σ ∧ am_us σ' = am_us σ ∧ am_i σ' = am_i σ ∧ (∀ b, b ≠ r + 1 → am_r σ' b = am_r σ b) ∧ ∀ i, i < cap → am_r σ' (r + 1) i = some (if i ≤ j then p i else if i ≤ n then p (i - 1) else p i)
def xr_pi (j n i : Nat) : Nat := if i < j then i else if i = j then n else if i ≤ n then i - 1 else i
theorem xr_pi_c (j n i : Nat) : (i < j ∧ xr_pi j n i = i) ∨ (i = j ∧ xr_pi j n i = n) ∨ (j < i ∧ i ≤ n ∧ xr_pi j n i = i - 1) ∨ (j < i ∧ n < i ∧ xr_pi j n i = i) := by
  unfold xr_pi
  by_cases h1 : i < j
  · exact Or.inl ⟨h1, if_pos h1⟩
  · rw [if_neg h1]
    by_cases h2 : i = j
    · exact Or.inr (Or.inl ⟨h2, if_pos h2⟩)
    · rw [if_neg h2]
      by_cases h3 : i ≤ n
      · exact Or.inr (Or.inr (Or.inl ⟨by omega, h3, if_pos h3⟩))
      · exact Or.inr (Or.inr (Or.inr ⟨by omega, by omega, if_neg h3⟩))
theorem xr_add_69 {g : am_G} {l : Launch} {σ σ' : am_S} {d : Nat} {Q : Option Value → am_S → Prop} {r cap a : Nat} {p : Nat → Nat} {Lr : List xr_E} {e : xr_E} (hdp : 1 ≤ d) (hR : xr_R σ r cap p Lr) (hn : Lr.length < cap) (ha : a < r ∨ r + 2 + cap ≤ a) (hsa : am_sh σ a = some (.inr (0, 4))) (hea : xr_at σ a e) {j : Nat} (hj : j ≤ Lr.length) (hJ : xr_J σ σ' r cap Lr.length p j)
    (hQ : ∀ σ'' p', xr_R σ'' r cap p' (xr_put Lr j e) → am_fm (fun b => r ≤ b ∧ b < r + 2 + cap) σ σ'' → Q (some (.int 1)) σ'') :
    am_W g l mX2_add d (am_tp σ, am_us σ) Q 69 [some (.ref r), some (.ref a), some (.ref (p Lr.length)), some (.int (nI j))] [] σ' := by
  obtain ⟨h1, h2, h3, h4, h5, h6, h7, h8, h9⟩ := hR
  obtain ⟨j1, j2, j3, j4, j5, j6⟩ := hJ
  obtain ⟨a1, a2, a3, a4⟩ := h7 Lr.length hn
  refine kX2_add_69 hdp ?_
  simp (disch := omega) only [ax_const, ax_iload, ax_lload, ax_aload, ax_istore, ax_astore, ax_iinc, ax_i2, ax_i2n, ax_l2, ax_lsh, ax_ii, ax_il, ax_li, ax_pop, ax_dup, ax_dup2, ax_if, ax_cmp, ax_acmp, ax_goto, ax_getI, ax_getR, ax_putI, ax_putR, ax_gets, ax_getsT, ax_aldI, ax_aldR, ax_astI, ax_astR, ax_alen, ax_ret, ax_aret, ax_vret, am_st, am_kl, List.getElem?_cons_zero, List.getElem?_cons_succ, List.set_cons_zero, List.set_cons_succ, Value.category, true_and, and_true, if_true, if_false, reduceCtorEq, Bool.false_eq_true, false_implies, forall_const, Option.some.injEq, exists_eq_left', exists_eq_left, Sum.inl.injEq, Sum.inr.injEq, Prod.mk.injEq, nI_toInt, nI_clamp, am_ix_nI, am_ix_0, am_ix_1, am_ix_2, am_ix_3, am_n0, am_n1, am_n2, am_n3, am_n4, am_t0, am_t1, am_t2, am_t3, am_t4, am_tm1, am_nS, am_nP, am_nM, Int.ofNat_lt, Int.ofNat_le]
  refine am_copy4 (by omega) (by rw [j1]; exact hsa) (by rw [j1]; exact a4) (by decide) ?_
  have b2 : am_r σ' r 0 = some (r + 1) := by rw [j5 r (by omega)]; exact h2
  have hrp : ¬ r = p Lr.length := by omega
  simp (disch := omega) only [ax_const, ax_iload, ax_lload, ax_aload, ax_istore, ax_astore, ax_iinc, ax_i2, ax_i2n, ax_l2, ax_lsh, ax_ii, ax_il, ax_li, ax_pop, ax_dup, ax_dup2, ax_if, ax_cmp, ax_acmp, ax_goto, ax_getI, ax_getR, ax_putI, ax_putR, ax_gets, ax_getsT, ax_aldI, ax_aldR, ax_astI, ax_astR, ax_alen, ax_ret, ax_aret, ax_vret, am_st, am_kl, List.getElem?_cons_zero, List.getElem?_cons_succ, List.set_cons_zero, List.set_cons_succ, Value.category, true_and, and_true, if_true, if_false, reduceCtorEq, Bool.false_eq_true, false_implies, forall_const, Option.some.injEq, exists_eq_left', exists_eq_left, Sum.inl.injEq, Sum.inr.injEq, Prod.mk.injEq, nI_toInt, nI_clamp, am_ix_nI, am_ix_0, am_ix_1, am_ix_2, am_ix_3, am_n0, am_n1, am_n2, am_n3, am_n4, am_t0, am_t1, am_t2, am_t3, am_t4, am_tm1, am_nS, am_nP, am_nM, Int.ofNat_lt, Int.ofNat_le, am_sh_wi, am_sh_wr, am_r_wi, am_i_wr, am_tp_wi, am_tp_wr, am_us_wi, am_us_wr, am_i_wi, am_r_wr, am_sh_cp, am_r_cp, am_tp_cp, am_us_cp, am_i_cp, j1, j2, j3, j4, h1, b2, h3, h6, hrp, false_and]
  refine ⟨by omega, ⟨4, a4⟩, Or.inr trivial, ?_⟩
  have hsh : am_sh (am_wi (am_wr (am_cp σ' a (p Lr.length) 0 0 4) (r + 1) j (some (p Lr.length))) r 1 (nI (Lr.length + 1))) = am_sh σ := j1
  refine hQ _ (fun i => p (xr_pi j Lr.length i)) ⟨by rw [hsh]; exact h1, ?_, ?_, by rw [xr_put_len hj]; omega, h5, by rw [hsh]; exact h6, fun i hi => ?_, fun x y hx hy hxy => ?_, fun i f hf => ?_⟩ ?_
  · rw [am_r_wi, am_r_wr, if_neg (by omega)]
    exact b2
  · rw [am_i_wi, if_pos ⟨rfl, rfl⟩, xr_put_len hj]
  · have hpi : xr_pi j Lr.length i < cap := by have := xr_pi_c j Lr.length i; omega
    obtain ⟨c1, c2, c3, c4⟩ := h7 _ hpi
    refine ⟨?_, c2, c3, by rw [hsh]; exact c4⟩
    rw [am_r_wi, am_r_wr, am_r_cp]
    by_cases e1 : i = j
    · rw [if_pos ⟨rfl, e1⟩]
      unfold xr_pi
      dsimp only
      rw [if_neg (by omega), if_pos e1]
    · rw [if_neg (fun z => e1 z.2), j6 i hi]
      unfold xr_pi
      by_cases e2 : i < j
      · dsimp only
        rw [if_pos (by omega), if_pos e2]
      · rw [if_neg (by omega)]
        dsimp only
        rw [if_neg e2, if_neg e1]
        split <;> rfl
  · have hpx : xr_pi j Lr.length x < cap := by have := xr_pi_c j Lr.length x; omega
    have hpy : xr_pi j Lr.length y < cap := by have := xr_pi_c j Lr.length y; omega
    have := h8 _ _ hpx hpy hxy
    have c1 := xr_pi_c j Lr.length x
    have c2 := xr_pi_c j Lr.length y
    omega
  · rw [xr_put_get hj] at hf
    have key : ∀ q, am_i (am_wi (am_wr (am_cp σ' a (p Lr.length) 0 0 4) (r + 1) j (some (p Lr.length))) r 1 (nI (Lr.length + 1))) (p (xr_pi j Lr.length i)) q = if p (xr_pi j Lr.length i) = p Lr.length ∧ q < 4 then am_i σ a q else am_i σ (p (xr_pi j Lr.length i)) q := by
      intro q
      have hi : i ≤ Lr.length := by
        by_cases e1 : i < j
        · omega
        · by_cases e2 : i = j
          · omega
          · rw [if_neg e1, if_neg e2] at hf
            have := (List.getElem?_eq_some_iff.mp hf).1
            omega
      have hpi : xr_pi j Lr.length i < cap := by have := xr_pi_c j Lr.length i; omega
      obtain ⟨c1, c2, c3, c4⟩ := h7 _ hpi
      rw [am_i_wi, if_neg (by omega), am_i_wr, am_i_cp, j4]
      simp
    have same : ∀ z, xr_pi j Lr.length i ≠ Lr.length → xr_pi j Lr.length i < cap → xr_at σ (p (xr_pi j Lr.length i)) z → xr_at (am_wi (am_wr (am_cp σ' a (p Lr.length) 0 0 4) (r + 1) j (some (p Lr.length))) r 1 (nI (Lr.length + 1))) (p (xr_pi j Lr.length i)) z := by
      intro z hz hz2 ⟨x1, x2, x3, x4⟩
      have hne : p (xr_pi j Lr.length i) ≠ p Lr.length := fun q => hz (h8 _ _ hz2 hn q)
      unfold xr_at
      rw [key, key, key, key, if_neg (fun q => hne q.1), if_neg (fun q => hne q.1), if_neg (fun q => hne q.1), if_neg (fun q => hne q.1)]
      exact ⟨x1, x2, x3, x4⟩
    by_cases e1 : i < j
    · rw [if_pos e1] at hf
      have hp : xr_pi j Lr.length i = i := by unfold xr_pi; rw [if_pos e1]
      refine same f (by rw [hp]; omega) (by rw [hp]; omega) ?_
      rw [hp]
      exact h9 i f hf
    · rw [if_neg e1] at hf
      by_cases e2 : i = j
      · rw [if_pos e2] at hf
        cases hf
        have hp : xr_pi j Lr.length i = Lr.length := by unfold xr_pi; rw [if_neg e1, if_pos e2]
        unfold xr_at
        rw [key, key, key, key, hp, if_pos ⟨rfl, by decide⟩, if_pos ⟨rfl, by decide⟩, if_pos ⟨rfl, by decide⟩, if_pos ⟨rfl, by decide⟩]
        exact hea
      · rw [if_neg e2] at hf
        have hl := (List.getElem?_eq_some_iff.mp hf).1
        have hp : xr_pi j Lr.length i = i - 1 := by unfold xr_pi; rw [if_neg e1, if_neg e2, if_pos (by omega)]
        refine same f (by rw [hp]; omega) (by rw [hp]; omega) ?_
        rw [hp]
        exact h9 (i - 1) f hf
  · refine ((am_fm.wr (am_fm.cp ⟨j1, j2, j3, fun b hb => ⟨by rw [j4], j5 b (fun q => hb ?_)⟩⟩ ?_) ?_).wi ?_)
    · subst q; exact ⟨by omega, by omega⟩
    · exact ⟨by omega, by omega⟩
    · exact ⟨by omega, by omega⟩
    · exact ⟨by omega, by omega⟩
theorem xr_add_loop {g : am_G} {l : Launch} {σ : am_S} {d : Nat} {Q : Option Value → am_S → Prop} {r cap a : Nat} {p : Nat → Nat} {Lr : List xr_E} {e : xr_E} (hdp : 1 ≤ d) (hR : xr_R σ r cap p Lr) (hn : Lr.length < cap) (ha : a < r ∨ r + 2 + cap ≤ a) (hsa : am_sh σ a = some (.inr (0, 4))) (hea : xr_at σ a e) : ∀ (j : Nat), j ≤ Lr.length → ∀ σ', xr_J σ σ' r cap Lr.length p j →
    (∀ σ'' p', xr_R σ'' r cap p' (xr_put Lr (xr_pos e.1 Lr j) e) → am_fm (fun b => r ≤ b ∧ b < r + 2 + cap) σ σ'' → Q (some (.int 1)) σ'') →
    am_W g l mX2_add d (am_tp σ, am_us σ) Q 29 [some (.ref r), some (.ref a), some (.ref (p Lr.length)), some (.int (nI j))] [] σ' := by
  have hR9 := hR
  obtain ⟨h1, h2, h3, h4, h5, h6, h7, h8, h9⟩ := hR
  intro j
  induction j with
  | zero =>
    intro hj σ' hJ hQ
    refine kX2_add_29 ?_
    simp (disch := omega) only [ax_const, ax_iload, ax_lload, ax_aload, ax_istore, ax_astore, ax_iinc, ax_i2, ax_i2n, ax_l2, ax_lsh, ax_ii, ax_il, ax_li, ax_pop, ax_dup, ax_dup2, ax_if, ax_cmp, ax_acmp, ax_goto, ax_getI, ax_getR, ax_putI, ax_putR, ax_gets, ax_getsT, ax_aldI, ax_aldR, ax_astI, ax_astR, ax_alen, ax_ret, ax_aret, ax_vret, am_st, am_kl, List.getElem?_cons_zero, List.getElem?_cons_succ, List.set_cons_zero, List.set_cons_succ, Value.category, true_and, and_true, if_true, if_false, reduceCtorEq, Bool.false_eq_true, false_implies, forall_const, Option.some.injEq, exists_eq_left', exists_eq_left, Sum.inl.injEq, Sum.inr.injEq, Prod.mk.injEq, nI_toInt, nI_clamp, am_ix_nI, am_ix_0, am_ix_1, am_ix_2, am_ix_3, am_n0, am_n1, am_n2, am_n3, am_n4, am_t0, am_t1, am_t2, am_t3, am_t4, am_tm1, am_nS, am_nP, am_nM, Int.ofNat_lt, Int.ofNat_le]
    exact ⟨fun h => by omega, fun _ => xr_add_69 hdp hR9 hn ha hsa hea (j := 0) hj hJ hQ⟩
  | succ j ih =>
    intro hj σ' hJ hQ
    have hJ9 := hJ
    obtain ⟨j1, j2, j3, j4, j5, j6⟩ := hJ
    obtain ⟨a1, a2, a3, a4⟩ := h7 j (by omega)
    have b2 : am_r σ' r 0 = some (r + 1) := by rw [j5 r (by omega)]; exact h2
    have b3 : am_r σ' (r + 1) j = some (p j) := by rw [j6 j (by omega), if_pos (by omega)]
    have hx : Lr[j]? = some (Lr.getD j (0, 0, 0, 0)) := by
      rw [List.getD_eq_getElem?_getD, List.getElem?_eq_getElem (by omega)]
      rfl
    have b4 := (h9 j _ hx).1
    have b5 := hea.1
    rw [xr_pos] at hQ
    refine kX2_add_29 ?_
    simp (disch := omega) only [ax_const, ax_iload, ax_lload, ax_aload, ax_istore, ax_astore, ax_iinc, ax_i2, ax_i2n, ax_l2, ax_lsh, ax_ii, ax_il, ax_li, ax_pop, ax_dup, ax_dup2, ax_if, ax_cmp, ax_acmp, ax_goto, ax_getI, ax_getR, ax_putI, ax_putR, ax_gets, ax_getsT, ax_aldI, ax_aldR, ax_astI, ax_astR, ax_alen, ax_ret, ax_aret, ax_vret, am_st, am_kl, List.getElem?_cons_zero, List.getElem?_cons_succ, List.set_cons_zero, List.set_cons_succ, Value.category, true_and, and_true, if_true, if_false, reduceCtorEq, Bool.false_eq_true, false_implies, forall_const, Option.some.injEq, exists_eq_left', exists_eq_left, Sum.inl.injEq, Sum.inr.injEq, Prod.mk.injEq, nI_toInt, nI_clamp, am_ix_nI, am_ix_0, am_ix_1, am_ix_2, am_ix_3, am_n0, am_n1, am_n2, am_n3, am_n4, am_t0, am_t1, am_t2, am_t3, am_t4, am_tm1, am_nS, am_nP, am_nM, Int.ofNat_lt, Int.ofNat_le, j1, j4, h1, b2, h6, b3, a4, b4, b5, hsa, Nat.add_sub_cancel]
    refine ⟨fun _ => ⟨by omega, by decide, by decide, fun hlt => ?_, fun hlt => ?_⟩, fun h => by omega⟩
    · refine ⟨by omega, by omega, ⟨4, rfl⟩, ?_⟩
      rw [if_pos hlt] at hQ
      refine ih (by omega) _ ⟨j1, j2, j3, j4, fun b hb => ?_, fun i hi => ?_⟩ hQ
      · rw [← j5 b hb]
        funext q
        rw [am_r_wr, if_neg (fun z => hb z.1)]
      · rw [am_r_wr]
        by_cases e1 : i = j + 1
        · subst e1
          rw [if_pos ⟨rfl, rfl⟩, if_neg (by omega), if_pos (by omega)]
          rfl
        · rw [if_neg (fun z => e1 z.2), j6 i hi]
          by_cases e2 : i ≤ j
          · rw [if_pos (by omega), if_pos e2]
          · rw [if_neg (by omega), if_neg e2]
    · rw [if_neg hlt] at hQ
      exact xr_add_69 hdp hR9 hn ha hsa hea hj hJ9 hQ
/-- Rows.add -/
theorem c_add {g : am_G} {l : Launch} {σ : am_S} {r cap a : Nat} {p : Nat → Nat} {Lr : List xr_E} {e : xr_E} {Q : Option Value → am_S → Prop} (hR : xr_R σ r cap p Lr) (ha : a < r ∨ r + 2 + cap ≤ a) (hsa : am_sh σ a = some (.inr (0, 4))) (hea : xr_at σ a e)
    (hQ0 : Lr.length = cap → Q (some (.int 0)) σ) (hQ1 : Lr.length < cap → ∀ σ' p', xr_R σ' r cap p' (xr_put Lr (xr_pos e.1 Lr Lr.length) e) → am_fm (fun b => r ≤ b ∧ b < r + 2 + cap) σ σ' → Q (some (.int 1)) σ') :
    am_C g l mX2_add 1 (am_tp σ, am_us σ) [.ref r, .ref a] σ Q := by
  have hR9 := hR
  obtain ⟨h1, h2, h3, h4, h5, h6, h7, h8, h9⟩ := hR
  refine am_C.go [some (.ref r), some (.ref a), none, none] (by decide +kernel) (Nat.le_of_ble_eq_true rfl) rfl (kX2_add_0 ?_)
  simp (disch := omega) only [ax_const, ax_iload, ax_lload, ax_aload, ax_istore, ax_astore, ax_iinc, ax_i2, ax_i2n, ax_l2, ax_lsh, ax_ii, ax_il, ax_li, ax_pop, ax_dup, ax_dup2, ax_if, ax_cmp, ax_acmp, ax_goto, ax_getI, ax_getR, ax_putI, ax_putR, ax_gets, ax_getsT, ax_aldI, ax_aldR, ax_astI, ax_astR, ax_alen, ax_ret, ax_aret, ax_vret, am_st, am_kl, List.getElem?_cons_zero, List.getElem?_cons_succ, List.set_cons_zero, List.set_cons_succ, Value.category, true_and, and_true, if_true, if_false, reduceCtorEq, Bool.false_eq_true, false_implies, forall_const, Option.some.injEq, exists_eq_left', exists_eq_left, Sum.inl.injEq, Sum.inr.injEq, Prod.mk.injEq, nI_toInt, nI_clamp, am_ix_nI, am_ix_0, am_ix_1, am_ix_2, am_ix_3, am_n0, am_n1, am_n2, am_n3, am_n4, am_t0, am_t1, am_t2, am_t3, am_t4, am_tm1, am_nS, am_nP, am_nM, Int.ofNat_lt, Int.ofNat_le, h1, h2, h3, h6]
  refine ⟨3, cap, ⟨rfl, rfl⟩, ?_⟩
  have hc : Int32.ofNat cap = nI cap := rfl
  rw [hc, nI_inj (by omega) (by omega)]
  refine ⟨fun h => ⟨by simp, hQ0 h⟩, fun h => ?_⟩
  have hn : Lr.length < cap := by omega
  obtain ⟨a1, a2, a3, a4⟩ := h7 Lr.length hn
  refine ⟨hn, _, a1, ?_⟩
  refine xr_add_loop (Nat.le_refl _) hR9 hn ha hsa hea Lr.length (Nat.le_refl _) σ ⟨rfl, rfl, rfl, rfl, fun _ _ => rfl, fun i hi => ?_⟩ (hQ1 hn)
  rw [(h7 i hi).1]
  by_cases e1 : i ≤ Lr.length
  · rw [if_pos e1]
  · rw [if_neg e1, if_neg e1]
theorem xr_at.fm {P : Nat → Prop} {σ σ' : am_S} {a : Nat} {e : xr_E} (h : xr_at σ a e) (hf : am_fm P σ σ') (ha : ¬ P a) : xr_at σ' a e := by
  unfold xr_at at *
  rw [(hf.2.2.2 a ha).1]
  exact h
theorem xr_R.fm {P : Nat → Prop} {σ σ' : am_S} {r cap : Nat} {p : Nat → Nat} {Lr : List xr_E} (h : xr_R σ r cap p Lr) (hf : am_fm P σ σ') (hd : ∀ b, r ≤ b → b < r + 2 + cap → ¬ P b) : xr_R σ' r cap p Lr := by
  obtain ⟨h1, h2, h3, h4, h5, h6, h7, h8, h9⟩ := h
  refine ⟨by rw [hf.1]; exact h1, by rw [(hf.2.2.2 r (hd r (by omega) (by omega))).2]; exact h2, by rw [(hf.2.2.2 r (hd r (by omega) (by omega))).1]; exact h3, h4, h5, by rw [hf.1]; exact h6, fun i hi => ?_, h8, fun i e he => ?_⟩
  · obtain ⟨a1, a2, a3, a4⟩ := h7 i hi
    have hr1 := (hf.2.2.2 (r + 1) (hd (r + 1) (by omega) (by omega))).2
    exact ⟨by rw [hr1]; exact a1, a2, a3, by rw [hf.1]; exact a4⟩
  · have hi := (List.getElem?_eq_some_iff.mp he).1
    obtain ⟨a1, a2, a3, a4⟩ := h7 i (by omega)
    exact (h9 i e he).fm hf (hd _ (by omega) a3)
/-- the place of a row -/
theorem xr_R.get {σ : am_S} {r cap : Nat} {p : Nat → Nat} {Lr : List xr_E} (h : xr_R σ r cap p Lr) {i : Nat} {e : xr_E} (he : Lr[i]? = some e) : i < cap ∧ am_r σ (r + 1) i = some (p i) ∧ r + 2 ≤ p i ∧ p i < r + 2 + cap ∧ am_sh σ (p i) = some (.inr (0, 4)) ∧ am_i σ (p i) 0 = e.1 ∧ am_i σ (p i) 1 = e.2.1 ∧ am_i σ (p i) 2 = e.2.2.1 ∧ am_i σ (p i) 3 = e.2.2.2 := by
  obtain ⟨h1, h2, h3, h4, h5, h6, h7, h8, h9⟩ := h
  have hi := (List.getElem?_eq_some_iff.mp he).1
  obtain ⟨a1, a2, a3, a4⟩ := h7 i (by omega)
  obtain ⟨b1, b2, b3, b4⟩ := h9 i e he
  exact ⟨by omega, a1, a2, a3, a4, b1, b2, b3, b4⟩
/-! remove -/
def xr_rho (j n i : Nat) : Nat := if i < j then i else if i + 1 < n then i + 1 else if i + 1 = n then j else i
theorem xr_rho_c (j n i : Nat) : (i < j ∧ xr_rho j n i = i) ∨ (j ≤ i ∧ i + 1 < n ∧ xr_rho j n i = i + 1) ∨ (j ≤ i ∧ i + 1 = n ∧ xr_rho j n i = j) ∨ (j ≤ i ∧ n ≤ i ∧ xr_rho j n i = i) := by
  unfold xr_rho
  by_cases h1 : i < j
  · exact Or.inl ⟨h1, if_pos h1⟩
  · rw [if_neg h1]
    by_cases h2 : i + 1 < n
    · exact Or.inr (Or.inl ⟨by omega, h2, if_pos h2⟩)
    · rw [if_neg h2]
      by_cases h3 : i + 1 = n
      · exact Or.inr (Or.inr (Or.inl ⟨by omega, h3, if_pos h3⟩))
      · exact Or.inr (Or.inr (Or.inr ⟨by omega, by omega, if_neg h3⟩))
theorem xr_rem_loop {g : am_G} {l : Launch} {σ : am_S} {d : Nat} {Q : Option Value → am_S → Prop} {r cap at_ n : Nat} {p : Nat → Nat} {Lr : List xr_E} (hR : xr_R σ r cap p Lr) (hat : at_ < n) (hn : n = Lr.length)
    (hQ : ∀ σ' p', xr_R σ' r cap p' (Lr.eraseIdx at_) → am_fm (fun b => r ≤ b ∧ b < r + 2 + cap) σ σ' → Q none σ') : ∀ (m j : Nat), j + m + 1 = n → at_ ≤ j → ∀ σ', am_sh σ' = am_sh σ → am_tp σ' = am_tp σ → am_us σ' = am_us σ → (∀ b, b ≠ r → am_i σ' b = am_i σ b) → am_i σ' r 1 = nI (n - 1) → (∀ b, b ≠ r + 1 → am_r σ' b = am_r σ b) →
    (∀ i, i < cap → am_r σ' (r + 1) i = some (if i < at_ then p i else if i < j then p (i + 1) else p i)) →
    am_W g l mX2_remove d (am_tp σ, am_us σ) Q 19 [some (.ref r), some (.int (nI at_)), some (.ref (p at_)), some (.int (nI j))] [] σ' := by
  obtain ⟨h1, h2, h3, h4, h5, h6, h7, h8, h9⟩ := hR
  intro m
  induction m with
  | zero =>
    intro j hj haj σ' j1 j2 j3 j4 j4r j5 j6
    have b2 : am_r σ' r 0 = some (r + 1) := by rw [j5 r (by omega)]; exact h2
    obtain ⟨a1, a2, a3, a4⟩ := h7 at_ (by omega)
    refine kX2_remove_19 ?_
    simp (disch := omega) only [ax_const, ax_iload, ax_lload, ax_aload, ax_istore, ax_astore, ax_iinc, ax_i2, ax_i2n, ax_l2, ax_lsh, ax_ii, ax_il, ax_li, ax_pop, ax_dup, ax_dup2, ax_if, ax_cmp, ax_acmp, ax_goto, ax_getI, ax_getR, ax_putI, ax_putR, ax_gets, ax_getsT, ax_aldI, ax_aldR, ax_astI, ax_astR, ax_alen, ax_ret, ax_aret, ax_vret, am_st, am_kl, List.getElem?_cons_zero, List.getElem?_cons_succ, List.set_cons_zero, List.set_cons_succ, Value.category, true_and, and_true, if_true, if_false, reduceCtorEq, Bool.false_eq_true, false_implies, forall_const, Option.some.injEq, exists_eq_left', exists_eq_left, Sum.inl.injEq, Sum.inr.injEq, Prod.mk.injEq, nI_toInt, nI_clamp, am_ix_nI, am_ix_0, am_ix_1, am_ix_2, am_ix_3, am_n0, am_n1, am_n2, am_n3, am_n4, am_t0, am_t1, am_t2, am_t3, am_t4, am_tm1, am_nS, am_nP, am_nM, Int.ofNat_lt, Int.ofNat_le, j1, h1, b2, h6, j4r]
    refine ⟨fun h => by omega, fun _ => ⟨by omega, ⟨4, a4⟩, j2, j3, ?_⟩⟩
    have hel : (Lr.eraseIdx at_).length = n - 1 := by rw [List.length_eraseIdx, if_pos (by omega), hn]
    refine hQ _ (fun i => p (xr_rho at_ n i)) ⟨?_, ?_, ?_, by omega, h5, ?_, fun i hi => ?_, fun x y hx hy hxy => ?_, fun i f hf => ?_⟩ ?_
    · rw [am_sh_wr, j1]; exact h1
    · rw [am_r_wr, if_neg (by omega)]; exact b2
    · rw [am_i_wr, hel]; exact j4r
    · rw [am_sh_wr, j1]; exact h6
    · have hc := xr_rho_c at_ n i
      obtain ⟨c1, c2, c3, c4⟩ := h7 (xr_rho at_ n i) (by omega)
      refine ⟨?_, c2, c3, by rw [am_sh_wr, j1]; exact c4⟩
      rw [am_r_wr]
      by_cases e1 : i = n - 1
      · rw [if_pos ⟨rfl, e1⟩]
        dsimp only
        rw [show xr_rho at_ n i = at_ by omega]
      · rw [if_neg (fun z => e1 z.2), j6 i hi]
        by_cases e2 : i < at_
        · rw [if_pos e2]
          dsimp only
          rw [show xr_rho at_ n i = i by omega]
        · rw [if_neg e2]
          by_cases e3 : i < j
          · rw [if_pos e3]
            dsimp only
            rw [show xr_rho at_ n i = i + 1 by omega]
          · rw [if_neg e3]
            dsimp only
            rw [show xr_rho at_ n i = i by omega]
    · have c1 := xr_rho_c at_ n x
      have c2 := xr_rho_c at_ n y
      have := h8 _ _ (by omega) (by omega) hxy
      omega
    · have hl := (List.getElem?_eq_some_iff.mp hf).1
      have hc := xr_rho_c at_ n i
      rw [List.getElem?_eraseIdx] at hf
      have hz : xr_at σ (p (xr_rho at_ n i)) f := by
        split at hf
        · rw [show xr_rho at_ n i = i by omega]; exact h9 _ _ hf
        · rw [show xr_rho at_ n i = i + 1 by omega]; exact h9 _ _ hf
      obtain ⟨c1, c2, c3, c4⟩ := h7 (xr_rho at_ n i) (by omega)
      unfold xr_at
      dsimp only
      rw [am_i_wr, j4 (p (xr_rho at_ n i)) (by omega)]
      exact hz
    · refine am_fm.wr ⟨j1, j2, j3, fun b hb => ⟨j4 b (fun q => hb ?_), j5 b (fun q => hb ?_)⟩⟩ ⟨by omega, by omega⟩ <;> (subst q; exact ⟨by omega, by omega⟩)
  | succ m ih =>
    intro j hj haj σ' j1 j2 j3 j4 j4r j5 j6
    have b2 : am_r σ' r 0 = some (r + 1) := by rw [j5 r (by omega)]; exact h2
    have b3 : am_r σ' (r + 1) (j + 1) = some (p (j + 1)) := by rw [j6 _ (by omega), if_neg (by omega), if_neg (by omega)]
    obtain ⟨a1, a2, a3, a4⟩ := h7 (j + 1) (by omega)
    refine kX2_remove_19 ?_
    simp (disch := omega) only [ax_const, ax_iload, ax_lload, ax_aload, ax_istore, ax_astore, ax_iinc, ax_i2, ax_i2n, ax_l2, ax_lsh, ax_ii, ax_il, ax_li, ax_pop, ax_dup, ax_dup2, ax_if, ax_cmp, ax_acmp, ax_goto, ax_getI, ax_getR, ax_putI, ax_putR, ax_gets, ax_getsT, ax_aldI, ax_aldR, ax_astI, ax_astR, ax_alen, ax_ret, ax_aret, ax_vret, am_st, am_kl, List.getElem?_cons_zero, List.getElem?_cons_succ, List.set_cons_zero, List.set_cons_succ, Value.category, true_and, and_true, if_true, if_false, reduceCtorEq, Bool.false_eq_true, false_implies, forall_const, Option.some.injEq, exists_eq_left', exists_eq_left, Sum.inl.injEq, Sum.inr.injEq, Prod.mk.injEq, nI_toInt, nI_clamp, am_ix_nI, am_ix_0, am_ix_1, am_ix_2, am_ix_3, am_n0, am_n1, am_n2, am_n3, am_n4, am_t0, am_t1, am_t2, am_t3, am_t4, am_tm1, am_nS, am_nP, am_nM, Int.ofNat_lt, Int.ofNat_le, j1, h1, b2, h6, j4r, b3]
    refine ⟨fun _ => ⟨by omega, by omega, ⟨4, a4⟩, ?_⟩, fun h => by omega⟩
    refine ih (j + 1) (by omega) (by omega) _ j1 j2 j3 j4 j4r (fun b hb => ?_) (fun i hi => ?_)
    · rw [← j5 b hb]
      funext q
      rw [am_r_wr, if_neg (fun z => hb z.1)]
    · rw [am_r_wr]
      by_cases e1 : i = j
      · rw [if_pos ⟨rfl, e1⟩, if_neg (by omega), if_pos (by omega), e1]
      · rw [if_neg (fun z => e1 z.2), j6 i hi]
        by_cases e2 : i < at_
        · rw [if_pos e2, if_pos e2]
        · rw [if_neg e2, if_neg e2]
          by_cases e3 : i < j
          · rw [if_pos e3, if_pos (by omega)]
          · rw [if_neg e3, if_neg (by omega)]
/-- Rows.remove -/
theorem c_remove {g : am_G} {l : Launch} {σ : am_S} {r cap at_ : Nat} {p : Nat → Nat} {Lr : List xr_E} {Q : Option Value → am_S → Prop} (hR : xr_R σ r cap p Lr) (hat : at_ < Lr.length)
    (hQ : ∀ σ' p', xr_R σ' r cap p' (Lr.eraseIdx at_) → am_fm (fun b => r ≤ b ∧ b < r + 2 + cap) σ σ' → Q none σ') : am_C g l mX2_remove 0 (am_tp σ, am_us σ) [.ref r, .int (nI at_)] σ Q := by
  have hR9 := hR
  obtain ⟨h1, h2, h3, h4, h5, h6, h7, h8, h9⟩ := hR
  obtain ⟨a1, a2, a3, a4⟩ := h7 at_ (by omega)
  refine am_C.go [some (.ref r), some (.int (nI at_)), none, none] (by decide +kernel) (Nat.le_of_ble_eq_true rfl) rfl (kX2_remove_0 ?_)
  simp (disch := omega) only [ax_const, ax_iload, ax_lload, ax_aload, ax_istore, ax_astore, ax_iinc, ax_i2, ax_i2n, ax_l2, ax_lsh, ax_ii, ax_il, ax_li, ax_pop, ax_dup, ax_dup2, ax_if, ax_cmp, ax_acmp, ax_goto, ax_getI, ax_getR, ax_putI, ax_putR, ax_gets, ax_getsT, ax_aldI, ax_aldR, ax_astI, ax_astR, ax_alen, ax_ret, ax_aret, ax_vret, am_st, am_kl, List.getElem?_cons_zero, List.getElem?_cons_succ, List.set_cons_zero, List.set_cons_succ, Value.category, true_and, and_true, if_true, if_false, reduceCtorEq, Bool.false_eq_true, false_implies, forall_const, Option.some.injEq, exists_eq_left', exists_eq_left, Sum.inl.injEq, Sum.inr.injEq, Prod.mk.injEq, nI_toInt, nI_clamp, am_ix_nI, am_ix_0, am_ix_1, am_ix_2, am_ix_3, am_n0, am_n1, am_n2, am_n3, am_n4, am_t0, am_t1, am_t2, am_t3, am_t4, am_tm1, am_nS, am_nP, am_nM, Int.ofNat_lt, Int.ofNat_le, am_sh_wi, am_sh_wr, am_r_wi, am_i_wr, am_tp_wi, am_tp_wr, am_us_wi, am_us_wr, am_i_wi, am_r_wr, h1, h2, h3, h6, a1]
  refine ⟨by omega, ?_⟩
  refine xr_rem_loop hR9 hat rfl hQ (Lr.length - at_ - 1) at_ (by omega) (Nat.le_refl _) _ rfl rfl rfl (fun b hb => ?_) ?_ (fun _ _ => rfl) (fun i hi => ?_)
  · funext q
    rw [am_i_wi, if_neg (fun z => hb z.1)]
  · rw [am_i_wi, if_pos ⟨rfl, rfl⟩]
  · rw [am_r_wi, (h7 i hi).1]
    by_cases e1 : i < at_
    · rw [if_pos e1]
    · rw [if_neg e1, if_neg e1]
/-! addAll, become -/
def xr_add (Lr : List xr_E) (e : xr_E) : List xr_E := xr_put Lr (xr_pos e.1 Lr Lr.length) e
theorem xr_add_len (Lr : List xr_E) (e : xr_E) : (xr_add Lr e).length = Lr.length + 1 := xr_put_len (xr_pos_le _ _ _)
theorem xr_addAll_loop {g : am_G} {l : Launch} {r cap s cap' d : Nat} {p' : Nat → Nat} {Ls : List xr_E} {Q : Option Value → am_S → Prop} {tp us : Nat} (hd : 2 ≤ d) (hsep : s + 2 + cap' ≤ r ∨ r + 2 + cap ≤ s) : ∀ (T pre : List xr_E) (σ : am_S) (p : Nat → Nat) (Lr : List xr_E), Ls = pre ++ T → am_tp σ = tp → am_us σ = us → xr_R σ r cap p Lr → xr_R σ s cap' p' Ls → Lr.length + T.length ≤ cap →
    (∀ σ' p', xr_R σ' r cap p' (T.foldl xr_add Lr) → am_fm (fun b => r ≤ b ∧ b < r + 2 + cap) σ σ' → Q none σ') →
    am_W g l mX2_addAll d (tp, us) Q 2 [some (.ref r), some (.ref s), some (.int (nI pre.length))] [] σ := by
  intro T
  induction T with
  | nil =>
    intro pre σ p Lr hT htp hus hR hS hlen hQ
    obtain ⟨h1, h2, h3, h4, h5, h6, h7, h8, h9⟩ := hS
    have hl : Ls.length = pre.length := by rw [hT]; simp
    refine kX2_addAll_2 ?_
    simp (disch := omega) only [ax_const, ax_iload, ax_lload, ax_aload, ax_istore, ax_astore, ax_iinc, ax_i2, ax_i2n, ax_l2, ax_lsh, ax_ii, ax_il, ax_li, ax_pop, ax_dup, ax_dup2, ax_if, ax_cmp, ax_acmp, ax_goto, ax_getI, ax_getR, ax_putI, ax_putR, ax_gets, ax_getsT, ax_aldI, ax_aldR, ax_astI, ax_astR, ax_alen, ax_ret, ax_aret, ax_vret, am_st, am_kl, List.getElem?_cons_zero, List.getElem?_cons_succ, List.set_cons_zero, List.set_cons_succ, Value.category, true_and, and_true, if_true, if_false, reduceCtorEq, Bool.false_eq_true, false_implies, forall_const, Option.some.injEq, exists_eq_left', exists_eq_left, Sum.inl.injEq, Sum.inr.injEq, Prod.mk.injEq, nI_toInt, nI_clamp, am_ix_nI, am_ix_0, am_ix_1, am_ix_2, am_ix_3, am_n0, am_n1, am_n2, am_n3, am_n4, am_t0, am_t1, am_t2, am_t3, am_t4, am_tm1, am_nS, am_nP, am_nM, Int.ofNat_lt, Int.ofNat_le, h1, h2, h3, h6]
    exact ⟨fun h => by omega, fun _ => ⟨htp, hus, hQ σ p hR .rf⟩⟩
  | cons e T ih =>
    intro pre σ p Lr hT htp hus hR hS hlen hQ
    have hS9 := hS
    have hl : Ls.length = pre.length + (T.length + 1) := by rw [hT]; simp
    obtain ⟨a0, a1, a2, a3, a4, a5, a6, a7, a8⟩ := hS.get (i := pre.length) (e := e) (by rw [hT]; simp)
    obtain ⟨h1, h2, h3, h4, h5, h6, h7, h8, h9⟩ := hS
    have hlen2 : Lr.length + (T.length + 1) ≤ cap := by simpa using hlen
    refine kX2_addAll_2 ?_
    simp (disch := omega) only [ax_const, ax_iload, ax_lload, ax_aload, ax_istore, ax_astore, ax_iinc, ax_i2, ax_i2n, ax_l2, ax_lsh, ax_ii, ax_il, ax_li, ax_pop, ax_dup, ax_dup2, ax_if, ax_cmp, ax_acmp, ax_goto, ax_getI, ax_getR, ax_putI, ax_putR, ax_gets, ax_getsT, ax_aldI, ax_aldR, ax_astI, ax_astR, ax_alen, ax_ret, ax_aret, ax_vret, am_st, am_kl, List.getElem?_cons_zero, List.getElem?_cons_succ, List.set_cons_zero, List.set_cons_succ, Value.category, true_and, and_true, if_true, if_false, reduceCtorEq, Bool.false_eq_true, false_implies, forall_const, Option.some.injEq, exists_eq_left', exists_eq_left, Sum.inl.injEq, Sum.inr.injEq, Prod.mk.injEq, nI_toInt, nI_clamp, am_ix_nI, am_ix_0, am_ix_1, am_ix_2, am_ix_3, am_n0, am_n1, am_n2, am_n3, am_n4, am_t0, am_t1, am_t2, am_t3, am_t4, am_tm1, am_nS, am_nP, am_nM, Int.ofNat_lt, Int.ofNat_le, h1, h2, h3, h6, a1]
    refine ⟨fun _ => ⟨by omega, ?_⟩, fun h => by omega⟩
    refine am_callK [.ref r, .ref (p' pre.length)] [] (d' := 1) (lim' := (am_tp σ, am_us σ)) rfl (by omega) (by rw [htp]; exact Nat.le_refl _) (by rw [hus]; exact Nat.le_refl _) rfl (by decide) (am_recv hR.1) ?_
    refine c_add hR (by omega) a4 ⟨a5, a6, a7, a8⟩ (fun h => by omega) (fun _ σ' q hR' hf htp' hus' => ?_)
    simp (disch := omega) only [ax_const, ax_iload, ax_lload, ax_aload, ax_istore, ax_astore, ax_iinc, ax_i2, ax_i2n, ax_l2, ax_lsh, ax_ii, ax_il, ax_li, ax_pop, ax_dup, ax_dup2, ax_if, ax_cmp, ax_acmp, ax_goto, ax_getI, ax_getR, ax_putI, ax_putR, ax_gets, ax_getsT, ax_aldI, ax_aldR, ax_astI, ax_astR, ax_alen, ax_ret, ax_aret, ax_vret, am_st, am_kl, List.getElem?_cons_zero, List.getElem?_cons_succ, List.set_cons_zero, List.set_cons_succ, Value.category, true_and, and_true, if_true, if_false, reduceCtorEq, Bool.false_eq_true, false_implies, forall_const, Option.some.injEq, exists_eq_left', exists_eq_left, Sum.inl.injEq, Sum.inr.injEq, Prod.mk.injEq, nI_toInt, nI_clamp, am_ix_nI, am_ix_0, am_ix_1, am_ix_2, am_ix_3, am_n0, am_n1, am_n2, am_n3, am_n4, am_t0, am_t1, am_t2, am_t3, am_t4, am_tm1, am_nS, am_nP, am_nM, Int.ofNat_lt, Int.ofNat_le, Option.toList_some, List.cons_append, List.nil_append]
    have := ih (pre ++ [e]) σ' q (xr_add Lr e) (by rw [hT]; simp) (htp'.trans htp) (hus'.trans hus) hR' (hS9.fm hf (fun b x y z => by omega)) (by rw [xr_add_len]; omega) (fun σ'' q'' x y => hQ σ'' q'' x (hf.tr y))
    rw [List.length_append] at this
    exact this
/-- Rows.addAll -/
theorem c_addAll {g : am_G} {l : Launch} {σ : am_S} {r cap s cap' : Nat} {p p' : Nat → Nat} {Lr Ls : List xr_E} {Q : Option Value → am_S → Prop} (hR : xr_R σ r cap p Lr) (hS : xr_R σ s cap' p' Ls) (hsep : s + 2 + cap' ≤ r ∨ r + 2 + cap ≤ s) (hlen : Lr.length + Ls.length ≤ cap)
    (hQ : ∀ σ' p', xr_R σ' r cap p' (Ls.foldl xr_add Lr) → am_fm (fun b => r ≤ b ∧ b < r + 2 + cap) σ σ' → Q none σ') : am_C g l mX2_addAll 2 (am_tp σ, am_us σ) [.ref r, .ref s] σ Q := by
  refine am_C.go [some (.ref r), some (.ref s), none] (by decide +kernel) (Nat.le_of_ble_eq_true rfl) rfl (kX2_addAll_0 ?_)
  simp (disch := omega) only [ax_const, ax_iload, ax_lload, ax_aload, ax_istore, ax_astore, ax_iinc, ax_i2, ax_i2n, ax_l2, ax_lsh, ax_ii, ax_il, ax_li, ax_pop, ax_dup, ax_dup2, ax_if, ax_cmp, ax_acmp, ax_goto, ax_getI, ax_getR, ax_putI, ax_putR, ax_gets, ax_getsT, ax_aldI, ax_aldR, ax_astI, ax_astR, ax_alen, ax_ret, ax_aret, ax_vret, am_st, am_kl, List.getElem?_cons_zero, List.getElem?_cons_succ, List.set_cons_zero, List.set_cons_succ, Value.category, true_and, and_true, if_true, if_false, reduceCtorEq, Bool.false_eq_true, false_implies, forall_const, Option.some.injEq, exists_eq_left', exists_eq_left, Sum.inl.injEq, Sum.inr.injEq, Prod.mk.injEq, nI_toInt, nI_clamp, am_ix_nI, am_ix_0, am_ix_1, am_ix_2, am_ix_3, am_n0, am_n1, am_n2, am_n3, am_n4, am_t0, am_t1, am_t2, am_t3, am_t4, am_tm1, am_nS, am_nP, am_nM, Int.ofNat_lt, Int.ofNat_le]
  exact xr_addAll_loop (Nat.le_refl _) hsep Ls [] σ p Lr rfl rfl rfl hR hS hlen hQ
/-- the size is set to nothing -/
theorem xr_R.zero {σ : am_S} {r cap : Nat} {p : Nat → Nat} {Lr : List xr_E} (h : xr_R σ r cap p Lr) : xr_R (am_wi σ r 1 0) r cap p [] := by
  obtain ⟨h1, h2, h3, h4, h5, h6, h7, h8, h9⟩ := h
  exact ⟨h1, h2, by rw [am_i_wi, if_pos ⟨rfl, rfl⟩]; rfl, Nat.zero_le _, h5, h6, h7, h8, fun i e he => by simp at he⟩
/-- Rows.become -/
theorem c_become {g : am_G} {l : Launch} {σ : am_S} {r cap s cap' : Nat} {p p' : Nat → Nat} {Lr Ls : List xr_E} {Q : Option Value → am_S → Prop} (hR : xr_R σ r cap p Lr) (hS : xr_R σ s cap' p' Ls) (hsep : s + 2 + cap' ≤ r ∨ r + 2 + cap ≤ s) (hlen : Ls.length ≤ cap)
    (hQ : ∀ σ' p', xr_R σ' r cap p' (Ls.foldl xr_add []) → am_fm (fun b => r ≤ b ∧ b < r + 2 + cap) σ σ' → Q none σ') : am_C g l mX2_become 3 (am_tp σ, am_us σ) [.ref r, .ref s] σ Q := by
  have hf : am_fm (fun b => r ≤ b ∧ b < r + 2 + cap) σ (am_wi σ r 1 0) := am_fm.rf.wi ⟨by omega, by omega⟩
  refine am_C.go [some (.ref r), some (.ref s)] (by decide +kernel) (Nat.le_of_ble_eq_true rfl) rfl (kX2_become_0 ?_)
  simp (disch := omega) only [ax_const, ax_iload, ax_lload, ax_aload, ax_istore, ax_astore, ax_iinc, ax_i2, ax_i2n, ax_l2, ax_lsh, ax_ii, ax_il, ax_li, ax_pop, ax_dup, ax_dup2, ax_if, ax_cmp, ax_acmp, ax_goto, ax_getI, ax_getR, ax_putI, ax_putR, ax_gets, ax_getsT, ax_aldI, ax_aldR, ax_astI, ax_astR, ax_alen, ax_ret, ax_aret, ax_vret, am_st, am_kl, List.getElem?_cons_zero, List.getElem?_cons_succ, List.set_cons_zero, List.set_cons_succ, Value.category, true_and, and_true, if_true, if_false, reduceCtorEq, Bool.false_eq_true, false_implies, forall_const, Option.some.injEq, exists_eq_left', exists_eq_left, Sum.inl.injEq, Sum.inr.injEq, Prod.mk.injEq, nI_toInt, nI_clamp, am_ix_nI, am_ix_0, am_ix_1, am_ix_2, am_ix_3, am_n0, am_n1, am_n2, am_n3, am_n4, am_t0, am_t1, am_t2, am_t3, am_t4, am_tm1, am_nS, am_nP, am_nM, Int.ofNat_lt, Int.ofNat_le, am_sh_wi, am_sh_wr, am_r_wi, am_i_wr, am_tp_wi, am_tp_wr, am_us_wi, am_us_wr, am_i_wi, am_r_wr, hR.1]
  refine am_callK [.ref r, .ref s] [] (d' := 2) (lim' := (am_tp σ, am_us σ)) rfl (by decide) (Nat.le_refl _) (Nat.le_refl _) rfl (by decide) (am_recv hR.1) ?_
  refine c_addAll (σ := am_wi σ r 1 0) hR.zero (hS.fm hf (fun b x y z => by omega)) hsep (by simpa using hlen) (fun σ' q x y h9 h8 => ?_)
  simp (disch := omega) only [ax_const, ax_iload, ax_lload, ax_aload, ax_istore, ax_astore, ax_iinc, ax_i2, ax_i2n, ax_l2, ax_lsh, ax_ii, ax_il, ax_li, ax_pop, ax_dup, ax_dup2, ax_if, ax_cmp, ax_acmp, ax_goto, ax_getI, ax_getR, ax_putI, ax_putR, ax_gets, ax_getsT, ax_aldI, ax_aldR, ax_astI, ax_astR, ax_alen, ax_ret, ax_aret, ax_vret, am_st, am_kl, List.getElem?_cons_zero, List.getElem?_cons_succ, List.set_cons_zero, List.set_cons_succ, Value.category, true_and, and_true, if_true, if_false, reduceCtorEq, Bool.false_eq_true, false_implies, forall_const, Option.some.injEq, exists_eq_left', exists_eq_left, Sum.inl.injEq, Sum.inr.injEq, Prod.mk.injEq, Option.toList_none, List.nil_append, List.append_nil]
  exact ⟨h9, h8, hQ σ' q x (hf.tr y)⟩
/-! differences -/
/-- is the row e missing, or other, among Ls? -/
def xr_dif (Ls : List xr_E) (e : xr_E) : Nat := match Ls.find? (fun f => f.1 == e.1) with
  | none => 1
  | some f => if e.2.1 = f.2.1 ∧ e.2.2.1 = f.2.2.1 then 0 else 1
def xr_mis (Ls : List xr_E) (e : xr_E) : Nat := match Ls.find? (fun f => f.1 == e.1) with
  | none => 1
  | some f => 0
def xr_sum (f : xr_E → Nat) (Ls : List xr_E) : Nat := (Ls.map f).sum
theorem xr_find_spec (k : Int32) : ∀ (Ls : List xr_E) (i : Nat), i + Ls.length < 2 ^ 31 → (Ls.find? (fun f => f.1 == k) = none ∧ xr_find k Ls i = -1) ∨ ∃ j f, Ls[j]? = some f ∧ Ls.find? (fun f => f.1 == k) = some f ∧ xr_find k Ls i = nI (i + j)
  | [], i, _ => Or.inl ⟨rfl, rfl⟩
  | e :: t, i, hi => by
    rw [xr_find, List.find?_cons]
    by_cases h : e.1 = k
    · refine Or.inr ⟨0, e, rfl, ?_, by rw [if_pos h]; rfl⟩
      rw [show (e.1 == k) = true from beq_iff_eq.mpr h]
    · rw [if_neg h, show (e.1 == k) = false from beq_eq_false_iff_ne.mpr h]
      rcases xr_find_spec k t (i + 1) (by simp at hi; omega) with h1 | ⟨j, f, h1, h2, h3⟩
      · exact Or.inl h1
      · exact Or.inr ⟨j + 1, f, h1, h2, by rw [h3]; congr 1; omega⟩
theorem nI_m1 {n : Nat} (h : n < 2 ^ 31) : nI n ≠ -1 := by
  intro q
  have := congrArg Int32.toInt q
  rw [nI_toInt h, am_tm1] at this
  omega
theorem xr_sum_le (f : xr_E → Nat) (hf : ∀ e, f e ≤ 1) : ∀ Ls : List xr_E, xr_sum f Ls ≤ Ls.length
  | [] => Nat.le_refl _
  | e :: t => by
    have h1 := xr_sum_le f hf t
    have h2 := hf e
    show f e + xr_sum f t ≤ t.length + 1
    omega
theorem xr_dif_le (Ls : List xr_E) (e : xr_E) : xr_dif Ls e ≤ 1 := by
  unfold xr_dif
  split
  · exact Nat.le_refl _
  · split <;> omega
theorem xr_dif2_loop {g : am_G} {l : Launch} {σ : am_S} {d r cap s cap' : Nat} {p p' : Nat → Nat} {Lr Ls : List xr_E} {Q : Option Value → am_S → Prop} (hd : 1 ≤ d) (hR : xr_R σ r cap p Lr) (hS : xr_R σ s cap' p' Ls) : ∀ (T pre : List xr_E) (n : Nat) (z : Option Value), Ls = pre ++ T → n ≤ 48 + pre.length → Q (some (.int (nI (n + xr_sum (xr_mis Lr) T)))) σ →
    am_W g l mX2_differences d (am_tp σ, am_us σ) Q 83 [some (.ref r), some (.ref s), some (.int (nI n)), some (.int (nI pre.length)), z] [] σ := by
  intro T
  have hR9 := hR
  have hS9 := hS
  obtain ⟨h1, h2, h3, h4, h5, h6, h7, h8, h9⟩ := hR
  obtain ⟨g1, g2, g3, g4, g5, g6, g7, g8, g9⟩ := hS
  induction T with
  | nil =>
    intro pre n z hT hn hQ
    have hl : Ls.length = pre.length := by rw [hT]; simp
    refine kX2_differences_83 ?_
    simp (disch := omega) only [ax_const, ax_iload, ax_lload, ax_aload, ax_istore, ax_astore, ax_iinc, ax_i2, ax_i2n, ax_l2, ax_lsh, ax_ii, ax_il, ax_li, ax_pop, ax_dup, ax_dup2, ax_if, ax_cmp, ax_acmp, ax_goto, ax_getI, ax_getR, ax_putI, ax_putR, ax_gets, ax_getsT, ax_aldI, ax_aldR, ax_astI, ax_astR, ax_alen, ax_ret, ax_aret, ax_vret, am_st, am_kl, List.getElem?_cons_zero, List.getElem?_cons_succ, List.set_cons_zero, List.set_cons_succ, Value.category, true_and, and_true, if_true, if_false, reduceCtorEq, Bool.false_eq_true, false_implies, forall_const, Option.some.injEq, exists_eq_left', exists_eq_left, Sum.inl.injEq, Sum.inr.injEq, Prod.mk.injEq, nI_toInt, nI_clamp, am_ix_nI, am_ix_0, am_ix_1, am_ix_2, am_ix_3, am_n0, am_n1, am_n2, am_n3, am_n4, am_t0, am_t1, am_t2, am_t3, am_t4, am_tm1, am_nS, am_nP, am_nM, Int.ofNat_lt, Int.ofNat_le, g1, g2, g3, g6]
    exact ⟨fun h => by omega, fun _ => hQ⟩
  | cons e T ih =>
    intro pre n z hT hn hQ
    have hl : Ls.length = pre.length + (T.length + 1) := by rw [hT]; simp
    obtain ⟨a0, a1, a2, a3, a4, a5, a6, a7, a8⟩ := hS9.get (i := pre.length) (e := e) (by rw [hT]; simp)
    refine kX2_differences_83 ?_
    simp (disch := omega) only [ax_const, ax_iload, ax_lload, ax_aload, ax_istore, ax_astore, ax_iinc, ax_i2, ax_i2n, ax_l2, ax_lsh, ax_ii, ax_il, ax_li, ax_pop, ax_dup, ax_dup2, ax_if, ax_cmp, ax_acmp, ax_goto, ax_getI, ax_getR, ax_putI, ax_putR, ax_gets, ax_getsT, ax_aldI, ax_aldR, ax_astI, ax_astR, ax_alen, ax_ret, ax_aret, ax_vret, am_st, am_kl, List.getElem?_cons_zero, List.getElem?_cons_succ, List.set_cons_zero, List.set_cons_succ, Value.category, true_and, and_true, if_true, if_false, reduceCtorEq, Bool.false_eq_true, false_implies, forall_const, Option.some.injEq, exists_eq_left', exists_eq_left, Sum.inl.injEq, Sum.inr.injEq, Prod.mk.injEq, nI_toInt, nI_clamp, am_ix_nI, am_ix_0, am_ix_1, am_ix_2, am_ix_3, am_n0, am_n1, am_n2, am_n3, am_n4, am_t0, am_t1, am_t2, am_t3, am_t4, am_tm1, am_nS, am_nP, am_nM, Int.ofNat_lt, Int.ofNat_le, g1, g2, g3, g6, a1, a4, a5]
    refine ⟨fun _ => ⟨by omega, by decide, ?_⟩, fun h => by omega⟩
    refine am_callK [.ref r, .int e.1] [] (d' := 0) (lim' := (am_tp σ, am_us σ)) rfl (by omega) (Nat.le_refl _) (Nat.le_refl _) rfl (by decide) (am_recv h1) ?_
    refine c_find hR9 (fun _ _ => ?_)
    have hs : xr_sum (xr_mis Lr) (e :: T) = xr_mis Lr e + xr_sum (xr_mis Lr) T := rfl
    rw [hs] at hQ
    have hnx : (pre ++ [e]).length = pre.length + 1 := by simp
    simp (disch := omega) only [ax_const, ax_iload, ax_lload, ax_aload, ax_istore, ax_astore, ax_iinc, ax_i2, ax_i2n, ax_l2, ax_lsh, ax_ii, ax_il, ax_li, ax_pop, ax_dup, ax_dup2, ax_if, ax_cmp, ax_acmp, ax_goto, ax_getI, ax_getR, ax_putI, ax_putR, ax_gets, ax_getsT, ax_aldI, ax_aldR, ax_astI, ax_astR, ax_alen, ax_ret, ax_aret, ax_vret, am_st, am_kl, List.getElem?_cons_zero, List.getElem?_cons_succ, List.set_cons_zero, List.set_cons_succ, Value.category, true_and, and_true, if_true, if_false, reduceCtorEq, Bool.false_eq_true, false_implies, forall_const, Option.some.injEq, exists_eq_left', exists_eq_left, Sum.inl.injEq, Sum.inr.injEq, Prod.mk.injEq, nI_toInt, nI_clamp, am_ix_nI, am_ix_0, am_ix_1, am_ix_2, am_ix_3, am_n0, am_n1, am_n2, am_n3, am_n4, am_t0, am_t1, am_t2, am_t3, am_t4, am_tm1, am_nS, am_nP, am_nM, Int.ofNat_lt, Int.ofNat_le, Option.toList_some, List.cons_append, List.nil_append]
    rcases xr_find_spec e.1 Lr 0 (by omega) with ⟨q1, q2⟩ | ⟨j, f, q0, q1, q2⟩
    · rw [q2]
      have hm : xr_mis Lr e = 1 := by unfold xr_mis; rw [q1]
      rw [hm] at hQ
      refine ⟨fun _ => ?_, fun h => absurd rfl h⟩
      have := ih (pre ++ [e]) (n + 1) z (by rw [hT]; simp) (by simp; omega) (by rw [Nat.add_assoc]; exact hQ)
      rw [hnx] at this
      exact this
    · have hj := (List.getElem?_eq_some_iff.mp q0).1
      rw [q2]
      have hm : xr_mis Lr e = 0 := by unfold xr_mis; rw [q1]
      rw [hm, Nat.zero_add] at hQ
      refine ⟨fun h => absurd h (nI_m1 (by omega)), fun _ => ?_⟩
      have := ih (pre ++ [e]) n z (by rw [hT]; simp) (by simp; omega) hQ
      rw [hnx] at this
      exact this
theorem xr_dif_loop {g : am_G} {l : Launch} {σ : am_S} {d r cap s cap' : Nat} {p p' : Nat → Nat} {Lr Ls : List xr_E} {Q : Option Value → am_S → Prop} (hd : 1 ≤ d) (hR : xr_R σ r cap p Lr) (hS : xr_R σ s cap' p' Ls) : ∀ (T pre : List xr_E) (n : Nat) (z : Option Value), Lr = pre ++ T → n ≤ pre.length → Q (some (.int (nI (n + xr_sum (xr_dif Ls) T + xr_sum (xr_mis Lr) Ls)))) σ →
    am_W g l mX2_differences d (am_tp σ, am_us σ) Q 4 [some (.ref r), some (.ref s), some (.int (nI n)), some (.int (nI pre.length)), z] [] σ := by
  intro T
  have hR9 := hR
  have hS9 := hS
  obtain ⟨h1, h2, h3, h4, h5, h6, h7, h8, h9⟩ := hR
  obtain ⟨g1, g2, g3, g4, g5, g6, g7, g8, g9⟩ := hS
  induction T with
  | nil =>
    intro pre n z hT hn hQ
    have hl : Lr.length = pre.length := by rw [hT]; simp
    refine kX2_differences_4 ?_
    simp (disch := omega) only [ax_const, ax_iload, ax_lload, ax_aload, ax_istore, ax_astore, ax_iinc, ax_i2, ax_i2n, ax_l2, ax_lsh, ax_ii, ax_il, ax_li, ax_pop, ax_dup, ax_dup2, ax_if, ax_cmp, ax_acmp, ax_goto, ax_getI, ax_getR, ax_putI, ax_putR, ax_gets, ax_getsT, ax_aldI, ax_aldR, ax_astI, ax_astR, ax_alen, ax_ret, ax_aret, ax_vret, am_st, am_kl, List.getElem?_cons_zero, List.getElem?_cons_succ, List.set_cons_zero, List.set_cons_succ, Value.category, true_and, and_true, if_true, if_false, reduceCtorEq, Bool.false_eq_true, false_implies, forall_const, Option.some.injEq, exists_eq_left', exists_eq_left, Sum.inl.injEq, Sum.inr.injEq, Prod.mk.injEq, nI_toInt, nI_clamp, am_ix_nI, am_ix_0, am_ix_1, am_ix_2, am_ix_3, am_n0, am_n1, am_n2, am_n3, am_n4, am_t0, am_t1, am_t2, am_t3, am_t4, am_tm1, am_nS, am_nP, am_nM, Int.ofNat_lt, Int.ofNat_le, h1, h2, h3, h6]
    exact ⟨fun h => by omega, fun _ => xr_dif2_loop hd hR9 hS9 Ls [] n z rfl (by simp; omega) hQ⟩
  | cons e T ih =>
    intro pre n z hT hn hQ
    have hl : Lr.length = pre.length + (T.length + 1) := by rw [hT]; simp
    obtain ⟨a0, a1, a2, a3, a4, a5, a6, a7, a8⟩ := hR9.get (i := pre.length) (e := e) (by rw [hT]; simp)
    refine kX2_differences_4 ?_
    simp (disch := omega) only [ax_const, ax_iload, ax_lload, ax_aload, ax_istore, ax_astore, ax_iinc, ax_i2, ax_i2n, ax_l2, ax_lsh, ax_ii, ax_il, ax_li, ax_pop, ax_dup, ax_dup2, ax_if, ax_cmp, ax_acmp, ax_goto, ax_getI, ax_getR, ax_putI, ax_putR, ax_gets, ax_getsT, ax_aldI, ax_aldR, ax_astI, ax_astR, ax_alen, ax_ret, ax_aret, ax_vret, am_st, am_kl, List.getElem?_cons_zero, List.getElem?_cons_succ, List.set_cons_zero, List.set_cons_succ, Value.category, true_and, and_true, if_true, if_false, reduceCtorEq, Bool.false_eq_true, false_implies, forall_const, Option.some.injEq, exists_eq_left', exists_eq_left, Sum.inl.injEq, Sum.inr.injEq, Prod.mk.injEq, nI_toInt, nI_clamp, am_ix_nI, am_ix_0, am_ix_1, am_ix_2, am_ix_3, am_n0, am_n1, am_n2, am_n3, am_n4, am_t0, am_t1, am_t2, am_t3, am_t4, am_tm1, am_nS, am_nP, am_nM, Int.ofNat_lt, Int.ofNat_le, h1, h2, h3, h6, a1, a4, a5]
    refine ⟨fun _ => ⟨by omega, by decide, ?_⟩, fun h => by omega⟩
    refine am_callK [.ref s, .int e.1] [] (d' := 0) (lim' := (am_tp σ, am_us σ)) rfl (by omega) (Nat.le_refl _) (Nat.le_refl _) rfl (by decide) (am_recv g1) ?_
    refine c_find hS9 (fun _ _ => ?_)
    have hs : xr_sum (xr_dif Ls) (e :: T) = xr_dif Ls e + xr_sum (xr_dif Ls) T := rfl
    rw [hs] at hQ
    have hnx : (pre ++ [e]).length = pre.length + 1 := by simp
    simp (disch := omega) only [ax_const, ax_iload, ax_lload, ax_aload, ax_istore, ax_astore, ax_iinc, ax_i2, ax_i2n, ax_l2, ax_lsh, ax_ii, ax_il, ax_li, ax_pop, ax_dup, ax_dup2, ax_if, ax_cmp, ax_acmp, ax_goto, ax_getI, ax_getR, ax_putI, ax_putR, ax_gets, ax_getsT, ax_aldI, ax_aldR, ax_astI, ax_astR, ax_alen, ax_ret, ax_aret, ax_vret, am_st, am_kl, List.getElem?_cons_zero, List.getElem?_cons_succ, List.set_cons_zero, List.set_cons_succ, Value.category, true_and, and_true, if_true, if_false, reduceCtorEq, Bool.false_eq_true, false_implies, forall_const, Option.some.injEq, exists_eq_left', exists_eq_left, Sum.inl.injEq, Sum.inr.injEq, Prod.mk.injEq, nI_toInt, nI_clamp, am_ix_nI, am_ix_0, am_ix_1, am_ix_2, am_ix_3, am_n0, am_n1, am_n2, am_n3, am_n4, am_t0, am_t1, am_t2, am_t3, am_t4, am_tm1, am_nS, am_nP, am_nM, Int.ofNat_lt, Int.ofNat_le, Option.toList_some, List.cons_append, List.nil_append, h1, h2, h6, a1]
    rcases xr_find_spec e.1 Ls 0 (by omega) with ⟨q1, q2⟩ | ⟨j, f, q0, q1, q2⟩
    · rw [q2]
      have hm : xr_dif Ls e = 1 := by unfold xr_dif; rw [q1]
      rw [hm] at hQ
      refine ⟨fun _ => ?_, fun h => absurd rfl h⟩
      have := ih (pre ++ [e]) (n + 1) (some (.int (-1))) (by rw [hT]; simp) (by simp; omega) (by rw [show n + 1 + xr_sum (xr_dif Ls) T = n + (1 + xr_sum (xr_dif Ls) T) by omega]; exact hQ)
      rw [hnx] at this
      exact this
    · have hj := (List.getElem?_eq_some_iff.mp q0).1
      obtain ⟨b0, b1, b2, b3, b4, b5, b6, b7, b8⟩ := hS9.get (i := j) (e := f) q0
      rw [q2, Nat.zero_add]
      refine ⟨fun h => absurd h (nI_m1 (by omega)), fun _ => ?_⟩
      simp (disch := omega) only [nI_toInt, nI_clamp, am_ix_nI, am_ix_0, am_ix_1, am_ix_2, am_ix_3, am_n0, am_n1, am_n2, am_n3, am_n4, am_t0, am_t1, am_t2, am_t3, am_t4, am_tm1, am_nS, am_nP, am_nM, Int.ofNat_lt, Int.ofNat_le, ax_const, ax_iload, ax_lload, ax_aload, ax_istore, ax_astore, ax_iinc, ax_i2, ax_i2n, ax_l2, ax_lsh, ax_ii, ax_il, ax_li, ax_pop, ax_dup, ax_dup2, ax_if, ax_cmp, ax_acmp, ax_goto, ax_getI, ax_getR, ax_putI, ax_putR, ax_gets, ax_getsT, ax_aldI, ax_aldR, ax_astI, ax_astR, ax_alen, ax_ret, ax_aret, ax_vret, am_st, am_kl, List.getElem?_cons_zero, List.getElem?_cons_succ, List.set_cons_zero, List.set_cons_succ, Value.category, true_and, and_true, if_true, if_false, reduceCtorEq, Bool.false_eq_true, false_implies, forall_const, Option.some.injEq, exists_eq_left', exists_eq_left, Sum.inl.injEq, Sum.inr.injEq, Prod.mk.injEq, a4, a6, a7, g1, g2, g6, b1, b4, b6, b7]
      have hm : xr_dif Ls e = if e.2.1 = f.2.1 ∧ e.2.2.1 = f.2.2.1 then 0 else 1 := by unfold xr_dif; rw [q1]
      rw [hm] at hQ
      have go1 : ¬ (e.2.1 = f.2.1 ∧ e.2.2.1 = f.2.2.1) → am_W g l mX2_differences d (am_tp σ, am_us σ) Q 4 [some (.ref r), some (.ref s), some (.int (nI (n + 1))), some (.int (nI (pre.length + 1))), some (.int (nI j))] [] σ := fun hh => by
        rw [if_neg hh] at hQ
        have := ih (pre ++ [e]) (n + 1) (some (.int (nI j))) (by rw [hT]; simp) (by simp; omega) (by rw [show n + 1 + xr_sum (xr_dif Ls) T = n + (1 + xr_sum (xr_dif Ls) T) by omega]; exact hQ)
        rw [hnx] at this
        exact this
      refine ⟨a0, by decide, b0, by decide, fun hv => ⟨a0, by decide, b0, by decide, fun hw => ?_, fun hw => go1 (fun q => hw q.2)⟩, fun hv => go1 (fun q => hv q.1)⟩
      rw [if_pos ⟨hv, hw⟩, Nat.zero_add] at hQ
      have := ih (pre ++ [e]) n (some (.int (nI j))) (by rw [hT]; simp) (by simp; omega) hQ
      rw [hnx] at this
      exact this
/-- Rows.differences -/
theorem c_differences {g : am_G} {l : Launch} {σ : am_S} {r cap s cap' : Nat} {p p' : Nat → Nat} {Lr Ls : List xr_E} {Q : Option Value → am_S → Prop} (hR : xr_R σ r cap p Lr) (hS : xr_R σ s cap' p' Ls) (hQ : Q (some (.int (nI (xr_sum (xr_dif Ls) Lr + xr_sum (xr_mis Lr) Ls)))) σ) : am_C g l mX2_differences 1 (am_tp σ, am_us σ) [.ref r, .ref s] σ Q := by
  refine am_C.go [some (.ref r), some (.ref s), none, none, none] (by decide +kernel) (Nat.le_of_ble_eq_true rfl) rfl (kX2_differences_0 ?_)
  simp (disch := omega) only [ax_const, ax_iload, ax_lload, ax_aload, ax_istore, ax_astore, ax_iinc, ax_i2, ax_i2n, ax_l2, ax_lsh, ax_ii, ax_il, ax_li, ax_pop, ax_dup, ax_dup2, ax_if, ax_cmp, ax_acmp, ax_goto, ax_getI, ax_getR, ax_putI, ax_putR, ax_gets, ax_getsT, ax_aldI, ax_aldR, ax_astI, ax_astR, ax_alen, ax_ret, ax_aret, ax_vret, am_st, am_kl, List.getElem?_cons_zero, List.getElem?_cons_succ, List.set_cons_zero, List.set_cons_succ, Value.category, true_and, and_true, if_true, if_false, reduceCtorEq, Bool.false_eq_true, false_implies, forall_const, Option.some.injEq, exists_eq_left', exists_eq_left, Sum.inl.injEq, Sum.inr.injEq, Prod.mk.injEq, nI_toInt, nI_clamp, am_ix_nI, am_ix_0, am_ix_1, am_ix_2, am_ix_3, am_n0, am_n1, am_n2, am_n3, am_n4, am_t0, am_t1, am_t2, am_t3, am_t4, am_tm1, am_nS, am_nP, am_nM, Int.ofNat_lt, Int.ofNat_le]
  exact xr_dif_loop (Nat.le_refl _) hR hS Lr [] 0 none rfl (Nat.le_refl _) (by rw [Nat.zero_add]; exact hQ)
/-! dominates, covers -/
theorem c_dominates {g : am_G} {l : Launch} {σ : am_S} {a b : Int32} {Q : Option Value → am_S → Prop} (hQ : Q (some (.int (if b &&& (a ^^^ -1) = 0 then 1 else 0))) σ) : am_C g l mX9_dominates 0 (am_tp σ, am_us σ) [.int a, .int b] σ Q := by
  refine am_C.go [some (.int a), some (.int b)] (by decide +kernel) (Nat.le_of_ble_eq_true rfl) rfl (kX9_dominates_0 ?_)
  simp (disch := omega) only [ax_const, ax_iload, ax_lload, ax_aload, ax_istore, ax_astore, ax_iinc, ax_i2, ax_i2n, ax_l2, ax_lsh, ax_ii, ax_il, ax_li, ax_pop, ax_dup, ax_dup2, ax_if, ax_cmp, ax_acmp, ax_goto, ax_getI, ax_getR, ax_putI, ax_putR, ax_gets, ax_getsT, ax_aldI, ax_aldR, ax_astI, ax_astR, ax_alen, ax_ret, ax_aret, ax_vret, am_st, am_kl, List.getElem?_cons_zero, List.getElem?_cons_succ, List.set_cons_zero, List.set_cons_succ, Value.category, true_and, and_true, if_true, if_false, reduceCtorEq, Bool.false_eq_true, false_implies, forall_const, Option.some.injEq, exists_eq_left', exists_eq_left, Sum.inl.injEq, Sum.inr.injEq, Prod.mk.injEq, nI_toInt, nI_clamp, am_ix_nI, am_ix_0, am_ix_1, am_ix_2, am_ix_3, am_n0, am_n1, am_n2, am_n3, am_n4, am_t0, am_t1, am_t2, am_t3, am_t4, am_tm1, am_nS, am_nP, am_nM, Int.ofNat_lt, Int.ofNat_le]
  refine ⟨fun h => ⟨by simp, ?_⟩, fun h => ⟨by simp, ?_⟩⟩
  · rwa [if_pos h] at hQ
  · rwa [if_neg h] at hQ
def xr_cov (e : xr_E) (f : xr_E) : Bool := decide (f.1 = e.1) && (decide (¬ f.2.2.2 = e.2.2.2) && decide (e.2.2.2 &&& (f.2.2.2 ^^^ -1) = 0))
theorem xr_cov_loop {g : am_G} {l : Launch} {σ : am_S} {d r cap a : Nat} {p : Nat → Nat} {Lr : List xr_E} {e : xr_E} {Q : Option Value → am_S → Prop} (hd : 1 ≤ d) (hR : xr_R σ r cap p Lr) (hsa : am_sh σ a = some (.inr (0, 4))) (hea : xr_at σ a e) : ∀ (T pre : List xr_E), Lr = pre ++ T → Q (some (.int (if T.any (xr_cov e) then 1 else 0))) σ →
    am_W g l mX2_covers d (am_tp σ, am_us σ) Q 2 [some (.ref r), some (.ref a), some (.int (nI pre.length))] [] σ := by
  intro T
  have hR9 := hR
  obtain ⟨h1, h2, h3, h4, h5, h6, h7, h8, h9⟩ := hR
  obtain ⟨e0, e1, e2, e3⟩ := hea
  induction T with
  | nil =>
    intro pre hT hQ
    have hl : Lr.length = pre.length := by rw [hT]; simp
    refine kX2_covers_2 ?_
    simp (disch := omega) only [ax_const, ax_iload, ax_lload, ax_aload, ax_istore, ax_astore, ax_iinc, ax_i2, ax_i2n, ax_l2, ax_lsh, ax_ii, ax_il, ax_li, ax_pop, ax_dup, ax_dup2, ax_if, ax_cmp, ax_acmp, ax_goto, ax_getI, ax_getR, ax_putI, ax_putR, ax_gets, ax_getsT, ax_aldI, ax_aldR, ax_astI, ax_astR, ax_alen, ax_ret, ax_aret, ax_vret, am_st, am_kl, List.getElem?_cons_zero, List.getElem?_cons_succ, List.set_cons_zero, List.set_cons_succ, Value.category, true_and, and_true, if_true, if_false, reduceCtorEq, Bool.false_eq_true, false_implies, forall_const, Option.some.injEq, exists_eq_left', exists_eq_left, Sum.inl.injEq, Sum.inr.injEq, Prod.mk.injEq, nI_toInt, nI_clamp, am_ix_nI, am_ix_0, am_ix_1, am_ix_2, am_ix_3, am_n0, am_n1, am_n2, am_n3, am_n4, am_t0, am_t1, am_t2, am_t3, am_t4, am_tm1, am_nS, am_nP, am_nM, Int.ofNat_lt, Int.ofNat_le, h1, h2, h3, h6]
    exact ⟨fun h => by omega, fun _ => ⟨by simp, by simpa using hQ⟩⟩
  | cons f T ih =>
    intro pre hT hQ
    have hl : Lr.length = pre.length + (T.length + 1) := by rw [hT]; simp
    obtain ⟨a0, a1, a2, a3, a4, a5, a6, a7, a8⟩ := hR9.get (i := pre.length) (e := f) (by rw [hT]; simp)
    have hnx : (pre ++ [f]).length = pre.length + 1 := by simp
    refine kX2_covers_2 ?_
    simp (disch := omega) only [ax_const, ax_iload, ax_lload, ax_aload, ax_istore, ax_astore, ax_iinc, ax_i2, ax_i2n, ax_l2, ax_lsh, ax_ii, ax_il, ax_li, ax_pop, ax_dup, ax_dup2, ax_if, ax_cmp, ax_acmp, ax_goto, ax_getI, ax_getR, ax_putI, ax_putR, ax_gets, ax_getsT, ax_aldI, ax_aldR, ax_astI, ax_astR, ax_alen, ax_ret, ax_aret, ax_vret, am_st, am_kl, List.getElem?_cons_zero, List.getElem?_cons_succ, List.set_cons_zero, List.set_cons_succ, Value.category, true_and, and_true, if_true, if_false, reduceCtorEq, Bool.false_eq_true, false_implies, forall_const, Option.some.injEq, exists_eq_left', exists_eq_left, Sum.inl.injEq, Sum.inr.injEq, Prod.mk.injEq, nI_toInt, nI_clamp, am_ix_nI, am_ix_0, am_ix_1, am_ix_2, am_ix_3, am_n0, am_n1, am_n2, am_n3, am_n4, am_t0, am_t1, am_t2, am_t3, am_t4, am_tm1, am_nS, am_nP, am_nM, Int.ofNat_lt, Int.ofNat_le, h1, h2, h3, h6, a1, a4, a5, a8, hsa, e0, e3]
    have go0 : xr_cov e f = false → am_W g l mX2_covers d (am_tp σ, am_us σ) Q 2 [some (.ref r), some (.ref a), some (.int (nI (pre.length + 1)))] [] σ := fun hz => by
      have := ih (pre ++ [f]) (by rw [hT]; simp) (by rw [List.any_cons, hz, Bool.false_or] at hQ; exact hQ)
      rw [hnx] at this
      exact this
    refine ⟨fun _ => ⟨a0, by decide, by decide, fun hk => ⟨a0, by decide, by decide, fun hb => ?_, fun hb => ⟨a0, by decide, by decide, ?_⟩⟩, fun hk => ?_⟩, fun h => by omega⟩
    · exact go0 (by unfold xr_cov; simp [hb])
    · refine am_callK [.int f.2.2.2, .int e.2.2.2] [] (d' := 0) (lim' := (am_tp σ, am_us σ)) rfl (by omega) (Nat.le_refl _) (Nat.le_refl _) rfl (by decide) am_stat ?_
      refine c_dominates (fun _ _ => ?_)
      simp (disch := omega) only [ax_const, ax_iload, ax_lload, ax_aload, ax_istore, ax_astore, ax_iinc, ax_i2, ax_i2n, ax_l2, ax_lsh, ax_ii, ax_il, ax_li, ax_pop, ax_dup, ax_dup2, ax_if, ax_cmp, ax_acmp, ax_goto, ax_getI, ax_getR, ax_putI, ax_putR, ax_gets, ax_getsT, ax_aldI, ax_aldR, ax_astI, ax_astR, ax_alen, ax_ret, ax_aret, ax_vret, am_st, am_kl, List.getElem?_cons_zero, List.getElem?_cons_succ, List.set_cons_zero, List.set_cons_succ, Value.category, true_and, and_true, if_true, if_false, reduceCtorEq, Bool.false_eq_true, false_implies, forall_const, Option.some.injEq, exists_eq_left', exists_eq_left, Sum.inl.injEq, Sum.inr.injEq, Prod.mk.injEq, nI_toInt, nI_clamp, am_ix_nI, am_ix_0, am_ix_1, am_ix_2, am_ix_3, am_n0, am_n1, am_n2, am_n3, am_n4, am_t0, am_t1, am_t2, am_t3, am_t4, am_tm1, am_nS, am_nP, am_nM, Int.ofNat_lt, Int.ofNat_le, Option.toList_some, List.cons_append, List.nil_append]
      by_cases hc : e.2.2.2 &&& (f.2.2.2 ^^^ -1) = 0
      · rw [if_pos hc]
        refine ⟨(fun h => by cases h), fun _ => ⟨by simp, ?_⟩⟩
        rw [List.any_cons, show xr_cov e f = true by unfold xr_cov; rw [decide_eq_true hc]; simp [hk, hb], Bool.true_or, if_pos rfl] at hQ
        exact hQ
      · rw [if_neg hc]
        refine ⟨fun _ => go0 (by unfold xr_cov; rw [decide_eq_false hc]; simp), fun h => absurd rfl h⟩
    · exact go0 (by unfold xr_cov; simp [hk])
/-- Rows.covers -/
theorem c_covers {g : am_G} {l : Launch} {σ : am_S} {r cap a : Nat} {p : Nat → Nat} {Lr : List xr_E} {e : xr_E} {Q : Option Value → am_S → Prop} (hR : xr_R σ r cap p Lr) (hsa : am_sh σ a = some (.inr (0, 4))) (hea : xr_at σ a e) (hQ : Q (some (.int (if Lr.any (xr_cov e) then 1 else 0))) σ) : am_C g l mX2_covers 1 (am_tp σ, am_us σ) [.ref r, .ref a] σ Q := by
  refine am_C.go [some (.ref r), some (.ref a), none] (by decide +kernel) (Nat.le_of_ble_eq_true rfl) rfl (kX2_covers_0 ?_)
  simp (disch := omega) only [ax_const, ax_iload, ax_lload, ax_aload, ax_istore, ax_astore, ax_iinc, ax_i2, ax_i2n, ax_l2, ax_lsh, ax_ii, ax_il, ax_li, ax_pop, ax_dup, ax_dup2, ax_if, ax_cmp, ax_acmp, ax_goto, ax_getI, ax_getR, ax_putI, ax_putR, ax_gets, ax_getsT, ax_aldI, ax_aldR, ax_astI, ax_astR, ax_alen, ax_ret, ax_aret, ax_vret, am_st, am_kl, List.getElem?_cons_zero, List.getElem?_cons_succ, List.set_cons_zero, List.set_cons_succ, Value.category, true_and, and_true, if_true, if_false, reduceCtorEq, Bool.false_eq_true, false_implies, forall_const, Option.some.injEq, exists_eq_left', exists_eq_left, Sum.inl.injEq, Sum.inr.injEq, Prod.mk.injEq, nI_toInt, nI_clamp, am_ix_nI, am_ix_0, am_ix_1, am_ix_2, am_ix_3, am_n0, am_n1, am_n2, am_n3, am_n4, am_t0, am_t1, am_t2, am_t3, am_t4, am_tm1, am_nS, am_nP, am_nM, Int.ofNat_lt, Int.ofNat_le]
  exact xr_cov_loop (Nat.le_refl _) hR hsa hea Lr [] rfl hQ
