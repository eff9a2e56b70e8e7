/-! split, clear, and what a statement's reading begins with -/
theorem c_ysplit {g : am_G} {l : Launch} {σ : am_S} {m i : Nat} {dr : List Nat} {Q : Option Value → am_S → Prop} (hH : ym_H σ m) (hD : ysD σ m i dr) (h11 : am_i σ m 11 = 0) (h13 : am_i σ m 13 = 0)
    (hQ : ∀ σ' b, am_i σ' m 13 = yb b → (b = false → am_i σ' m 11 = nI (xn_sc dr 0).length ∧ yb_T σ' m (xn_sc dr 0 ++ [(36, 0)])) → ysP b (xn_sc dr 0) → ysF m σ σ' → Q none σ') : am_C g l mX10_split 1 (am_tp σ, am_us σ) [.ref m, .int (nI i)] σ Q := by
  have hi := hD.1
  have hl := hD.2.1
  have e9 := hD.2.2.1
  have y80 : (80 : Int32) = nI 80 := rfl
  refine am_C.go [some (.ref m), some (.int (nI i)), none, none, none, none, none, none] (by decide +kernel) (Nat.le_of_ble_eq_true rfl) rfl (kX10_split_0 ?_)
  simp (disch := omega) only [ax_const, ax_iload, ax_lload, ax_aload, ax_istore, ax_astore, ax_iinc, ax_i2, ax_i2n, ax_l2, ax_lsh, ax_ii, ax_il, ax_li, ax_pop, ax_dup, ax_dup2, ax_if, ax_cmp, ax_acmp, ax_goto, ax_getI, ax_getR, ax_putI, ax_putR, ax_gets, ax_getsT, ax_aldI, ax_aldR, ax_astI, ax_astR, ax_alen, ax_ret, ax_aret, ax_vret, am_st, am_kl, List.getElem?_cons_zero, List.getElem?_cons_succ, List.set_cons_zero, List.set_cons_succ, Value.category, true_and, and_true, if_true, if_false, reduceCtorEq, Bool.false_eq_true, false_implies, forall_const, Option.some.injEq, exists_eq_left', exists_eq_left, Sum.inl.injEq, Sum.inr.injEq, Prod.mk.injEq, nI_toInt, nI_clamp, am_ix_nI, am_ix_0, am_ix_1, am_ix_2, am_ix_3, am_n0, am_n1, am_n2, am_n3, am_n4, am_t0, am_t1, am_t2, am_t3, am_t4, am_tm1, am_nS, am_nP, am_nM, Int.ofNat_lt, Int.ofNat_le, hH.1, hH.r8, hH.s8, e9, y80, pk_mul, nI_add]
  refine ⟨hi, ?_⟩
  exact ysp_14 (σ0 := σ) (Nat.le_refl _) hH hD (fun σ' b cnt g1 g2 g3 g4 g5 => hQ σ' b g2 (fun q => by
    obtain ⟨a1, a2, a3⟩ := g3 q
    rw [← a1]
    exact ⟨g1, a3⟩) g4 g5) (dr.length + 1) dr [] [] false 0 σ none none none none (Nat.lt_succ_self _) rfl rfl (Nat.le_refl _) ⟨h11, h13, fun _ => ⟨rfl, fun j t o hj => by simp at hj⟩⟩ (fun q => by cases q) .rf
/-- what clear sets to nought -/
def ycl (k : Nat) : Prop := k = 11 ∨ k = 12 ∨ k = 13 ∨ k = 18 ∨ k = 20 ∨ k = 22 ∨ k = 25 ∨ k = 27 ∨ (32 ≤ k ∧ k ≤ 36)
def ycF (m : Nat) (σ σ' : am_S) : Prop := ym_f (fun b => b = m) σ σ' ∧ (∀ k, ycl k → am_i σ' m k = 0) ∧ ∀ k, ¬ ycl k → am_i σ' m k = am_i σ m k
theorem c_yclear {g : am_G} {l : Launch} {σ : am_S} {m : Nat} {Q : Option Value → am_S → Prop} (hH : ym_H σ m) (hQ : ∀ σ', ycF m σ σ' → Q none σ') : am_C g l mX10_clear 0 (am_tp σ, am_us σ) [.ref m] σ Q := by
  refine am_C.go [some (.ref m)] (by decide +kernel) (Nat.le_of_ble_eq_true rfl) rfl (kX10_clear_0 ?_)
  simp (disch := omega) only [ax_const, ax_iload, ax_lload, ax_aload, ax_istore, ax_astore, ax_iinc, ax_i2, ax_i2n, ax_l2, ax_lsh, ax_ii, ax_il, ax_li, ax_pop, ax_dup, ax_dup2, ax_if, ax_cmp, ax_acmp, ax_goto, ax_getI, ax_getR, ax_putI, ax_putR, ax_gets, ax_getsT, ax_aldI, ax_aldR, ax_astI, ax_astR, ax_alen, ax_ret, ax_aret, ax_vret, am_st, am_kl, List.getElem?_cons_zero, List.getElem?_cons_succ, List.set_cons_zero, List.set_cons_succ, Value.category, true_and, and_true, if_true, if_false, reduceCtorEq, Bool.false_eq_true, false_implies, forall_const, Option.some.injEq, exists_eq_left', exists_eq_left, Sum.inl.injEq, Sum.inr.injEq, Prod.mk.injEq, am_sh_wi, am_r_wi, am_tp_wi, am_us_wi, ym_is, ym_io, ym_ij, hH.1]
  refine ⟨Or.inl trivial, kX10_clear_37 ?_⟩
  simp (disch := omega) only [ax_const, ax_iload, ax_lload, ax_aload, ax_istore, ax_astore, ax_iinc, ax_i2, ax_i2n, ax_l2, ax_lsh, ax_ii, ax_il, ax_li, ax_pop, ax_dup, ax_dup2, ax_if, ax_cmp, ax_acmp, ax_goto, ax_getI, ax_getR, ax_putI, ax_putR, ax_gets, ax_getsT, ax_aldI, ax_aldR, ax_astI, ax_astR, ax_alen, ax_ret, ax_aret, ax_vret, am_st, am_kl, List.getElem?_cons_zero, List.getElem?_cons_succ, List.set_cons_zero, List.set_cons_succ, Value.category, true_and, and_true, if_true, if_false, reduceCtorEq, Bool.false_eq_true, false_implies, forall_const, Option.some.injEq, exists_eq_left', exists_eq_left, Sum.inl.injEq, Sum.inr.injEq, Prod.mk.injEq, am_sh_wi, am_r_wi, am_tp_wi, am_us_wi, ym_is, ym_io, ym_ij, hH.1]
  refine ⟨Or.inl trivial, Or.inl trivial, Or.inl trivial, Or.inl trivial, Or.inl trivial, hQ _ ⟨?_, fun k hk => ?_, fun k hk => ?_⟩⟩
  · repeat (first | exact ym_f.rf | refine ym_f.wi ?_ rfl)
  · unfold ycl at hk
    have hk : k = 11 ∨ k = 12 ∨ k = 13 ∨ k = 18 ∨ k = 20 ∨ k = 22 ∨ k = 25 ∨ k = 27 ∨ k = 32 ∨ k = 33 ∨ k = 34 ∨ k = 35 ∨ k = 36 := by omega
    rcases hk with rfl | rfl | rfl | rfl | rfl | rfl | rfl | rfl | rfl | rfl | rfl | rfl | rfl <;> simp (disch := decide) only [ym_is, ym_ij]
  · unfold ycl at hk
    simp (disch := omega) only [ym_ij]
/-- the waiting signs, as a reading leaves them -/
def ym_q (σ : am_S) (m : Nat) : Prop := ∃ (W : List Nat) (w : Bool), yb_w σ m W ∧ (∀ x, x ∈ W → 3 ≤ x ∧ x ≤ 13) ∧ am_i σ m 23 = yb w
theorem ym_q.of {σ : am_S} {m : Nat} {ts : List (Nat × Int32)} {S : ys_S} {W : List Nat} {ns : Int32} {w : Bool} (h : yZR σ m ts S W ns w) : ym_q σ m := by
  obtain ⟨⟨hH, hT, hP, hW, hHH⟩, hR⟩ := h
  exact ⟨W, w, hP.2.2.2.1, hW, hP.2.2.2.2.2.2.2⟩
theorem nI_nz (x : Int32) : nI x.toBitVec.toNat = x := by
  show Int32.ofNat x.toBitVec.toNat = x
  apply Int32.toBitVec_inj.mp
  show BitVec.ofNat 32 x.toBitVec.toNat = x.toBitVec
  simp
def yT0 (σ : am_S) (m q : Nat) : Nat :=
  (if q = 0 then am_i σ m 25 else if q = 1 then am_i σ (m + 16) 0 else if q = 2 then am_i σ (m + 16) 1 else if q = 3 then am_i σ m 26 else if q = 4 then am_i σ m 27 else if q < 9 then am_i σ (m + 17) (q - 5) else if q < 13 then am_i σ (m + 18) (q - 9) else if q < 17 then am_i σ (m + 19) (q - 13) else if q = 17 then am_i σ m 32 else if q = 18 then am_i σ m 37 else if q = 19 then am_i σ m 38 else if q = 20 then am_i σ m 33 else if q = 21 then am_i σ m 34 else if q = 22 then am_i σ m 35 else if q = 23 then am_i σ m 36 else am_i σ m 39).toBitVec.toNat
theorem yR.any (σ : am_S) (m : Nat) : yR σ m (yT0 σ m) := by
  refine ⟨(nI_nz _).symm, fun j hj => ?_, (nI_nz _).symm, (nI_nz _).symm, fun j hj => ⟨?_, ?_, ?_⟩, (nI_nz _).symm, (nI_nz _).symm, (nI_nz _).symm, (nI_nz _).symm, (nI_nz _).symm, (nI_nz _).symm, (nI_nz _).symm, (nI_nz _).symm⟩
  · have : j = 0 ∨ j = 1 := by omega
    rcases this with rfl | rfl <;> exact (nI_nz _).symm
  · have : j = 0 ∨ j = 1 ∨ j = 2 ∨ j = 3 := by omega
    rcases this with rfl | rfl | rfl | rfl <;> exact (nI_nz _).symm
  · have : j = 0 ∨ j = 1 ∨ j = 2 ∨ j = 3 := by omega
    rcases this with rfl | rfl | rfl | rfl <;> exact (nI_nz _).symm
  · have : j = 0 ∨ j = 1 ∨ j = 2 ∨ j = 3 := by omega
    rcases this with rfl | rfl | rfl | rfl <;> exact (nI_nz _).symm
