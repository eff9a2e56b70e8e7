/-! select: ahead -/
def yah (down : Bool) (K : Nat → Int32) (a b : Nat) : Bool := if K a = K b then decide (a < b) else (decide ((K a).toInt < (K b).toInt) != down)
theorem c_yahead {g : am_G} {l : Launch} {σ : am_S} {m a b : Nat} {down : Bool} {Q : Option Value → am_S → Prop} (hH : ym_H σ m) (ha : a < 40) (hb : b < 40) (hd : am_i σ (m + 27) a ≠ am_i σ (m + 27) b → am_i σ m 36 = yb down) (hQ : Q (some (.int (yb (yah down (am_i σ (m + 27)) a b)))) σ) : am_C g l mX10_ahead 0 (am_tp σ, am_us σ) [.ref m, .int (nI a), .int (nI b)] σ Q := by
  have l35 : am_i σ (m + 27) a ≠ am_i σ (m + 27) b → ∀ x : Bool, yah down (am_i σ (m + 27)) a b = (x != down) → am_W g l mX10_ahead 0 (am_tp σ, am_us σ) Q 35 [some (.ref m), some (.int (nI a)), some (.int (nI b))] [.int (yb x)] σ := by
    intro hne x hx
    have hd := hd hne
    rw [hx] at hQ
    refine kX10_ahead_35 ?_
    simp (disch := omega) only [ax_const, ax_iload, ax_lload, ax_aload, ax_istore, ax_astore, ax_iinc, ax_i2, ax_i2n, ax_l2, ax_lsh, ax_ii, ax_il, ax_li, ax_pop, ax_dup, ax_dup2, ax_if, ax_cmp, ax_acmp, ax_goto, ax_getI, ax_getR, ax_putI, ax_putR, ax_gets, ax_getsT, ax_aldI, ax_aldR, ax_astI, ax_astR, ax_alen, ax_ret, ax_aret, ax_vret, am_st, am_kl, List.getElem?_cons_zero, List.getElem?_cons_succ, List.set_cons_zero, List.set_cons_succ, Value.category, true_and, and_true, if_true, if_false, reduceCtorEq, Bool.false_eq_true, false_implies, forall_const, Option.some.injEq, exists_eq_left', exists_eq_left, Sum.inl.injEq, Sum.inr.injEq, Prod.mk.injEq, hH.1, hd]
    refine ⟨fun z => ⟨Or.inl trivial, ?_⟩, fun z => ⟨Or.inr trivial, ?_⟩⟩
    · have : x = down := by revert z; cases x <;> cases down <;> decide
      rw [this] at hQ
      have e : (down != down) = false := by cases down <;> rfl
      rw [e] at hQ
      exact hQ
    · have : (x != down) = true := by revert z; cases x <;> cases down <;> decide
      rw [this] at hQ
      exact hQ
  refine am_C.go [some (.ref m), some (.int (nI a)), some (.int (nI b))] (by decide +kernel) (Nat.le_of_ble_eq_true rfl) rfl (kX10_ahead_0 ?_)
  simp (disch := omega) only [ax_const, ax_iload, ax_lload, ax_aload, ax_istore, ax_astore, ax_iinc, ax_i2, ax_i2n, ax_l2, ax_lsh, ax_ii, ax_il, ax_li, ax_pop, ax_dup, ax_dup2, ax_if, ax_cmp, ax_acmp, ax_goto, ax_getI, ax_getR, ax_putI, ax_putR, ax_gets, ax_getsT, ax_aldI, ax_aldR, ax_astI, ax_astR, ax_alen, ax_ret, ax_aret, ax_vret, am_st, am_kl, List.getElem?_cons_zero, List.getElem?_cons_succ, List.set_cons_zero, List.set_cons_succ, Value.category, true_and, and_true, if_true, if_false, reduceCtorEq, Bool.false_eq_true, false_implies, forall_const, Option.some.injEq, exists_eq_left', exists_eq_left, Sum.inl.injEq, Sum.inr.injEq, Prod.mk.injEq, nI_toInt, nI_clamp, am_ix_nI, am_ix_0, am_ix_1, am_ix_2, am_ix_3, am_n0, am_n1, am_n2, am_n3, am_n4, am_t0, am_t1, am_t2, am_t3, am_t4, am_tm1, am_nS, am_nP, am_nM, Int.ofNat_lt, Int.ofNat_le, hH.1, hH.r49, hH.s49]
  unfold yah at l35 hQ
  refine ⟨ha, hb, fun e => ?_, fun e => ⟨ha, hb, fun q => ?_, fun q => ?_⟩⟩
  · rw [if_pos e] at hQ
    refine ⟨fun q => ⟨Or.inr trivial, ?_⟩, fun q => ⟨Or.inl trivial, ?_⟩⟩
    · rw [decide_eq_true (by omega)] at hQ; exact hQ
    · rw [decide_eq_false (by omega)] at hQ; exact hQ
  · exact l35 e true (by rw [if_neg e, decide_eq_true q])
  · exact l35 e false (by rw [if_neg e, decide_eq_false q])
/-- the rows of both tables for the columns of a statement -/
def yv2 (T : Nat → Nat) (a b : xr_E) (o : Nat) : Int32 := xr_col (if ykt T o = 0 then a else b) (o % 4)
/-- the found pairs of places -/
def yFd (σ : am_S) (m : Nat) (FL : List (Nat × Nat)) : Prop := am_i σ m 44 = nI FL.length ∧ FL.length ≤ 40 ∧ ∀ (q : Nat) (p : Nat × Nat), FL[q]? = some p → am_i σ (m + 24) q = nI p.1 ∧ am_i σ (m + 25) q = nI p.2
theorem yv2_E {σ : am_S} {m i j : Nat} {T : Nat → Nat} {o : yp_O} {V1 V2 : List xr_E} {a b : xr_E} (h1 : ym_N σ m 0 V1) (h2 : (∃ p, p < 12 ∧ ((2 : Nat), nI p) ∈ o ∧ ykt T p = 1) → ym_N σ m 1 V2 ∧ V2[j]? = some b) (ha : V1[i]? = some a) (e0 : am_i σ (m + 22) 0 = nI i) (e1 : am_i σ (m + 22) 1 = nI j) : ykE σ m T o (yv2 T a b) := by
  intro p hp hm
  have hk := ykt_lt T p
  have hil := (List.getElem?_eq_some_iff.mp ha).1
  obtain ⟨n1, n2, n3⟩ := h1
  unfold yv2
  by_cases c : ykt T p = 0
  · rw [c, if_pos rfl]
    exact ⟨i, e0, by omega, n3 i a ha (p % 4) (Nat.mod_lt _ (by decide))⟩
  · have c1 : ykt T p = 1 := by omega
    obtain ⟨⟨m1, m2, m3⟩, hb⟩ := h2 ⟨p, hp, hm, c1⟩
    have hjl := (List.getElem?_eq_some_iff.mp hb).1
    rw [c1, if_neg (by decide)]
    exact ⟨j, e1, by omega, m3 j b hb (p % 4) (Nat.mod_lt _ (by decide))⟩
