/-! select: hidden, point -/
theorem ylb_and : ∀ a, a < 8 → ∀ b, b < 8 → ((nI a &&& nI b = nI a) ↔ (nI a &&& (nI b ^^^ -1) = 0)) := by decide +kernel
def yLb (V : List xr_E) : Prop := ∀ e, e ∈ V → ∃ o, o < 8 ∧ e.2.2.2 = nI o
theorem xr_cov_and {e f : xr_E} {a b : Nat} (ha : a < 8) (hb : b < 8) (he : e.2.2.2 = nI a) (hf : f.2.2.2 = nI b) : xr_cov e f = (decide (e.1 = f.1) && (!decide (e.2.2.2 = f.2.2.2) && decide (e.2.2.2 &&& f.2.2.2 = e.2.2.2))) := by
  have := ylb_and a ha b hb
  unfold xr_cov
  rw [he, hf]
  have e1 : decide (f.1 = e.1) = decide (e.1 = f.1) := decide_eq_decide.mpr ⟨Eq.symm, Eq.symm⟩
  have e2 : decide (¬ nI b = nI a) = !decide (nI a = nI b) := by
    rw [decide_not]
    congr 1
    exact decide_eq_decide.mpr ⟨Eq.symm, Eq.symm⟩
  rw [e1, e2, decide_eq_decide.mpr this]
theorem yhd_16 {g : am_G} {l : Launch} {σ : am_S} {m pl i d : Nat} {V : List xr_E} {e : xr_E} {Q : Option Value → am_S → Prop} (hH : ym_H σ m) (hN : ym_N σ m pl V) (hpl : pl < 2) (he : V[i]? = some e) (hlb : yLb V) (hQ : Q (some (.int (yb (V.any (xr_cov e))))) σ) :
    ∀ (S pre : List xr_E) (z6 : Option Value), V = pre ++ S → am_W g l mX10_hidden d (am_tp σ, am_us σ) Q 16 [some (.ref m), some (.int (nI pl)), some (.int (nI i)), some (.int (nI (192 * pl + 4 * i))), some (.int (yb (pre.any (xr_cov e)))), some (.int (nI pre.length)), z6] [] σ := by
  obtain ⟨n1, n2, n3⟩ := hN
  have hil := (List.getElem?_eq_some_iff.mp he).1
  obtain ⟨a, ha, hea⟩ := hlb e (List.mem_of_getElem? he)
  intro S
  induction S with
  | nil =>
    intro pre z6 hV
    have hl : V.length = pre.length := by rw [hV]; simp
    have hV : V = pre := by rw [hV]; simp
    subst hV
    have hb01 : yb (V.any (xr_cov e)) = 0 ∨ yb (V.any (xr_cov e)) = 1 := by cases V.any (xr_cov e) <;> decide
    refine kX10_hidden_16 ?_
    simp (disch := omega) only [ax_const, ax_iload, ax_lload, ax_aload, ax_istore, ax_astore, ax_iinc, ax_i2, ax_i2n, ax_l2, ax_lsh, ax_ii, ax_il, ax_li, ax_pop, ax_dup, ax_dup2, ax_if, ax_cmp, ax_acmp, ax_goto, ax_getI, ax_getR, ax_putI, ax_putR, ax_gets, ax_getsT, ax_aldI, ax_aldR, ax_astI, ax_astR, ax_alen, ax_ret, ax_aret, ax_vret, am_st, am_kl, List.getElem?_cons_zero, List.getElem?_cons_succ, List.set_cons_zero, List.set_cons_succ, Value.category, true_and, and_true, if_true, if_false, reduceCtorEq, Bool.false_eq_true, false_implies, forall_const, Option.some.injEq, exists_eq_left', exists_eq_left, Sum.inl.injEq, Sum.inr.injEq, Prod.mk.injEq, nI_toInt, nI_clamp, am_ix_nI, am_ix_0, am_ix_1, am_ix_2, am_ix_3, am_n0, am_n1, am_n2, am_n3, am_n4, am_t0, am_t1, am_t2, am_t3, am_t4, am_tm1, am_nS, am_nP, am_nM, Int.ofNat_lt, Int.ofNat_le, hH.1, hH.r41, hH.s41, n1]
    exact ⟨by omega, fun z => by omega, fun _ => ⟨hb01, hQ⟩⟩
  | cons x S ih =>
    intro pre z6 hV
    have hx : V[pre.length]? = some x := by rw [hV]; simp
    have hl : V.length = pre.length + (S.length + 1) := by rw [hV]; simp
    obtain ⟨b, hb, hxb⟩ := hlb x (List.mem_of_getElem? hx)
    have y192 : (192 : Int32) = nI 192 := rfl
    have y4 : (4 : Int32) = nI 4 := rfl
    have y3 : (3 : Int32) = nI 3 := rfl
    have o1 : ¬ (1 : Int32) = 0 := by decide
    have c0 : am_i σ (m + 20) (192 * pl + 4 * pre.length) = x.1 := n3 _ x hx 0 (by decide)
    have c3 : am_i σ (m + 20) (192 * pl + 4 * pre.length + 3) = x.2.2.2 := n3 _ x hx 3 (by decide)
    have k0 : am_i σ (m + 20) (192 * pl + 4 * i) = e.1 := n3 _ e he 0 (by decide)
    have k3 : am_i σ (m + 20) (192 * pl + 4 * i + 3) = e.2.2.2 := n3 _ e he 3 (by decide)
    have nx : ∀ v z, v = yb ((pre ++ [x]).any (xr_cov e)) → am_W g l mX10_hidden d (am_tp σ, am_us σ) Q 16 [some (.ref m), some (.int (nI pl)), some (.int (nI i)), some (.int (nI (192 * pl + 4 * i))), some (.int v), some (.int (nI (pre.length + 1))), z] [] σ := by
      intro v z ev
      subst ev
      have := ih (pre ++ [x]) z (by rw [hV]; simp)
      rw [List.length_append, List.length_cons, List.length_nil] at this
      exact this
    have hany : (pre ++ [x]).any (xr_cov e) = (pre.any (xr_cov e) || xr_cov e x) := by rw [List.any_append]; simp
    have hcov := xr_cov_and (e := e) (f := x) ha hb hea hxb
    rw [hany] at nx
    refine kX10_hidden_16 ?_
    cases hp : pre.any (xr_cov e) with
    | true =>
      have e1 : yb true = 1 := rfl
      rw [hp, Bool.true_or] at nx
      rw [e1]
      simp (disch := omega) only [ax_const, ax_iload, ax_lload, ax_aload, ax_istore, ax_astore, ax_iinc, ax_i2, ax_i2n, ax_l2, ax_lsh, ax_ii, ax_il, ax_li, ax_pop, ax_dup, ax_dup2, ax_if, ax_cmp, ax_acmp, ax_goto, ax_getI, ax_getR, ax_putI, ax_putR, ax_gets, ax_getsT, ax_aldI, ax_aldR, ax_astI, ax_astR, ax_alen, ax_ret, ax_aret, ax_vret, am_st, am_kl, List.getElem?_cons_zero, List.getElem?_cons_succ, List.set_cons_zero, List.set_cons_succ, Value.category, true_and, and_true, if_true, if_false, reduceCtorEq, Bool.false_eq_true, false_implies, forall_const, Option.some.injEq, exists_eq_left', exists_eq_left, Sum.inl.injEq, Sum.inr.injEq, Prod.mk.injEq, nI_toInt, nI_clamp, am_ix_nI, am_ix_0, am_ix_1, am_ix_2, am_ix_3, am_n0, am_n1, am_n2, am_n3, am_n4, am_t0, am_t1, am_t2, am_t3, am_t4, am_tm1, am_nS, am_nP, am_nM, Int.ofNat_lt, Int.ofNat_le, hH.1, hH.r40, hH.s40, hH.r41, hH.s41, n1, y192, y4, y3, pk_mul, nI_add, o1]
      exact ⟨by omega, fun _ _ => nx 1 _ rfl, fun z => by omega⟩
    | false =>
      have e0 : yb false = 0 := rfl
      rw [hp, Bool.false_or, hcov] at nx
      rw [e0]
      simp (disch := omega) only [ax_const, ax_iload, ax_lload, ax_aload, ax_istore, ax_astore, ax_iinc, ax_i2, ax_i2n, ax_l2, ax_lsh, ax_ii, ax_il, ax_li, ax_pop, ax_dup, ax_dup2, ax_if, ax_cmp, ax_acmp, ax_goto, ax_getI, ax_getR, ax_putI, ax_putR, ax_gets, ax_getsT, ax_aldI, ax_aldR, ax_astI, ax_astR, ax_alen, ax_ret, ax_aret, ax_vret, am_st, am_kl, List.getElem?_cons_zero, List.getElem?_cons_succ, List.set_cons_zero, List.set_cons_succ, Value.category, true_and, and_true, if_true, if_false, reduceCtorEq, Bool.false_eq_true, false_implies, forall_const, Option.some.injEq, exists_eq_left', exists_eq_left, Sum.inl.injEq, Sum.inr.injEq, Prod.mk.injEq, nI_toInt, nI_clamp, am_ix_nI, am_ix_0, am_ix_1, am_ix_2, am_ix_3, am_n0, am_n1, am_n2, am_n3, am_n4, am_t0, am_t1, am_t2, am_t3, am_t4, am_tm1, am_nS, am_nP, am_nM, Int.ofNat_lt, Int.ofNat_le, hH.1, hH.r40, hH.s40, hH.r41, hH.s41, n1, y192, y4, y3, pk_mul, nI_add, c0, c3, k0, k3]
      refine ⟨by omega, fun _ => ⟨⟨by omega, by omega, fun q1 => ⟨by omega, by omega, fun q2 => nx 0 _ ?_, fun q2 => ⟨by omega, by omega, by omega, fun q3 => nx 1 _ ?_, fun q3 => nx 0 _ ?_⟩⟩, fun q1 => nx 0 _ ?_⟩, fun z => absurd trivial z⟩, fun z => by omega⟩
      · rw [decide_eq_true q2]; simp; rfl
      · rw [decide_eq_true q1, decide_eq_false q2, decide_eq_true q3]; rfl
      · rw [decide_eq_false q3]; simp; rfl
      · rw [decide_eq_false q1]; rfl
theorem c_yhidden {g : am_G} {l : Launch} {σ : am_S} {m pl i : Nat} {V : List xr_E} {e : xr_E} {Q : Option Value → am_S → Prop} (hH : ym_H σ m) (hN : ym_N σ m pl V) (hpl : pl < 2) (he : V[i]? = some e) (hlb : yLb V) (hQ : Q (some (.int (yb (V.any (xr_cov e))))) σ) : am_C g l mX10_hidden 0 (am_tp σ, am_us σ) [.ref m, .int (nI pl), .int (nI i)] σ Q := by
  have y192 : (192 : Int32) = nI 192 := rfl
  have y4 : (4 : Int32) = nI 4 := rfl
  refine am_C.go [some (.ref m), some (.int (nI pl)), some (.int (nI i)), none, none, none, none] (by decide +kernel) (Nat.le_of_ble_eq_true rfl) rfl (kX10_hidden_0 ?_)
  simp (disch := omega) only [ax_const, ax_iload, ax_lload, ax_aload, ax_istore, ax_astore, ax_iinc, ax_i2, ax_i2n, ax_l2, ax_lsh, ax_ii, ax_il, ax_li, ax_pop, ax_dup, ax_dup2, ax_if, ax_cmp, ax_acmp, ax_goto, ax_getI, ax_getR, ax_putI, ax_putR, ax_gets, ax_getsT, ax_aldI, ax_aldR, ax_astI, ax_astR, ax_alen, ax_ret, ax_aret, ax_vret, am_st, am_kl, List.getElem?_cons_zero, List.getElem?_cons_succ, List.set_cons_zero, List.set_cons_succ, Value.category, true_and, and_true, if_true, if_false, reduceCtorEq, Bool.false_eq_true, false_implies, forall_const, Option.some.injEq, exists_eq_left', exists_eq_left, Sum.inl.injEq, Sum.inr.injEq, Prod.mk.injEq, nI_toInt, nI_clamp, am_ix_nI, am_ix_0, am_ix_1, am_ix_2, am_ix_3, am_n0, am_n1, am_n2, am_n3, am_n4, am_t0, am_t1, am_t2, am_t3, am_t4, am_tm1, am_nS, am_nP, am_nM, Int.ofNat_lt, Int.ofNat_le, y192, y4, pk_mul, nI_add]
  exact yhd_16 hH hN hpl he hlb hQ V [] none rfl
theorem c_ypoint {g : am_G} {l : Launch} {σ : am_S} {m q a b : Nat} {Q : Option Value → am_S → Prop} (hH : ym_H σ m) (hq : q < 40) (ha : am_i σ (m + 24) q = nI a) (hb : am_i σ (m + 25) q = nI b) (hQ : ∀ σ', am_i σ' (m + 22) 0 = nI a → am_i σ' (m + 22) 1 = nI b → ym_f (fun b => b = m + 22) σ σ' → Q none σ') : am_C g l mX10_point 0 (am_tp σ, am_us σ) [.ref m, .int (nI q)] σ Q := by
  refine am_C.go [some (.ref m), some (.int (nI q))] (by decide +kernel) (Nat.le_of_ble_eq_true rfl) rfl (kX10_point_0 ?_)
  simp (disch := omega) only [ax_const, ax_iload, ax_lload, ax_aload, ax_istore, ax_astore, ax_iinc, ax_i2, ax_i2n, ax_l2, ax_lsh, ax_ii, ax_il, ax_li, ax_pop, ax_dup, ax_dup2, ax_if, ax_cmp, ax_acmp, ax_goto, ax_getI, ax_getR, ax_putI, ax_putR, ax_gets, ax_getsT, ax_aldI, ax_aldR, ax_astI, ax_astR, ax_alen, ax_ret, ax_aret, ax_vret, am_st, am_kl, List.getElem?_cons_zero, List.getElem?_cons_succ, List.set_cons_zero, List.set_cons_succ, Value.category, true_and, and_true, if_true, if_false, reduceCtorEq, Bool.false_eq_true, false_implies, forall_const, Option.some.injEq, exists_eq_left', exists_eq_left, Sum.inl.injEq, Sum.inr.injEq, Prod.mk.injEq, nI_toInt, nI_clamp, am_ix_nI, am_ix_0, am_ix_1, am_ix_2, am_ix_3, am_n0, am_n1, am_n2, am_n3, am_n4, am_t0, am_t1, am_t2, am_t3, am_t4, am_tm1, am_nS, am_nP, am_nM, Int.ofNat_lt, Int.ofNat_le, am_sh_wi, am_r_wi, am_tp_wi, am_us_wi, ym_is, ym_io, ym_ij, hH.1, hH.r42, hH.s42, hH.r46, hH.s46, hH.r47, hH.s47, ha, hb]
  exact ⟨hq, by decide, hq, by decide, hQ _ (by rw [ym_ij (by decide)]; exact ym_is) ym_is (((ym_f.rf (P := fun b => b = m + 22)).wi (a := m + 22) rfl).wi (a := m + 22) rfl)⟩
