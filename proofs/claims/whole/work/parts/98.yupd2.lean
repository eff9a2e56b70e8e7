/-! updated: on the machine -/
theorem ym_P.setc {σ : am_S} {m p j : Nat} {P : Nat → List xr_E} {f f' : xr_E} (h : ym_P σ m P) (hp : p < 32) (hj : (P p)[j]? = some f) (h1 : f'.1 = f.1) : ym_P (am_wi (am_wi σ (m + 4) (6 * p + j) f'.2.1) (m + 5) (6 * p + j) f'.2.2.1) m (fun i => if i = p then (P p).set j f' else P i) := by
  intro q hq
  obtain ⟨g1, g2, g3⟩ := h q hq
  have hjl := (List.getElem?_eq_some_iff.mp hj).1
  have hj6 : j < 6 := by have := (h p hp).2.1; omega
  have e4 : ∀ i, am_i (am_wi (am_wi σ (m + 4) (6 * p + j) f'.2.1) (m + 5) (6 * p + j) f'.2.2.1) (m + 4) i = if i = 6 * p + j then f'.2.1 else am_i σ (m + 4) i := fun i => by
    rw [ym_io (by omega)]
    by_cases c : i = 6 * p + j
    · rw [c, if_pos rfl, ym_is]
    · rw [if_neg c, ym_ij c]
  have e5 : ∀ i, am_i (am_wi (am_wi σ (m + 4) (6 * p + j) f'.2.1) (m + 5) (6 * p + j) f'.2.2.1) (m + 5) i = if i = 6 * p + j then f'.2.2.1 else am_i σ (m + 5) i := fun i => by
    by_cases c : i = 6 * p + j
    · rw [c, if_pos rfl, ym_is]
    · rw [if_neg c, ym_ij c, ym_io (by omega)]
  refine ⟨?_, ?_, fun i e hi => ?_⟩
  · rw [ym_io (by omega), ym_io (by omega), g1]
    dsimp only
    split
    · rename_i c; rw [c, List.length_set]
    · rfl
  · dsimp only
    split
    · rename_i c; rw [c] at g2; rw [List.length_set]; exact g2
    · exact g2
  · rw [e4, e5, ym_io (by omega), ym_io (by omega)]
    dsimp only at hi
    by_cases c : q = p
    · subst c
      rw [if_pos rfl, List.getElem?_set] at hi
      by_cases c2 : j = i
      · subst c2
        rw [if_pos rfl, if_pos hjl, Option.some.injEq] at hi
        subst hi
        rw [if_pos rfl, if_pos rfl, h1]
        exact ⟨(g3 j f hj).1, rfl, rfl⟩
      · rw [if_neg c2] at hi
        rw [if_neg (by omega), if_neg (by omega)]
        exact g3 i e hi
    · rw [if_neg c] at hi
      have hi6 : i < 6 := by have := (List.getElem?_eq_some_iff.mp hi).1; omega
      rw [if_neg (by omega), if_neg (by omega)]
      exact g3 i e hi
/-- the first term over a row -/
def yUv (T : Nat → Nat) (o cv : yp_O) (val : xr_E → Int32) : Prop := yz o (T 9) (T 13) cv ∧ ∀ e, ym_run (yv1 e) cv [] = some [val e]
theorem yup_178 {g : am_G} {l : Launch} {σ0 σ : am_S} {m d p i lab c col : Nat} {T : Nat → Nat} {o cm cv : yp_O} {V L : List xr_E} {B : xr_E → Bool} {val : xr_E → Int32} {P : Nat → List xr_E} {x : xr_E} {x3 x6 x7 : Int32} {z8 z9 : Option Value} {Q : Option Value → am_S → Prop} (hd : 2 ≤ d) (hp : yUp T o cm B) (hv : yUv T o cv val) (hcol : T 3 = col ∧ (col = 1 ∨ col = 2)) (h0 : yUs σ0 m T o V) (hpt : p < 32) (hx : V[i]? = some x) (ha : am_i σ (m + 22) 0 = nI i) (hP : ym_P σ m (fun q => if q = p then L else P q)) (hss : xo_ss L) (hk : ∃ f, f ∈ L ∧ f.1 = x.1) (hf : yuG m σ0 σ)
    (hQ : ∀ σ' z8' z9', ym_P σ' m (fun q => if q = p then xo_chg x.1 col (val x) L else P q) → yuG m σ0 σ' → am_W g l mX10_updated d (am_tp σ0, am_us σ0) Q 70 [some (.ref m), some (.int (nI p)), some (.int (nI lab)), some (.int x3), some (.int (nI (c + 1))), some (.int (nI (i + 1))), some (.int x6), some (.int x7), z8', z9'] [] σ') :
    am_W g l mX10_updated d (am_tp σ0, am_us σ0) Q 178 [some (.ref m), some (.int (nI p)), some (.int (nI lab)), some (.int x3), some (.int (nI c)), some (.int (nI i)), some (.int x6), some (.int x7), z8, z9] [] σ := by
  have h := h0.g hf
  have hH := h.1
  obtain ⟨n1, n2, n3⟩ := h.2.2.2
  have hil := (List.getElem?_eq_some_iff.mp hx).1
  obtain ⟨f, hf1, hf2⟩ := hk
  obtain ⟨A, R, hL⟩ := List.append_of_mem hf1
  subst hL
  have hmid := xo_ss_mid hss
  rw [hf2] at hmid
  have hPp : (fun q => if q = p then A ++ f :: R else P q) p = A ++ f :: R := if_pos rfl
  have hAj : ((fun q => if q = p then A ++ f :: R else P q) p)[A.length]? = some f := by rw [hPp]; simp
  have hA6 : A.length < 6 := by
    have := (hP p hpt).2.1
    rw [hPp, List.length_append, List.length_cons] at this
    omega
  have y4 : (4 : Int32) = nI 4 := rfl
  have cx0 : am_i σ (m + 20) (4 * i) = x.1 := by have := n3 i x hx 0 (by decide); rwa [show 192 * 0 + 4 * i + 0 = 4 * i by omega] at this
  refine kX10_updated_178 ?_
  simp (disch := omega) only [ax_const, ax_iload, ax_lload, ax_aload, ax_istore, ax_astore, ax_iinc, ax_i2, ax_i2n, ax_l2, ax_lsh, ax_ii, ax_il, ax_li, ax_pop, ax_dup, ax_dup2, ax_if, ax_cmp, ax_acmp, ax_goto, ax_getI, ax_getR, ax_putI, ax_putR, ax_gets, ax_getsT, ax_aldI, ax_aldR, ax_astI, ax_astR, ax_alen, ax_ret, ax_aret, ax_vret, am_st, am_kl, List.getElem?_cons_zero, List.getElem?_cons_succ, List.set_cons_zero, List.set_cons_succ, Value.category, true_and, and_true, if_true, if_false, reduceCtorEq, Bool.false_eq_true, false_implies, forall_const, Option.some.injEq, exists_eq_left', exists_eq_left, Sum.inl.injEq, Sum.inr.injEq, Prod.mk.injEq, nI_toInt, nI_clamp, am_ix_nI, am_ix_0, am_ix_1, am_ix_2, am_ix_3, am_n0, am_n1, am_n2, am_n3, am_n4, am_t0, am_t1, am_t2, am_t3, am_t4, am_tm1, am_nS, am_nP, am_nM, Int.ofNat_lt, Int.ofNat_le, hH.1, hH.r40, hH.s40, y4, pk_mul, cx0]
  refine ⟨by omega, ?_⟩
  refine am_callK [.ref m, .int (nI p), .int x.1] [] (d' := 0) (lim' := (am_tp σ, am_us σ)) rfl (by omega) (Nat.le_of_eq hf.tp) (Nat.le_of_eq hf.us) rfl (Nat.le_of_ble_eq_true rfl) (am_recv hH.1) ?_
  refine c_yfind hH hP hpt (fun _ _ => ?_)
  rw [if_pos rfl, xr_find_at hf2 A _ hmid]
  obtain ⟨r1, r2, r3⟩ := h.2.1.2.2.2.2.1 0 (by decide)
  simp (disch := omega) only [ax_const, ax_iload, ax_lload, ax_aload, ax_istore, ax_astore, ax_iinc, ax_i2, ax_i2n, ax_l2, ax_lsh, ax_ii, ax_il, ax_li, ax_pop, ax_dup, ax_dup2, ax_if, ax_cmp, ax_acmp, ax_goto, ax_getI, ax_getR, ax_putI, ax_putR, ax_gets, ax_getsT, ax_aldI, ax_aldR, ax_astI, ax_astR, ax_alen, ax_ret, ax_aret, ax_vret, am_st, am_kl, List.getElem?_cons_zero, List.getElem?_cons_succ, List.set_cons_zero, List.set_cons_succ, Value.category, true_and, and_true, if_true, if_false, reduceCtorEq, Bool.false_eq_true, false_implies, forall_const, Option.some.injEq, exists_eq_left', exists_eq_left, Sum.inl.injEq, Sum.inr.injEq, Prod.mk.injEq, Option.toList_some, Option.toList_none, List.cons_append, List.nil_append, List.append_nil, nI_toInt, nI_clamp, am_ix_nI, am_ix_0, am_ix_1, am_ix_2, am_ix_3, am_n0, am_n1, am_n2, am_n3, am_n4, am_t0, am_t1, am_t2, am_t3, am_t4, am_tm1, am_nS, am_nP, am_nM, Int.ofNat_lt, Int.ofNat_le, hH.1, hH.r30, hH.s30, hH.r31, hH.s31, r2, r3, Nat.add_zero]
  refine ⟨by decide, by decide, ?_⟩
  refine am_callK [.ref m, .int (nI (T 9)), .int (nI (T 13))] [] (d' := 1) (lim' := (am_tp σ, am_us σ)) rfl (by omega) (Nat.le_of_eq hf.tp) (Nat.le_of_eq hf.us) rfl (Nat.le_of_ble_eq_true rfl) (am_recv hH.1) ?_
  refine c_ywork hH hp.1 h.2.2.1 hp.2.1 hp.2.2.1 (h.E hp hx ha) hv.1 (hv.2 x) (fun σ1 f1 t1 u1 => ?_)
  have hf1' : yuG m σ0 σ1 := hf.tr (yuG.of (f1.mono (fun b x => Or.inr x)))
  have h1 := h0.g hf1'
  have hH1 := h1.1
  have hP1 := hP.u (f1.mono (fun b x => Or.inr x))
  obtain ⟨p1, p2, p3⟩ := hP1 p hpt
  obtain ⟨q1, q2, q3⟩ := p3 A.length f hAj
  have e26 : am_i σ1 m 26 = nI col := by rw [h1.2.1.2.2.1, hcol.1]
  have fin : ∀ v w, v = (xo_set col (val x) f).2.1 → w = (xo_set col (val x) f).2.2.1 → am_W g l mX10_updated d (am_tp σ0, am_us σ0) Q 70 [some (.ref m), some (.int (nI p)), some (.int (nI lab)), some (.int x3), some (.int (nI (c + 1))), some (.int (nI (i + 1))), some (.int x6), some (.int x7), some (.int (nI (6 * p + A.length))), some (.int (val x))] [] (am_wi (am_wi σ1 (m + 4) (6 * p + A.length) v) (m + 5) (6 * p + A.length) w) := by
    intro v w ev ew
    subst ev ew
    refine hQ _ _ _ ((hP1.setc hpt hAj (xo_set_key hcol.2)).ext (fun q => ?_)) ((hf1'.wi (a := m + 4) (Or.inl (by omega))).wi (a := m + 5) (Or.inl (by omega)))
    by_cases cq : q = p
    · rw [if_pos cq, if_pos cq, if_pos rfl, ← xo_set_map (j := A.length) (f := f) hss (by simp) hf2]
    · rw [if_neg cq, if_neg cq, if_neg cq]
  have l238 : ∀ v, v = (xo_set col (val x) f).2.1 → am_W g l mX10_updated d (am_tp σ0, am_us σ0) Q 238 [some (.ref m), some (.int (nI p)), some (.int (nI lab)), some (.int x3), some (.int (nI c)), some (.int (nI i)), some (.int x6), some (.int x7), some (.int (nI (6 * p + A.length))), some (.int (val x))] [.int v, .int (nI (6 * p + A.length)), .ref (m + 4)] σ1 := by
    intro v ev
    refine kX10_updated_238 ?_
    rcases hcol.2 with rfl | rfl
    · have o12 : ¬ nI 1 = nI 2 := by decide
      simp (disch := omega) only [ax_const, ax_iload, ax_lload, ax_aload, ax_istore, ax_astore, ax_iinc, ax_i2, ax_i2n, ax_l2, ax_lsh, ax_ii, ax_il, ax_li, ax_pop, ax_dup, ax_dup2, ax_if, ax_cmp, ax_acmp, ax_goto, ax_getI, ax_getR, ax_putI, ax_putR, ax_gets, ax_getsT, ax_aldI, ax_aldR, ax_astI, ax_astR, ax_alen, ax_ret, ax_aret, ax_vret, am_st, am_kl, List.getElem?_cons_zero, List.getElem?_cons_succ, List.set_cons_zero, List.set_cons_succ, Value.category, true_and, and_true, if_true, if_false, reduceCtorEq, Bool.false_eq_true, false_implies, forall_const, Option.some.injEq, exists_eq_left', exists_eq_left, Sum.inl.injEq, Sum.inr.injEq, Prod.mk.injEq, nI_toInt, nI_clamp, am_ix_nI, am_ix_0, am_ix_1, am_ix_2, am_ix_3, am_n0, am_n1, am_n2, am_n3, am_n4, am_t0, am_t1, am_t2, am_t3, am_t4, am_tm1, am_nS, am_nP, am_nM, Int.ofNat_lt, Int.ofNat_le, am_sh_wi, am_r_wi, am_tp_wi, am_us_wi, ym_is, ym_io, ym_ij, hH1.1, hH1.r4, hH1.s4, hH1.s3, e26, yl_2, o12, q3]
      exact ⟨by omega, fun _ => ⟨by omega, by omega, fin _ _ ev rfl⟩⟩
    · simp (disch := omega) only [ax_const, ax_iload, ax_lload, ax_aload, ax_istore, ax_astore, ax_iinc, ax_i2, ax_i2n, ax_l2, ax_lsh, ax_ii, ax_il, ax_li, ax_pop, ax_dup, ax_dup2, ax_if, ax_cmp, ax_acmp, ax_goto, ax_getI, ax_getR, ax_putI, ax_putR, ax_gets, ax_getsT, ax_aldI, ax_aldR, ax_astI, ax_astR, ax_alen, ax_ret, ax_aret, ax_vret, am_st, am_kl, List.getElem?_cons_zero, List.getElem?_cons_succ, List.set_cons_zero, List.set_cons_succ, Value.category, true_and, and_true, if_true, if_false, reduceCtorEq, Bool.false_eq_true, false_implies, forall_const, Option.some.injEq, exists_eq_left', exists_eq_left, Sum.inl.injEq, Sum.inr.injEq, Prod.mk.injEq, nI_toInt, nI_clamp, am_ix_nI, am_ix_0, am_ix_1, am_ix_2, am_ix_3, am_n0, am_n1, am_n2, am_n3, am_n4, am_t0, am_t1, am_t2, am_t3, am_t4, am_tm1, am_nS, am_nP, am_nM, Int.ofNat_lt, Int.ofNat_le, am_sh_wi, am_r_wi, am_tp_wi, am_us_wi, ym_is, ym_io, ym_ij, hH1.1, hH1.r4, hH1.s4, hH1.s3, e26, yl_2, q3]
      exact ⟨by omega, ⟨by omega, fin _ _ ev rfl⟩, fun z => absurd trivial z⟩
  simp (disch := omega) only [ax_const, ax_iload, ax_lload, ax_aload, ax_istore, ax_astore, ax_iinc, ax_i2, ax_i2n, ax_l2, ax_lsh, ax_ii, ax_il, ax_li, ax_pop, ax_dup, ax_dup2, ax_if, ax_cmp, ax_acmp, ax_goto, ax_getI, ax_getR, ax_putI, ax_putR, ax_gets, ax_getsT, ax_aldI, ax_aldR, ax_astI, ax_astR, ax_alen, ax_ret, ax_aret, ax_vret, am_st, am_kl, List.getElem?_cons_zero, List.getElem?_cons_succ, List.set_cons_zero, List.set_cons_succ, Value.category, true_and, and_true, if_true, if_false, reduceCtorEq, Bool.false_eq_true, false_implies, forall_const, Option.some.injEq, exists_eq_left', exists_eq_left, Sum.inl.injEq, Sum.inr.injEq, Prod.mk.injEq, Option.toList_some, Option.toList_none, List.cons_append, List.nil_append, List.append_nil, nI_toInt, nI_clamp, am_ix_nI, am_ix_0, am_ix_1, am_ix_2, am_ix_3, am_n0, am_n1, am_n2, am_n3, am_n4, am_t0, am_t1, am_t2, am_t3, am_t4, am_tm1, am_nS, am_nP, am_nM, Int.ofNat_lt, Int.ofNat_le, hH1.1, hH1.r3, hH1.s3]
  refine kX10_updated_216 ?_
  have y1 : (1 : Int32) = nI 1 := rfl
  rcases hcol.2 with rfl | rfl
  · simp (disch := omega) only [ax_const, ax_iload, ax_lload, ax_aload, ax_istore, ax_astore, ax_iinc, ax_i2, ax_i2n, ax_l2, ax_lsh, ax_ii, ax_il, ax_li, ax_pop, ax_dup, ax_dup2, ax_if, ax_cmp, ax_acmp, ax_goto, ax_getI, ax_getR, ax_putI, ax_putR, ax_gets, ax_getsT, ax_aldI, ax_aldR, ax_astI, ax_astR, ax_alen, ax_ret, ax_aret, ax_vret, am_st, am_kl, List.getElem?_cons_zero, List.getElem?_cons_succ, List.set_cons_zero, List.set_cons_succ, Value.category, true_and, and_true, if_true, if_false, reduceCtorEq, Bool.false_eq_true, false_implies, forall_const, Option.some.injEq, exists_eq_left', exists_eq_left, Sum.inl.injEq, Sum.inr.injEq, Prod.mk.injEq, nI_toInt, nI_clamp, am_ix_nI, am_ix_0, am_ix_1, am_ix_2, am_ix_3, am_n0, am_n1, am_n2, am_n3, am_n4, am_t0, am_t1, am_t2, am_t3, am_t4, am_tm1, am_nS, am_nP, am_nM, Int.ofNat_lt, Int.ofNat_le, hH1.1, hH1.r3, hH1.s3, e26, y1]
    exact ⟨l238 _ rfl, fun z => absurd trivial z⟩
  · have o21 : ¬ nI 2 = nI 1 := by decide
    simp (disch := omega) only [ax_const, ax_iload, ax_lload, ax_aload, ax_istore, ax_astore, ax_iinc, ax_i2, ax_i2n, ax_l2, ax_lsh, ax_ii, ax_il, ax_li, ax_pop, ax_dup, ax_dup2, ax_if, ax_cmp, ax_acmp, ax_goto, ax_getI, ax_getR, ax_putI, ax_putR, ax_gets, ax_getsT, ax_aldI, ax_aldR, ax_astI, ax_astR, ax_alen, ax_ret, ax_aret, ax_vret, am_st, am_kl, List.getElem?_cons_zero, List.getElem?_cons_succ, List.set_cons_zero, List.set_cons_succ, Value.category, true_and, and_true, if_true, if_false, reduceCtorEq, Bool.false_eq_true, false_implies, forall_const, Option.some.injEq, exists_eq_left', exists_eq_left, Sum.inl.injEq, Sum.inr.injEq, Prod.mk.injEq, nI_toInt, nI_clamp, am_ix_nI, am_ix_0, am_ix_1, am_ix_2, am_ix_3, am_n0, am_n1, am_n2, am_n3, am_n4, am_t0, am_t1, am_t2, am_t3, am_t4, am_tm1, am_nS, am_nP, am_nM, Int.ofNat_lt, Int.ofNat_le, hH1.1, hH1.r3, hH1.s3, e26, y1, o21, q2]
    exact fun _ => ⟨by omega, l238 _ rfl⟩
