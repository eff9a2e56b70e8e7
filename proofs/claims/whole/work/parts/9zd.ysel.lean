/-! select: keys, ranks, results -/
def yKj (m : Nat) (σ σ' : am_S) : Prop := ym_f (fun b => b = m + 22 ∨ b = m + 23 ∨ b = m + 27 ∨ (m + 29 ≤ b ∧ b ≤ m + 31)) σ σ'
theorem yKj.of {m : Nat} {σ σ' : am_S} (h : yuF m σ σ') : yKj m σ σ' := h.mono (fun b x => by omega)
theorem yS2.k {σ σ' : am_S} {m : Nat} {T : Nat → Nat} {o : yp_O} {V1 V2 : List xr_E} {FL : List (Nat × Nat)} (h : yS2 σ m T o V1 V2 FL) (hf : yKj m σ σ') : yS2 σ' m T o V1 V2 FL := by
  obtain ⟨h1, h2, h3, h4, h5, h6, h7⟩ := h
  refine ⟨h1.f hf, h2.fr (hf.i (by omega)) (hf.i (by omega)) (hf.i (by omega)) (hf.i (by omega)) (hf.i (by omega)), h3.f (by rw [hf.i (a := m) (by omega)]) (hf.i (by omega)) (hf.i (by omega)), ?_, fun q => ?_, ?_, h7⟩
  · unfold ym_N ym_cells
    rw [hf.i (a := m + 20) (by omega), hf.i (a := m + 21) (by omega)]
    exact h4
  · have := h5 q
    unfold ym_N ym_cells at this ⊢
    rw [hf.i (a := m + 20) (by omega), hf.i (a := m + 21) (by omega)]
    exact this
  · unfold yFd
    rw [hf.i (a := m) (by omega), hf.i (a := m + 24) (by omega), hf.i (a := m + 25) (by omega)]
    exact h6
theorem yGr.k {σ σ' : am_S} {m : Nat} {GO FS : List Nat} (h : yGr σ m GO FS) (hf : yKj m σ σ') : yGr σ' m GO FS := by
  unfold yGr
  rw [hf.i (a := m) (by omega), hf.i (a := m + 26) (by omega), hf.i (a := m + 28) (by omega)]
  exact h
/-- the whole picture when the found pairs are in groups -/
def yS4 (σ : am_S) (m : Nat) (T : Nat → Nat) (o : yp_O) (V1 V2 : List xr_E) (FL : List (Nat × Nat)) (gb sm : Bool) (mk : Nat → Int32) (GO FS : List Nat) : Prop :=
  yS2 σ m T o V1 V2 FL ∧ yGr σ m GO FS ∧ yg_I gb sm mk GO FS ∧ GO.length = FL.length ∧ FS.length ≤ 40
theorem yS4.k {σ σ' : am_S} {m : Nat} {T : Nat → Nat} {o : yp_O} {V1 V2 : List xr_E} {FL : List (Nat × Nat)} {gb sm : Bool} {mk : Nat → Int32} {GO FS : List Nat} (h : yS4 σ m T o V1 V2 FL gb sm mk GO FS) (hf : yKj m σ σ') : yS4 σ' m T o V1 V2 FL gb sm mk GO FS := ⟨h.1.k hf, h.2.1.k hf, h.2.2⟩
theorem c_ytot2 {g : am_G} {l : Launch} {σ : am_S} {m c gp : Nat} {T : Nat → Nat} {o : yp_O} {V1 V2 : List xr_E} {FL : List (Nat × Nat)} {gb sm : Bool} {mk : Nat → Int32} {GO FS : List Nat} {val : xr_E → xr_E → Int32} {Q : Option Value → am_S → Prop} (h : yS4 σ m T o V1 V2 FL gb sm mk GO FS) (hc : c < 4) (hk : T (5 + c) < 3) (hv : T (5 + c) ≠ 1 → yTm T o c val) (hg : gp < FS.length)
    (hQ : ∀ σ', yuF m σ σ' → Q (some (.int (xl_vf (T (5 + c) + 1) (xl_at val V1 V2 FL) gp GO 0 0))) σ') : am_C g l mX10_total 2 (am_tp σ, am_us σ) [.ref m, .int (nI c), .int (nI gp)] σ Q := by
  obtain ⟨h1, h2, h3, h4, h5⟩ := h
  have hfst := h3.1 gp hg
  refine c_ytotal (fst := FS.getD gp 0) h1 hc hk hv (by omega) h4 (fun q x hq => ⟨?_, h2.2.1 q x hq⟩) (h2.2.2 gp hg) (by omega) (fun σ' hf => ?_)
  · have hql := (List.getElem?_eq_some_iff.mp hq).1
    have := (h3.2.1 q hql).1
    rw [List.getD_eq_getElem?_getD, hq] at this
    have this : x < FS.length := this
    omega
  · have := hQ σ' hf
    by_cases e : T (5 + c) = 0
    · rw [if_pos e]
      rw [e, h3.first hg] at this
      exact this
    · rw [if_neg e]
      exact this
/-- the keys of the order -/
def ysQ (T : Nat → Nat) (val : xr_E → xr_E → Int32) (V1 V2 : List xr_E) (FL : List (Nat × Nat)) (GO : List Nat) (gp : Nat) : Int32 := if T 22 = 0 then 0 else xl_vf (T 8 + 1) (xl_at val V1 V2 FL) gp GO 0 0
theorem ysq_209 {g : am_G} {l : Launch} {m d s : Nat} {T : Nat → Nat} {o : yp_O} {V1 V2 : List xr_E} {FL : List (Nat × Nat)} {gb sm : Bool} {mk : Nat → Int32} {GO FS : List Nat} {val : xr_E → xr_E → Int32} {v2 : Int32} {z4 z5 : Option Value} {σ0 : am_S} {Q : Option Value → am_S → Prop} (hd : 3 ≤ d) (hs : s < 4) (hT22 : T 22 ≤ 1) (h0 : yS4 σ0 m T o V1 V2 FL gb sm mk GO FS) (hT8 : T 22 = 1 → T 8 < 3) (hv : T 22 = 1 → T 8 ≠ 1 → yTm T o 3 val)
    (hK : ∀ σ', yKj m σ0 σ' → (∀ a, a < FS.length → am_i σ' (m + 27) a = ysQ T val V1 V2 FL GO a) → am_i σ' (m + 30) s = nI (T 4) → am_i σ' (m + 29) s = nI FS.length → (∀ j, j ≠ s → am_i σ' (m + 30) j = am_i σ0 (m + 30) j ∧ am_i σ' (m + 29) j = am_i σ0 (m + 29) j) → am_i σ' (m + 31) = am_i σ0 (m + 31) → am_W g l mX10_select d (am_tp σ0, am_us σ0) Q 268 [some (.ref m), some (.int (nI s)), some (.int v2), some (.int 0), z4, z5] [] σ') :
    ∀ (n a : Nat) (σ : am_S), n + a = FS.length → yKj m σ0 σ → (∀ a', a' < a → am_i σ (m + 27) a' = ysQ T val V1 V2 FL GO a') → (am_i σ (m + 29) = am_i σ0 (m + 29) ∧ am_i σ (m + 30) = am_i σ0 (m + 30) ∧ am_i σ (m + 31) = am_i σ0 (m + 31)) → am_W g l mX10_select d (am_tp σ0, am_us σ0) Q 209 [some (.ref m), some (.int (nI s)), some (.int v2), some (.int (nI a)), z4, z5] [] σ := by
  intro n
  induction n with
  | zero =>
    intro a σ hn hf hk hr
    have h := h0.k hf
    have hH := h.1.1
    have h45 := h.2.1.1
    have h40 := h.2.2.2.2
    have e27 : am_i σ m 27 = nI (T 4) := h.1.2.1.2.2.2.1
    have f1 : yKj m σ (am_wi (am_wi σ (m + 30) s (nI (T 4))) (m + 29) s (nI FS.length)) := (ym_f.rf.wi (a := m + 30) (by omega)).wi (a := m + 29) (by omega)
    have k := hK (am_wi (am_wi σ (m + 30) s (nI (T 4))) (m + 29) s (nI FS.length)) (ym_f.tr hf f1) (fun a' ha => by rw [ym_io (by omega), ym_io (by omega)]; exact hk a' (by omega)) (by rw [ym_io (by omega), ym_is]) ym_is (fun j hj => ⟨by rw [ym_io (by omega), ym_ij hj, hr.2.1], by rw [ym_ij hj, ym_io (by omega), hr.1]⟩) (by funext j; rw [ym_io (by omega), ym_io (by omega), hr.2.2])
    refine kX10_select_209 ?_
    simp (disch := omega) only [ax_const, ax_iload, ax_lload, ax_aload, ax_istore, ax_astore, ax_iinc, ax_i2, ax_i2n, ax_l2, ax_lsh, ax_ii, ax_il, ax_li, ax_pop, ax_dup, ax_dup2, ax_if, ax_cmp, ax_acmp, ax_goto, ax_getI, ax_getR, ax_putI, ax_putR, ax_gets, ax_getsT, ax_aldI, ax_aldR, ax_astI, ax_astR, ax_alen, ax_ret, ax_aret, ax_vret, am_st, am_kl, List.getElem?_cons_zero, List.getElem?_cons_succ, List.set_cons_zero, List.set_cons_succ, Value.category, true_and, and_true, if_true, if_false, reduceCtorEq, Bool.false_eq_true, false_implies, forall_const, Option.some.injEq, exists_eq_left', exists_eq_left, Sum.inl.injEq, Sum.inr.injEq, Prod.mk.injEq, nI_toInt, nI_clamp, am_ix_nI, am_ix_0, am_ix_1, am_ix_2, am_ix_3, am_n0, am_n1, am_n2, am_n3, am_n4, am_t0, am_t1, am_t2, am_t3, am_t4, am_tm1, am_nS, am_nP, am_nM, Int.ofNat_lt, Int.ofNat_le, am_sh_wi, am_r_wi, am_tp_wi, am_us_wi, ym_is, ym_io, ym_ij, hH.1, hH.r51, hH.s51, hH.r52, hH.s52, h45, e27]
    exact ⟨fun z => by omega, fun _ => ⟨hs, hs, k⟩⟩
  | succ n ih =>
    intro a σ hn hf hk hr
    have h := h0.k hf
    have hH := h.1.1
    have h45 := h.2.1.1
    have h40 := h.2.2.2.2
    have e35 : am_i σ m 35 = nI (T 22) := h.1.2.1.2.2.2.2.2.2.2.2.2.2.1
    have nx : ∀ (σ1 : am_S), yuF m σ σ1 → am_W g l mX10_select d (am_tp σ0, am_us σ0) Q 209 [some (.ref m), some (.int (nI s)), some (.int v2), some (.int (nI (a + 1))), z4, z5] [] (am_wi σ1 (m + 27) a (ysQ T val V1 V2 FL GO a)) := by
      intro σ1 f1
      refine ih (a + 1) _ (by omega) (ym_f.tr (ym_f.tr hf (yKj.of f1)) (ym_f.rf.wi (a := m + 27) (by omega))) (fun a' ha' => ?_) ⟨by funext j; rw [ym_io (by omega), f1.i (a := m + 29) (by omega), hr.1], by funext j; rw [ym_io (by omega), f1.i (a := m + 30) (by omega), hr.2.1], by funext j; rw [ym_io (by omega), f1.i (a := m + 31) (by omega), hr.2.2]⟩
      by_cases q : a' = a
      · rw [q, ym_is]
      · rw [ym_ij q, f1.i (a := m + 27) (by omega)]
        exact hk a' (by omega)
    unfold ysQ at nx
    refine kX10_select_209 ?_
    by_cases c : T 22 = 0
    · rw [c] at e35
      have e35 : am_i σ m 35 = 0 := e35
      rw [if_pos c] at nx
      simp (disch := omega) only [ax_const, ax_iload, ax_lload, ax_aload, ax_istore, ax_astore, ax_iinc, ax_i2, ax_i2n, ax_l2, ax_lsh, ax_ii, ax_il, ax_li, ax_pop, ax_dup, ax_dup2, ax_if, ax_cmp, ax_acmp, ax_goto, ax_getI, ax_getR, ax_putI, ax_putR, ax_gets, ax_getsT, ax_aldI, ax_aldR, ax_astI, ax_astR, ax_alen, ax_ret, ax_aret, ax_vret, am_st, am_kl, List.getElem?_cons_zero, List.getElem?_cons_succ, List.set_cons_zero, List.set_cons_succ, Value.category, true_and, and_true, if_true, if_false, reduceCtorEq, Bool.false_eq_true, false_implies, forall_const, Option.some.injEq, exists_eq_left', exists_eq_left, Sum.inl.injEq, Sum.inr.injEq, Prod.mk.injEq, nI_toInt, nI_clamp, am_ix_nI, am_ix_0, am_ix_1, am_ix_2, am_ix_3, am_n0, am_n1, am_n2, am_n3, am_n4, am_t0, am_t1, am_t2, am_t3, am_t4, am_tm1, am_nS, am_nP, am_nM, Int.ofNat_lt, Int.ofNat_le, am_sh_wi, am_r_wi, am_tp_wi, am_us_wi, ym_is, ym_io, ym_ij, hH.1, hH.r49, hH.s49, h45, e35]
      exact ⟨fun _ => ⟨⟨by omega, nx σ .rf⟩, fun z => absurd trivial z⟩, fun z => by omega⟩
    · have c1 : T 22 = 1 := by omega
      have o1 : ¬ (1 : Int32) = 0 := by decide
      rw [c1] at e35
      have e35 : am_i σ m 35 = 1 := e35
      rw [if_neg c] at nx
      simp (disch := omega) only [ax_const, ax_iload, ax_lload, ax_aload, ax_istore, ax_astore, ax_iinc, ax_i2, ax_i2n, ax_l2, ax_lsh, ax_ii, ax_il, ax_li, ax_pop, ax_dup, ax_dup2, ax_if, ax_cmp, ax_acmp, ax_goto, ax_getI, ax_getR, ax_putI, ax_putR, ax_gets, ax_getsT, ax_aldI, ax_aldR, ax_astI, ax_astR, ax_alen, ax_ret, ax_aret, ax_vret, am_st, am_kl, List.getElem?_cons_zero, List.getElem?_cons_succ, List.set_cons_zero, List.set_cons_succ, Value.category, true_and, and_true, if_true, if_false, reduceCtorEq, Bool.false_eq_true, false_implies, forall_const, Option.some.injEq, exists_eq_left', exists_eq_left, Sum.inl.injEq, Sum.inr.injEq, Prod.mk.injEq, nI_toInt, nI_clamp, am_ix_nI, am_ix_0, am_ix_1, am_ix_2, am_ix_3, am_n0, am_n1, am_n2, am_n3, am_n4, am_t0, am_t1, am_t2, am_t3, am_t4, am_tm1, am_nS, am_nP, am_nM, Int.ofNat_lt, Int.ofNat_le, hH.1, hH.r49, hH.s49, h45, e35, o1]
      refine ⟨fun _ _ => ?_, fun z => by omega⟩
      refine am_callK [.ref m, .int (nI 3), .int (nI a)] [.int (nI a), .ref (m + 27)] (d' := 2) (lim' := (am_tp σ, am_us σ)) rfl (by omega) (Nat.le_of_eq hf.tp) (Nat.le_of_eq hf.us) rfl (Nat.le_of_ble_eq_true rfl) (am_recv hH.1) ?_
      refine c_ytot2 h (by decide) (hT8 c1) (hv c1) (by omega) (fun σ1 f1 t1 u1 => ?_)
      have hH1 := hH.f f1
      simp (disch := omega) only [ax_const, ax_iload, ax_lload, ax_aload, ax_istore, ax_astore, ax_iinc, ax_i2, ax_i2n, ax_l2, ax_lsh, ax_ii, ax_il, ax_li, ax_pop, ax_dup, ax_dup2, ax_if, ax_cmp, ax_acmp, ax_goto, ax_getI, ax_getR, ax_putI, ax_putR, ax_gets, ax_getsT, ax_aldI, ax_aldR, ax_astI, ax_astR, ax_alen, ax_ret, ax_aret, ax_vret, am_st, am_kl, List.getElem?_cons_zero, List.getElem?_cons_succ, List.set_cons_zero, List.set_cons_succ, Value.category, true_and, and_true, if_true, if_false, reduceCtorEq, Bool.false_eq_true, false_implies, forall_const, Option.some.injEq, exists_eq_left', exists_eq_left, Sum.inl.injEq, Sum.inr.injEq, Prod.mk.injEq, Option.toList_some, Option.toList_none, List.cons_append, List.nil_append, List.append_nil, nI_toInt, nI_clamp, am_ix_nI, am_ix_0, am_ix_1, am_ix_2, am_ix_3, am_n0, am_n1, am_n2, am_n3, am_n4, am_t0, am_t1, am_t2, am_t3, am_t4, am_tm1, am_nS, am_nP, am_nM, Int.ofNat_lt, Int.ofNat_le, hH1.1, hH1.r49, hH1.s49]
      exact ⟨by omega, nx σ1 f1⟩
/-- only a session's own values, beyond the places -/
def yuR (m s : Nat) (σ σ' : am_S) : Prop := yKj m σ σ' ∧ am_i σ' (m + 27) = am_i σ (m + 27) ∧ am_i σ' (m + 29) = am_i σ (m + 29) ∧ am_i σ' (m + 30) = am_i σ (m + 30) ∧ ∀ j, j < 120 * s ∨ 120 * s + 120 ≤ j → am_i σ' (m + 31) j = am_i σ (m + 31) j
theorem yuR.rf {m s : Nat} {σ : am_S} : yuR m s σ σ := ⟨.rf, rfl, rfl, rfl, fun _ _ => rfl⟩
theorem yuR.tr {m s : Nat} {σ σ' σ'' : am_S} (h : yuR m s σ σ') (h' : yuR m s σ' σ'') : yuR m s σ σ'' := ⟨ym_f.tr h.1 h'.1, h'.2.1.trans h.2.1, h'.2.2.1.trans h.2.2.1, h'.2.2.2.1.trans h.2.2.2.1, fun j hj => (h'.2.2.2.2 j hj).trans (h.2.2.2.2 j hj)⟩
theorem yuR.of {m s : Nat} {σ σ' : am_S} (h : yuF m σ σ') : yuR m s σ σ' := ⟨yKj.of h, h.i (a := m + 27) (by omega), h.i (a := m + 29) (by omega), h.i (a := m + 30) (by omega), fun j _ => by rw [h.i (a := m + 31) (by omega)]⟩
theorem yuR.wi {m s j : Nat} {σ σ' : am_S} {x : Int32} (h : yuR m s σ σ') (h1 : 120 * s ≤ j) (h2 : j < 120 * s + 120) : yuR m s σ (am_wi σ' (m + 31) j x) := ⟨ym_f.wi h.1 (by omega), by rw [← h.2.1]; funext j; rw [ym_io (by omega)], by rw [← h.2.2.1]; funext j; rw [ym_io (by omega)], by rw [← h.2.2.2.1]; funext j; rw [ym_io (by omega)], fun i hi => by rw [ym_ij (by omega)]; exact h.2.2.2.2 i hi⟩
/-- the results so far -/
def ysE (σ : am_S) (m s n0 : Nat) (rv : Nat → Nat → Int32) (rk : Nat → Nat) (a c : Nat) : Prop := ∀ a' c', c' < n0 → (a' < a ∨ (a' = a ∧ c' < c)) → am_i σ (m + 31) (120 * s + 3 * rk a' + c') = rv a' c'
theorem ysq_321 {g : am_G} {l : Launch} {m d s a : Nat} {T : Nat → Nat} {o : yp_O} {V1 V2 : List xr_E} {FL : List (Nat × Nat)} {gb sm : Bool} {mk : Nat → Int32} {GO FS : List Nat} {val : Nat → xr_E → xr_E → Int32} {rk : Nat → Nat} {v2 : Int32} {σ0 : am_S} {Q : Option Value → am_S → Prop} (hd : 3 ≤ d) (hs : s < 4) (hT4 : T 4 ≤ 3) (h0 : yS4 σ0 m T o V1 V2 FL gb sm mk GO FS) (hT : ∀ c, c < T 4 → T (5 + c) < 3) (hv : ∀ c, c < T 4 → T (5 + c) ≠ 1 → yTm T o c (val c)) (ha : a < FS.length) (hrk : ∀ a', a' < FS.length → rk a' < FS.length) (hinj : ∀ a', a' < FS.length → rk a' = rk a → a' = a)
    (hK : ∀ σ' z5, yuR m s σ0 σ' → ysE σ' m s (T 4) (fun a c => xl_vf (T (5 + c) + 1) (xl_at (val c) V1 V2 FL) a GO 0 0) rk (a + 1) 0 → am_W g l mX10_select d (am_tp σ0, am_us σ0) Q 268 [some (.ref m), some (.int (nI s)), some (.int v2), some (.int (nI (a + 1))), some (.int (nI (rk a))), z5] [] σ') :
    ∀ (n c : Nat) (σ : am_S), n + c = T 4 → yuR m s σ0 σ → ysE σ m s (T 4) (fun a c => xl_vf (T (5 + c) + 1) (xl_at (val c) V1 V2 FL) a GO 0 0) rk a c → am_W g l mX10_select d (am_tp σ0, am_us σ0) Q 321 [some (.ref m), some (.int (nI s)), some (.int v2), some (.int (nI a)), some (.int (nI (rk a))), some (.int (nI c))] [] σ := by
  intro n
  induction n with
  | zero =>
    intro c σ hn hf hE
    have h := h0.k hf.1
    have hH := h.1.1
    have h40 := h.2.2.2.2
    have e27 : am_i σ m 27 = nI (T 4) := h.1.2.1.2.2.2.1
    refine kX10_select_321 ?_
    simp (disch := omega) only [ax_const, ax_iload, ax_lload, ax_aload, ax_istore, ax_astore, ax_iinc, ax_i2, ax_i2n, ax_l2, ax_lsh, ax_ii, ax_il, ax_li, ax_pop, ax_dup, ax_dup2, ax_if, ax_cmp, ax_acmp, ax_goto, ax_getI, ax_getR, ax_putI, ax_putR, ax_gets, ax_getsT, ax_aldI, ax_aldR, ax_astI, ax_astR, ax_alen, ax_ret, ax_aret, ax_vret, am_st, am_kl, List.getElem?_cons_zero, List.getElem?_cons_succ, List.set_cons_zero, List.set_cons_succ, Value.category, true_and, and_true, if_true, if_false, reduceCtorEq, Bool.false_eq_true, false_implies, forall_const, Option.some.injEq, exists_eq_left', exists_eq_left, Sum.inl.injEq, Sum.inr.injEq, Prod.mk.injEq, nI_toInt, nI_clamp, am_ix_nI, am_ix_0, am_ix_1, am_ix_2, am_ix_3, am_n0, am_n1, am_n2, am_n3, am_n4, am_t0, am_t1, am_t2, am_t3, am_t4, am_tm1, am_nS, am_nP, am_nM, Int.ofNat_lt, Int.ofNat_le, hH.1, e27]
    refine ⟨fun z => by omega, fun _ => hK σ _ hf (fun a' c' q1 q2 => hE a' c' q1 (by omega))⟩
  | succ n ih =>
    intro c σ hn hf hE
    have h := h0.k hf.1
    have hH := h.1.1
    have h40 := h.2.2.2.2
    have e27 : am_i σ m 27 = nI (T 4) := h.1.2.1.2.2.2.1
    have hra := hrk a ha
    have y120 : (120 : Int32) = nI 120 := rfl
    have y3 : (3 : Int32) = nI 3 := rfl
    refine kX10_select_321 ?_
    simp (disch := omega) only [ax_const, ax_iload, ax_lload, ax_aload, ax_istore, ax_astore, ax_iinc, ax_i2, ax_i2n, ax_l2, ax_lsh, ax_ii, ax_il, ax_li, ax_pop, ax_dup, ax_dup2, ax_if, ax_cmp, ax_acmp, ax_goto, ax_getI, ax_getR, ax_putI, ax_putR, ax_gets, ax_getsT, ax_aldI, ax_aldR, ax_astI, ax_astR, ax_alen, ax_ret, ax_aret, ax_vret, am_st, am_kl, List.getElem?_cons_zero, List.getElem?_cons_succ, List.set_cons_zero, List.set_cons_succ, Value.category, true_and, and_true, if_true, if_false, reduceCtorEq, Bool.false_eq_true, false_implies, forall_const, Option.some.injEq, exists_eq_left', exists_eq_left, Sum.inl.injEq, Sum.inr.injEq, Prod.mk.injEq, nI_toInt, nI_clamp, am_ix_nI, am_ix_0, am_ix_1, am_ix_2, am_ix_3, am_n0, am_n1, am_n2, am_n3, am_n4, am_t0, am_t1, am_t2, am_t3, am_t4, am_tm1, am_nS, am_nP, am_nM, Int.ofNat_lt, Int.ofNat_le, hH.1, hH.r53, hH.s53, e27, y120, y3, pk_mul, nI_add]
    refine ⟨fun _ => ?_, fun z => by omega⟩
    refine am_callK [.ref m, .int (nI c), .int (nI a)] [.int (nI (120 * s + 3 * rk a + c)), .ref (m + 31)] (d' := 2) (lim' := (am_tp σ, am_us σ)) rfl (by omega) (Nat.le_of_eq hf.1.tp) (Nat.le_of_eq hf.1.us) rfl (Nat.le_of_ble_eq_true rfl) (am_recv hH.1) ?_
    refine c_ytot2 h (by omega) (hT c (by omega)) (hv c (by omega)) ha (fun σ1 f1 t1 u1 => ?_)
    have hH1 := hH.f f1
    simp (disch := omega) only [ax_const, ax_iload, ax_lload, ax_aload, ax_istore, ax_astore, ax_iinc, ax_i2, ax_i2n, ax_l2, ax_lsh, ax_ii, ax_il, ax_li, ax_pop, ax_dup, ax_dup2, ax_if, ax_cmp, ax_acmp, ax_goto, ax_getI, ax_getR, ax_putI, ax_putR, ax_gets, ax_getsT, ax_aldI, ax_aldR, ax_astI, ax_astR, ax_alen, ax_ret, ax_aret, ax_vret, am_st, am_kl, List.getElem?_cons_zero, List.getElem?_cons_succ, List.set_cons_zero, List.set_cons_succ, Value.category, true_and, and_true, if_true, if_false, reduceCtorEq, Bool.false_eq_true, false_implies, forall_const, Option.some.injEq, exists_eq_left', exists_eq_left, Sum.inl.injEq, Sum.inr.injEq, Prod.mk.injEq, Option.toList_some, Option.toList_none, List.cons_append, List.nil_append, List.append_nil, nI_toInt, nI_clamp, am_ix_nI, am_ix_0, am_ix_1, am_ix_2, am_ix_3, am_n0, am_n1, am_n2, am_n3, am_n4, am_t0, am_t1, am_t2, am_t3, am_t4, am_tm1, am_nS, am_nP, am_nM, Int.ofNat_lt, Int.ofNat_le, hH1.1, hH1.r53, hH1.s53]
    refine ⟨by omega, ih (c + 1) _ (by omega) (hf.tr ((yuR.of f1).wi (by omega) (by omega))) (fun a' c' q1 q2 => ?_)⟩
    by_cases q : a' = a ∧ c' = c
    · obtain ⟨rfl, rfl⟩ := q
      exact ym_is
    · by_cases q3 : a' < FS.length
      · have := hrk a' q3
        rw [ym_ij (by
          intro e
          have e2 : rk a' = rk a := by omega
          have := hinj a' q3 e2
          exact q ⟨this, by omega⟩), f1.i (a := m + 31) (by omega)]
        exact hE a' c' q1 (by omega)
      · omega
