/-! deleted -/
def yuG (m : Nat) (σ σ' : am_S) : Prop := ym_f (fun b => (m + 2 ≤ b ∧ b ≤ m + 5) ∨ b = m + 22 ∨ b = m + 23) σ σ'
theorem yuG.of {m : Nat} {σ σ' : am_S} (h : yuF m σ σ') : yuG m σ σ' := h.mono (fun b x => Or.inr x)
theorem yuG.tr {m : Nat} {σ σ' σ'' : am_S} (h : yuG m σ σ') (h' : yuG m σ' σ'') : yuG m σ σ'' := ym_f.tr h h'
theorem yUs.g {σ σ' : am_S} {m : Nat} {T : Nat → Nat} {o : yp_O} {V : List xr_E} (h : yUs σ m T o V) (hf : yuG m σ σ') : yUs σ' m T o V := by
  obtain ⟨h1, h2, h3, h4⟩ := h
  refine ⟨h1.f hf, ?_, h3.f (by rw [hf.i (a := m) (by omega)]) (hf.i (a := m + 12) (by omega)) (hf.i (a := m + 13) (by omega)), ?_⟩
  · unfold yR
    rw [hf.i (a := m) (by omega), hf.i (a := m + 16) (by omega), hf.i (a := m + 17) (by omega), hf.i (a := m + 18) (by omega), hf.i (a := m + 19) (by omega)]
    exact h2
  · unfold ym_N ym_cells
    rw [hf.i (a := m + 20) (by omega), hf.i (a := m + 21) (by omega)]
    exact h4
theorem ym_P.u {σ σ' : am_S} {m : Nat} {P : Nat → List xr_E} (h : ym_P σ m P) (hf : yuF m σ σ') : ym_P σ' m P := h.f hf (by omega) (by omega) (by omega) (by omega)
theorem ym_P.ext {σ : am_S} {m : Nat} {P P' : Nat → List xr_E} (h : ym_P σ m P) (he : ∀ p, P' p = P p) : ym_P σ m P' := by
  have : P' = P := funext he
  rw [this]; exact h
theorem xr_find_at {k : Int32} {e : xr_E} {R : List xr_E} (he : e.1 = k) : ∀ (T : List xr_E) (i : Nat), (∀ f, f ∈ T → f.1 ≠ k) → xr_find k (T ++ e :: R) i = nI (i + T.length)
  | [], i, _ => by
    show xr_find k (e :: R) i = _
    rw [xr_find, if_pos he]
    rfl
  | f :: T, i, h => by
    rw [List.cons_append, xr_find, if_neg (h f List.mem_cons_self), xr_find_at he T (i + 1) (fun q hq => h q (List.mem_cons_of_mem _ hq)), List.length_cons]
    congr 1
    omega
theorem xo_ss_mid {T R : List xr_E} {e : xr_E} (h : xo_ss (T ++ e :: R)) : ∀ f, f ∈ T → f.1 ≠ e.1 := by
  intro f hf q
  have := (List.pairwise_append.mp h).2.2 f hf e List.mem_cons_self
  rw [q] at this
  omega
def yown (lab : Nat) (e : xr_E) : Bool := decide (e.2.2.2 = nI lab)
theorem yde_5 {g : am_G} {l : Launch} {m d p lab : Nat} {T : Nat → Nat} {o cm : yp_O} {V : List xr_E} {B : xr_E → Bool} {P : Nat → List xr_E} {σ0 : am_S} {Q : Option Value → am_S → Prop} (hd : 3 ≤ d) (hp : yUp T o cm B) (h0 : yUs σ0 m T o V) (hpt : p < 32) (hL : V.filter (yown lab) = P p) (hss : xo_ss (P p))
    (hQ : ∀ σ', ym_P σ' m (fun i => if i = p then (P p).filter (fun e => !B e) else P i) → yuG m σ0 σ' → Q (some (.int (nI ((P p).filter B).length))) σ') :
    ∀ (S pre : List xr_E) (σ : am_S), V = pre ++ S → ym_P σ m (fun i => if i = p then (pre.filter (yown lab)).filter (fun e => !B e) ++ S.filter (yown lab) else P i) → yuG m σ0 σ → am_W g l mX10_deleted d (am_tp σ0, am_us σ0) Q 5 [some (.ref m), some (.int (nI p)), some (.int (nI lab)), some (.int (nI ((pre.filter (yown lab)).filter B).length)), some (.int (nI pre.length))] [] σ := by
  intro S
  induction S with
  | nil =>
    intro pre σ hV hP hf
    have h := h0.g hf
    have hH := h.1
    obtain ⟨n1, n2, n3⟩ := h.2.2.2
    rw [List.append_nil] at hV
    subst hV
    rw [List.filter_nil, List.append_nil, hL] at hP
    rw [hL]
    refine kX10_deleted_5 ?_
    simp (disch := omega) only [ax_const, ax_iload, ax_lload, ax_aload, ax_istore, ax_astore, ax_iinc, ax_i2, ax_i2n, ax_l2, ax_lsh, ax_ii, ax_il, ax_li, ax_pop, ax_dup, ax_dup2, ax_if, ax_cmp, ax_acmp, ax_goto, ax_getI, ax_getR, ax_putI, ax_putR, ax_gets, ax_getsT, ax_aldI, ax_aldR, ax_astI, ax_astR, ax_alen, ax_ret, ax_aret, ax_vret, am_st, am_kl, List.getElem?_cons_zero, List.getElem?_cons_succ, List.set_cons_zero, List.set_cons_succ, Value.category, true_and, and_true, if_true, if_false, reduceCtorEq, Bool.false_eq_true, false_implies, forall_const, Option.some.injEq, exists_eq_left', exists_eq_left, Sum.inl.injEq, Sum.inr.injEq, Prod.mk.injEq, nI_toInt, nI_clamp, am_ix_nI, am_ix_0, am_ix_1, am_ix_2, am_ix_3, am_n0, am_n1, am_n2, am_n3, am_n4, am_t0, am_t1, am_t2, am_t3, am_t4, am_tm1, am_nS, am_nP, am_nM, Int.ofNat_lt, Int.ofNat_le, hH.1, hH.r41, hH.s41, n1]
    exact ⟨by decide, fun z => by omega, fun _ => ⟨hf.tp, hf.us, hQ σ hP hf⟩⟩
  | cons x S ih =>
    intro pre σ hV hP hf
    have h := h0.g hf
    have hH := h.1
    obtain ⟨n1, n2, n3⟩ := h.2.2.2
    have hx : V[pre.length]? = some x := by rw [hV]; simp
    have hl : V.length = pre.length + (S.length + 1) := by rw [hV]; simp
    have o1 : ¬ (1 : Int32) = 0 := by decide
    have y4 : (4 : Int32) = nI 4 := rfl
    have y3 : (3 : Int32) = nI 3 := rfl
    have cx3 : am_i σ (m + 20) (4 * pre.length + 3) = x.2.2.2 := by
      have := n3 pre.length x hx 3 (by decide); rwa [show 192 * 0 + 4 * pre.length + 3 = 4 * pre.length + 3 by omega] at this
    have hf1 : yuG m σ0 (am_wi σ (m + 22) 0 (nI pre.length)) := hf.wi (a := m + 22) (Or.inr (Or.inl rfl))
    have hP1 := hP.u (σ' := am_wi σ (m + 22) 0 (nI pre.length)) (ym_f.rf.wi (a := m + 22) (Or.inl rfl))
    have h1 := h0.g hf1
    have ea : am_i (am_wi σ (m + 22) 0 (nI pre.length)) (m + 22) 0 = nI pre.length := ym_is
    -- on without a removal
    have skip : ∀ σ', (yown lab x && B x) = false → ym_P σ' m (fun i => if i = p then (pre.filter (yown lab)).filter (fun e => !B e) ++ (x :: S).filter (yown lab) else P i) → yuG m σ0 σ' → am_W g l mX10_deleted d (am_tp σ0, am_us σ0) Q 5 [some (.ref m), some (.int (nI p)), some (.int (nI lab)), some (.int (nI ((pre.filter (yown lab)).filter B).length)), some (.int (nI (pre.length + 1)))] [] σ' := by
      intro σ' hb hP' hf'
      have nx := ih (pre ++ [x]) σ' (by rw [hV]; simp) (hP'.ext (fun q => ?_)) hf'
      · have e2 : ((pre ++ [x]).filter (yown lab)).filter B = (pre.filter (yown lab)).filter B := by
          rw [List.filter_append, List.filter_append]
          cases c : yown lab x with
          | false => simp [c]
          | true =>
            rw [c, Bool.true_and] at hb
            simp [c, hb]
        rw [e2, List.length_append, List.length_cons, List.length_nil] at nx
        exact nx
      · split
        · rw [List.filter_append, List.filter_append]
          cases c : yown lab x with
          | false => simp [c]
          | true =>
            rw [c, Bool.true_and] at hb
            simp [c, hb]
        · rfl
    refine kX10_deleted_5 ?_
    simp (disch := omega) only [ax_const, ax_iload, ax_lload, ax_aload, ax_istore, ax_astore, ax_iinc, ax_i2, ax_i2n, ax_l2, ax_lsh, ax_ii, ax_il, ax_li, ax_pop, ax_dup, ax_dup2, ax_if, ax_cmp, ax_acmp, ax_goto, ax_getI, ax_getR, ax_putI, ax_putR, ax_gets, ax_getsT, ax_aldI, ax_aldR, ax_astI, ax_astR, ax_alen, ax_ret, ax_aret, ax_vret, am_st, am_kl, List.getElem?_cons_zero, List.getElem?_cons_succ, List.set_cons_zero, List.set_cons_succ, Value.category, true_and, and_true, if_true, if_false, reduceCtorEq, Bool.false_eq_true, false_implies, forall_const, Option.some.injEq, exists_eq_left', exists_eq_left, Sum.inl.injEq, Sum.inr.injEq, Prod.mk.injEq, nI_toInt, nI_clamp, am_ix_nI, am_ix_0, am_ix_1, am_ix_2, am_ix_3, am_n0, am_n1, am_n2, am_n3, am_n4, am_t0, am_t1, am_t2, am_t3, am_t4, am_tm1, am_nS, am_nP, am_nM, Int.ofNat_lt, Int.ofNat_le, am_sh_wi, am_r_wi, am_tp_wi, am_us_wi, ym_is, ym_io, ym_ij, hH.1, hH.r40, hH.s40, hH.r41, hH.s41, hH.r42, hH.s42, n1, y4, y3, pk_mul, nI_add, cx3]
    refine ⟨by decide, fun _ => ⟨by decide, by omega, fun el => ?_, fun el => ?_⟩, fun z => by omega⟩
    · generalize am_wi σ (m + 22) 0 (nI pre.length) = σ1 at *
      have own : yown lab x = true := decide_eq_true el
      refine am_callK [.ref m] [] (d' := 2) (lim' := (am_tp σ1, am_us σ1)) rfl (by omega) (Nat.le_of_eq hf1.tp) (Nat.le_of_eq hf1.us) rfl (Nat.le_of_ble_eq_true rfl) (am_recv h1.1.1) ?_
      refine c_yh1 h1 hp hx ea (fun σ2 f2 t2 u2 => ?_)
      have hf2 : yuG m σ0 σ2 := hf1.tr (yuG.of (f2.mono (fun b x => Or.inr x)))
      have hP2 := hP1.u (f2.mono (fun b x => Or.inr x))
      have h2 := h0.g hf2
      have hH2 := h2.1
      cases hb : B x with
      | false =>
        rw [if_neg Bool.false_ne_true]
        simp (disch := omega) only [ax_const, ax_iload, ax_lload, ax_aload, ax_istore, ax_astore, ax_iinc, ax_i2, ax_i2n, ax_l2, ax_lsh, ax_ii, ax_il, ax_li, ax_pop, ax_dup, ax_dup2, ax_if, ax_cmp, ax_acmp, ax_goto, ax_getI, ax_getR, ax_putI, ax_putR, ax_gets, ax_getsT, ax_aldI, ax_aldR, ax_astI, ax_astR, ax_alen, ax_ret, ax_aret, ax_vret, am_st, am_kl, List.getElem?_cons_zero, List.getElem?_cons_succ, List.set_cons_zero, List.set_cons_succ, Value.category, true_and, and_true, if_true, if_false, reduceCtorEq, Bool.false_eq_true, false_implies, forall_const, Option.some.injEq, exists_eq_left', exists_eq_left, Sum.inl.injEq, Sum.inr.injEq, Prod.mk.injEq, Option.toList_some, Option.toList_none, List.cons_append, List.nil_append, List.append_nil, nI_toInt, nI_clamp, am_ix_nI, am_ix_0, am_ix_1, am_ix_2, am_ix_3, am_n0, am_n1, am_n2, am_n3, am_n4, am_t0, am_t1, am_t2, am_t3, am_t4, am_tm1, am_nS, am_nP, am_nM, Int.ofNat_lt, Int.ofNat_le]
        exact ⟨skip σ2 (by rw [hb, Bool.and_false]) hP2 hf2, fun z => absurd trivial z⟩
      | true =>
        rw [if_pos rfl]
        obtain ⟨m1, m2, m3⟩ := h2.2.2.2
        have cx0 : am_i σ2 (m + 20) (4 * pre.length) = x.1 := by have := m3 pre.length x hx 0 (by decide); rwa [show 192 * 0 + 4 * pre.length + 0 = 4 * pre.length by omega] at this
        simp (disch := omega) only [ax_const, ax_iload, ax_lload, ax_aload, ax_istore, ax_astore, ax_iinc, ax_i2, ax_i2n, ax_l2, ax_lsh, ax_ii, ax_il, ax_li, ax_pop, ax_dup, ax_dup2, ax_if, ax_cmp, ax_acmp, ax_goto, ax_getI, ax_getR, ax_putI, ax_putR, ax_gets, ax_getsT, ax_aldI, ax_aldR, ax_astI, ax_astR, ax_alen, ax_ret, ax_aret, ax_vret, am_st, am_kl, List.getElem?_cons_zero, List.getElem?_cons_succ, List.set_cons_zero, List.set_cons_succ, Value.category, true_and, and_true, if_true, if_false, reduceCtorEq, Bool.false_eq_true, false_implies, forall_const, Option.some.injEq, exists_eq_left', exists_eq_left, Sum.inl.injEq, Sum.inr.injEq, Prod.mk.injEq, Option.toList_some, Option.toList_none, List.cons_append, List.nil_append, List.append_nil, nI_toInt, nI_clamp, am_ix_nI, am_ix_0, am_ix_1, am_ix_2, am_ix_3, am_n0, am_n1, am_n2, am_n3, am_n4, am_t0, am_t1, am_t2, am_t3, am_t4, am_tm1, am_nS, am_nP, am_nM, Int.ofNat_lt, Int.ofNat_le, o1, hH2.1, hH2.r40, hH2.s40, y4, pk_mul, cx0]
        refine fun _ => ⟨by omega, ?_⟩
        refine am_callK [.ref m, .int (nI p), .int x.1] [.int (nI p), .ref m] (d' := 0) (lim' := (am_tp σ2, am_us σ2)) rfl (by omega) (Nat.le_of_eq hf2.tp) (Nat.le_of_eq hf2.us) rfl (Nat.le_of_ble_eq_true rfl) (am_recv hH2.1) ?_
        refine c_yfind hH2 hP2 hpt (fun _ _ => ?_)
        simp only [if_true]
        have hss2 : xo_ss (pre.filter (yown lab) ++ x :: S.filter (yown lab)) := by
          rw [← hL, hV, List.filter_append, List.filter_cons, if_pos own] at hss
          exact hss
        have hmid := xo_ss_mid hss2
        have eL : (pre.filter (yown lab)).filter (fun e => !B e) ++ (x :: S).filter (yown lab) = (pre.filter (yown lab)).filter (fun e => !B e) ++ x :: S.filter (yown lab) := by rw [List.filter_cons, if_pos own]
        rw [eL, xr_find_at rfl _ _ (fun f hf => hmid f (List.mem_filter.mp hf).1)]
        simp (disch := omega) only [Option.toList_some, Option.toList_none, List.cons_append, List.nil_append, List.append_nil]
        refine am_callK [.ref m, .int (nI p), .int (nI (6 * p + ((pre.filter (yown lab)).filter (fun e => !B e)).length))] [] (d' := 0) (lim' := (am_tp σ2, am_us σ2)) rfl (by omega) (Nat.le_of_eq hf2.tp) (Nat.le_of_eq hf2.us) rfl (Nat.le_of_ble_eq_true rfl) (am_recv hH2.1) ?_
        refine c_yremove hH2 hP2 hpt (by simp only [if_true]; rw [eL, List.length_append, List.length_cons]; omega) (fun σ3 hP3 f3 t3 u3 => ?_)
        have hf3 : yuG m σ0 σ3 := hf2.tr (f3.mono (fun b x => Or.inl x))
        simp (disch := omega) only [ax_const, ax_iload, ax_lload, ax_aload, ax_istore, ax_astore, ax_iinc, ax_i2, ax_i2n, ax_l2, ax_lsh, ax_ii, ax_il, ax_li, ax_pop, ax_dup, ax_dup2, ax_if, ax_cmp, ax_acmp, ax_goto, ax_getI, ax_getR, ax_putI, ax_putR, ax_gets, ax_getsT, ax_aldI, ax_aldR, ax_astI, ax_astR, ax_alen, ax_ret, ax_aret, ax_vret, am_st, am_kl, List.getElem?_cons_zero, List.getElem?_cons_succ, List.set_cons_zero, List.set_cons_succ, Value.category, true_and, and_true, if_true, if_false, reduceCtorEq, Bool.false_eq_true, false_implies, forall_const, Option.some.injEq, exists_eq_left', exists_eq_left, Sum.inl.injEq, Sum.inr.injEq, Prod.mk.injEq, Option.toList_some, Option.toList_none, List.cons_append, List.nil_append, List.append_nil, nI_toInt, nI_clamp, am_ix_nI, am_ix_0, am_ix_1, am_ix_2, am_ix_3, am_n0, am_n1, am_n2, am_n3, am_n4, am_t0, am_t1, am_t2, am_t3, am_t4, am_tm1, am_nS, am_nP, am_nM, Int.ofNat_lt, Int.ofNat_le]
        have nx := ih (pre ++ [x]) σ3 (by rw [hV]; simp) (hP3.ext (fun q => ?_)) hf3
        · have e2 : ((pre ++ [x]).filter (yown lab)).filter B = (pre.filter (yown lab)).filter B ++ [x] := by
            rw [List.filter_append, List.filter_append]
            simp [own, hb]
          rw [e2, List.length_append, List.length_append, List.length_cons, List.length_nil] at nx
          exact nx
        · by_cases c : q = p
          · rw [if_pos c, if_pos c, if_pos rfl, eL, xr_erase, List.filter_append, List.filter_append]
            simp [own, hb]
          · rw [if_neg c, if_neg c, if_neg c]
    · refine skip _ ?_ hP1 hf1
      unfold yown
      rw [decide_eq_false el]; rfl
theorem c_ydel {g : am_G} {l : Launch} {σ : am_S} {m p lab : Nat} {T : Nat → Nat} {o cm : yp_O} {V : List xr_E} {B : xr_E → Bool} {P : Nat → List xr_E} {Q : Option Value → am_S → Prop} (hp : yUp T o cm B) (h : yUs σ m T o V) (hP : ym_P σ m P) (hpt : p < 32) (hL : V.filter (yown lab) = P p) (hss : xo_ss (P p))
    (hQ : ∀ σ', ym_P σ' m (fun i => if i = p then (P p).filter (fun e => !B e) else P i) → yuG m σ σ' → Q (some (.int (nI ((P p).filter B).length))) σ') : am_C g l mX10_deleted 3 (am_tp σ, am_us σ) [.ref m, .int (nI p), .int (nI lab)] σ Q := by
  refine am_C.go [some (.ref m), some (.int (nI p)), some (.int (nI lab)), none, none] (by decide +kernel) (Nat.le_of_ble_eq_true rfl) rfl (kX10_deleted_0 ?_)
  simp (disch := omega) only [ax_const, ax_iload, ax_lload, ax_aload, ax_istore, ax_astore, ax_iinc, ax_i2, ax_i2n, ax_l2, ax_lsh, ax_ii, ax_il, ax_li, ax_pop, ax_dup, ax_dup2, ax_if, ax_cmp, ax_acmp, ax_goto, ax_getI, ax_getR, ax_putI, ax_putR, ax_gets, ax_getsT, ax_aldI, ax_aldR, ax_astI, ax_astR, ax_alen, ax_ret, ax_aret, ax_vret, am_st, am_kl, List.getElem?_cons_zero, List.getElem?_cons_succ, List.set_cons_zero, List.set_cons_succ, Value.category, true_and, and_true, if_true, if_false, reduceCtorEq, Bool.false_eq_true, false_implies, forall_const, Option.some.injEq, exists_eq_left', exists_eq_left, Sum.inl.injEq, Sum.inr.injEq, Prod.mk.injEq]
  exact yde_5 (Nat.le_refl _) hp h hpt hL hss hQ V [] σ rfl (hP.ext (fun q => by
    split
    · rename_i c
      rw [c]
      simpa using hL
    · rfl)) .rf
