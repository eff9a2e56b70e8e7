/-! makes -/
def yv1 (e : xr_E) (o : Nat) : Int32 := xr_col e (o % 4)
/-- a statement over one table: its codes, and its condition over a row -/
def yUp (T : Nat → Nat) (o cm : yp_O) (B : xr_E → Bool) : Prop := o.length ≤ 99 ∧ yk o ∧ (∀ q, q ∈ o → q.1 < 100) ∧ (∀ p, p < 12 → ((2 : Nat), nI p) ∈ o → ykt T p = 0) ∧ ∀ e, (T 17 = 0 ∧ B e = true) ∨ (T 17 = 1 ∧ yz o (T 18) (T 19) cm ∧ ym_run (yv1 e) cm [] = some [if B e = true then 1 else 0])
def yUs (σ : am_S) (m : Nat) (T : Nat → Nat) (o : yp_O) (V : List xr_E) : Prop := ym_H σ m ∧ yR σ m T ∧ ykI σ m o.length T o ∧ ym_N σ m 0 V
def yuF (m : Nat) (σ σ' : am_S) : Prop := ym_f (fun b => b = m + 22 ∨ b = m + 23) σ σ'
theorem yUs.f {σ σ' : am_S} {m : Nat} {T : Nat → Nat} {o : yp_O} {V : List xr_E} (h : yUs σ m T o V) (hf : yuF m σ σ') : yUs σ' m T o V := by
  obtain ⟨h1, h2, h3, h4⟩ := h
  refine ⟨h1.f hf, ?_, h3.f (by rw [hf.i (a := m) (by omega)]) (hf.i (a := m + 12) (by omega)) (hf.i (a := m + 13) (by omega)), ?_⟩
  · unfold yR
    rw [hf.i (a := m) (by omega), hf.i (a := m + 16) (by omega), hf.i (a := m + 17) (by omega), hf.i (a := m + 18) (by omega), hf.i (a := m + 19) (by omega)]
    exact h2
  · unfold ym_N ym_cells
    rw [hf.i (a := m + 20) (by omega), hf.i (a := m + 21) (by omega)]
    exact h4
theorem yUs.E {σ : am_S} {m i : Nat} {T : Nat → Nat} {o cm : yp_O} {V : List xr_E} {B : xr_E → Bool} {e : xr_E} (h : yUs σ m T o V) (hp : yUp T o cm B) (he : V[i]? = some e) (ha : am_i σ (m + 22) 0 = nI i) : ykE σ m T o (yv1 e) := by
  intro p hp12 hm
  have h0 := hp.2.2.2.1 p hp12 hm
  have hil := (List.getElem?_eq_some_iff.mp he).1
  obtain ⟨n1, n2, n3⟩ := h.2.2.2
  rw [h0]
  exact ⟨i, ha, by omega, n3 i e he (p % 4) (Nat.mod_lt _ (by decide))⟩
theorem c_yh1 {g : am_G} {l : Launch} {σ : am_S} {m i : Nat} {T : Nat → Nat} {o cm : yp_O} {V : List xr_E} {B : xr_E → Bool} {e : xr_E} {Q : Option Value → am_S → Prop} (h : yUs σ m T o V) (hp : yUp T o cm B) (he : V[i]? = some e) (ha : am_i σ (m + 22) 0 = nI i)
    (hQ : ∀ σ', ym_f (fun b => b = m + 23) σ σ' → Q (some (.int (if B e = true then 1 else 0))) σ') : am_C g l mX10_holdsTrue 2 (am_tp σ, am_us σ) [.ref m] σ Q :=
  c_yholds h.1 h.2.1 hp.1 h.2.2.1 hp.2.1 hp.2.2.1 (h.E hp he ha) (hp.2.2.2.2 e) hQ
def yo_c (B : xr_E → Bool) (lab i j : Nat) (e : xr_E) : Bool := decide (j < i) && (!decide (e.2.2.2 = nI lab) && B e)
def yo_ok (B : xr_E → Bool) (lab i : Nat) (k : Int32) (j : Nat) (e : xr_E) : Bool := !decide (e.1 = k) || (!decide (e.2.2.2 = nI lab) && !yo_c B lab i j e)
def yo_fr (B : xr_E → Bool) (lab i : Nat) (k : Int32) : List xr_E → Nat → Bool
  | [], _ => true
  | e :: T, j => yo_ok B lab i k j e && yo_fr B lab i k T (j + 1)
def yo_mk (B : xr_E → Bool) (lab i : Nat) (V : List xr_E) (e : xr_E) : Bool := !decide (e.2.2.2 = nI lab) && (B e && yo_fr B lab i e.1 V 0)
theorem ymk_28 {g : am_G} {l : Launch} {m d i lab : Nat} {T : Nat → Nat} {o cm : yp_O} {V : List xr_E} {B : xr_E → Bool} {e : xr_E} {σ0 : am_S} {Q : Option Value → am_S → Prop} (hd : 3 ≤ d) (hp : yUp T o cm B) (he : V[i]? = some e) (h0 : yUs σ0 m T o V)
    (hQ : ∀ σ', am_i σ' (m + 22) 0 = nI i → yuF m σ0 σ' → Q (some (.int (yb (yo_fr B lab i e.1 V 0)))) σ') :
    ∀ (S pre : List xr_E) (fr : Bool) (σ : am_S) (z5 : Option Value), V = pre ++ S → yo_fr B lab i e.1 V 0 = (fr && yo_fr B lab i e.1 S pre.length) → yuF m σ0 σ → am_W g l mX10_makes d (am_tp σ0, am_us σ0) Q 28 [some (.ref m), some (.int (nI i)), some (.int (nI lab)), some (.int (yb fr)), some (.int (nI pre.length)), z5] [] σ := by
  have hil := (List.getElem?_eq_some_iff.mp he).1
  intro S
  induction S with
  | nil =>
    intro pre fr σ z5 hV hfr hf
    have h := h0.f hf
    have hH := h.1
    obtain ⟨n1, n2, n3⟩ := h.2.2.2
    have hl : V.length = pre.length := by rw [hV]; simp
    have hfr : yo_fr B lab i e.1 V 0 = fr := by rw [hfr]; show (fr && true) = fr; rw [Bool.and_true]
    rw [hfr] at hQ
    have hb01 : yb fr = 0 ∨ yb fr = 1 := by cases fr <;> decide
    refine kX10_makes_28 ?_
    simp (disch := omega) only [ax_const, ax_iload, ax_lload, ax_aload, ax_istore, ax_astore, ax_iinc, ax_i2, ax_i2n, ax_l2, ax_lsh, ax_ii, ax_il, ax_li, ax_pop, ax_dup, ax_dup2, ax_if, ax_cmp, ax_acmp, ax_goto, ax_getI, ax_getR, ax_putI, ax_putR, ax_gets, ax_getsT, ax_aldI, ax_aldR, ax_astI, ax_astR, ax_alen, ax_ret, ax_aret, ax_vret, am_st, am_kl, List.getElem?_cons_zero, List.getElem?_cons_succ, List.set_cons_zero, List.set_cons_succ, Value.category, true_and, and_true, if_true, if_false, reduceCtorEq, Bool.false_eq_true, false_implies, forall_const, Option.some.injEq, exists_eq_left', exists_eq_left, Sum.inl.injEq, Sum.inr.injEq, Prod.mk.injEq, nI_toInt, nI_clamp, am_ix_nI, am_ix_0, am_ix_1, am_ix_2, am_ix_3, am_n0, am_n1, am_n2, am_n3, am_n4, am_t0, am_t1, am_t2, am_t3, am_t4, am_tm1, am_nS, am_nP, am_nM, Int.ofNat_lt, Int.ofNat_le, hH.1, hH.r41, hH.s41, hH.r42, hH.s42, n1]
    exact ⟨by decide, fun z => by omega, fun _ => ⟨by decide, hb01, hf.tp, hf.us, hQ _ ym_is (hf.wi (a := m + 22) (Or.inl rfl))⟩⟩
  | cons x S ih =>
    intro pre fr σ z5 hV hfr hf
    have h := h0.f hf
    have hH := h.1
    obtain ⟨n1, n2, n3⟩ := h.2.2.2
    have hx : V[pre.length]? = some x := by rw [hV]; simp
    have hl : V.length = pre.length + (S.length + 1) := by rw [hV]; simp
    have o1 : ¬ (1 : Int32) = 0 := by decide
    have cx := fun c hc => n3 pre.length x hx c hc
    have ce := fun c hc => n3 i e he c hc
    rw [yo_fr, ← Bool.and_assoc] at hfr
    have l80 : ∀ (σ1 : am_S) (b : Bool) (z : Option Value), b = yo_c B lab i pre.length x → yuF m σ0 σ1 → am_W g l mX10_makes d (am_tp σ0, am_us σ0) Q 80 [some (.ref m), some (.int (nI i)), some (.int (nI lab)), some (.int (yb fr)), some (.int (nI pre.length)), z] [.int (yb b)] σ1 := by
      intro σ1 b z eb hf1
      have h1 := h0.f hf1
      have hH1 := h1.1
      obtain ⟨m1, m2, m3⟩ := h1.2.2.2
      have cx3 : am_i σ1 (m + 20) (4 * pre.length + 3) = x.2.2.2 := by have := m3 pre.length x hx 3 (by decide); rwa [show 192 * 0 + 4 * pre.length + 3 = 4 * pre.length + 3 by omega] at this
      have cx0 : am_i σ1 (m + 20) (4 * pre.length) = x.1 := by have := m3 pre.length x hx 0 (by decide); rwa [show 192 * 0 + 4 * pre.length + 0 = 4 * pre.length by omega] at this
      have ce0 : am_i σ1 (m + 20) (4 * i) = e.1 := by have := m3 i e he 0 (by decide); rwa [show 192 * 0 + 4 * i + 0 = 4 * i by omega] at this
      have nx : ∀ fr' v z', v = yb fr' → fr' = (fr && yo_ok B lab i e.1 pre.length x) → am_W g l mX10_makes d (am_tp σ0, am_us σ0) Q 28 [some (.ref m), some (.int (nI i)), some (.int (nI lab)), some (.int v), some (.int (nI (pre.length + 1))), z'] [] σ1 := by
        intro fr' v z' ev efr
        subst ev
        have := ih (pre ++ [x]) fr' σ1 z' (by rw [hV]; simp) (by rw [hfr, efr]; simp) hf1
        rw [List.length_append, List.length_cons, List.length_nil] at this
        exact this
      refine kX10_makes_80 ?_
      cases fr with
      | false =>
        have e0 : yb false = 0 := rfl
        rw [e0]
        simp (disch := omega) only [ax_const, ax_iload, ax_lload, ax_aload, ax_istore, ax_astore, ax_iinc, ax_i2, ax_i2n, ax_l2, ax_lsh, ax_ii, ax_il, ax_li, ax_pop, ax_dup, ax_dup2, ax_if, ax_cmp, ax_acmp, ax_goto, ax_getI, ax_getR, ax_putI, ax_putR, ax_gets, ax_getsT, ax_aldI, ax_aldR, ax_astI, ax_astR, ax_alen, ax_ret, ax_aret, ax_vret, am_st, am_kl, List.getElem?_cons_zero, List.getElem?_cons_succ, List.set_cons_zero, List.set_cons_succ, Value.category, true_and, and_true, if_true, if_false, reduceCtorEq, Bool.false_eq_true, false_implies, forall_const, Option.some.injEq, exists_eq_left', exists_eq_left, Sum.inl.injEq, Sum.inr.injEq, Prod.mk.injEq, nI_toInt, nI_clamp, am_ix_nI, am_ix_0, am_ix_1, am_ix_2, am_ix_3, am_n0, am_n1, am_n2, am_n3, am_n4, am_t0, am_t1, am_t2, am_t3, am_t4, am_tm1, am_nS, am_nP, am_nM, Int.ofNat_lt, Int.ofNat_le]
        exact ⟨nx false 0 _ rfl rfl, fun z => absurd trivial z⟩
      | true =>
        have e1 : yb true = 1 := rfl
        rw [e1]
        have y4 : (4 : Int32) = nI 4 := rfl
        have y3 : (3 : Int32) = nI 3 := rfl
        simp (disch := omega) only [ax_const, ax_iload, ax_lload, ax_aload, ax_istore, ax_astore, ax_iinc, ax_i2, ax_i2n, ax_l2, ax_lsh, ax_ii, ax_il, ax_li, ax_pop, ax_dup, ax_dup2, ax_if, ax_cmp, ax_acmp, ax_goto, ax_getI, ax_getR, ax_putI, ax_putR, ax_gets, ax_getsT, ax_aldI, ax_aldR, ax_astI, ax_astR, ax_alen, ax_ret, ax_aret, ax_vret, am_st, am_kl, List.getElem?_cons_zero, List.getElem?_cons_succ, List.set_cons_zero, List.set_cons_succ, Value.category, true_and, and_true, if_true, if_false, reduceCtorEq, Bool.false_eq_true, false_implies, forall_const, Option.some.injEq, exists_eq_left', exists_eq_left, Sum.inl.injEq, Sum.inr.injEq, Prod.mk.injEq, nI_toInt, nI_clamp, am_ix_nI, am_ix_0, am_ix_1, am_ix_2, am_ix_3, am_n0, am_n1, am_n2, am_n3, am_n4, am_t0, am_t1, am_t2, am_t3, am_t4, am_tm1, am_nS, am_nP, am_nM, Int.ofNat_lt, Int.ofNat_le, hH1.1, hH1.r40, hH1.s40, o1, y4, y3, pk_mul, nI_add, cx3, cx0, ce0]
        intro _
        refine ⟨by omega, by omega, fun ek => ⟨by omega, fun el => nx false 0 _ rfl ?_, fun el => ⟨fun eb0 => nx true 1 _ rfl ?_, fun eb1 => nx false 0 _ rfl ?_⟩⟩, fun ek => nx true 1 _ rfl ?_⟩
        · unfold yo_ok
          rw [decide_eq_true ek, decide_eq_true el]; rfl
        · unfold yo_ok
          rw [decide_eq_true ek, decide_eq_false el, ← eb, yb_ne.mp eb0]; rfl
        · have : b = true := by
            cases q : b with
            | true => rfl
            | false => exact absurd (yb_ne.mpr q) eb1
          unfold yo_ok
          rw [decide_eq_true ek, decide_eq_false el, ← eb, this]; rfl
        · unfold yo_ok
          rw [decide_eq_false ek]; rfl
    refine kX10_makes_28 ?_
    have y4 : (4 : Int32) = nI 4 := rfl
    have y3 : (3 : Int32) = nI 3 := rfl
    have cx3 : am_i σ (m + 20) (4 * pre.length + 3) = x.2.2.2 := by
      have := n3 pre.length x hx 3 (by decide); rwa [show 192 * 0 + 4 * pre.length + 3 = 4 * pre.length + 3 by omega] at this
    have hf1 : yuF m σ0 (am_wi σ (m + 22) 0 (nI pre.length)) := hf.wi (a := m + 22) (Or.inl rfl)
    have h1 := h0.f hf1
    have ea : am_i (am_wi σ (m + 22) 0 (nI pre.length)) (m + 22) 0 = nI pre.length := ym_is
    simp (disch := omega) only [ax_const, ax_iload, ax_lload, ax_aload, ax_istore, ax_astore, ax_iinc, ax_i2, ax_i2n, ax_l2, ax_lsh, ax_ii, ax_il, ax_li, ax_pop, ax_dup, ax_dup2, ax_if, ax_cmp, ax_acmp, ax_goto, ax_getI, ax_getR, ax_putI, ax_putR, ax_gets, ax_getsT, ax_aldI, ax_aldR, ax_astI, ax_astR, ax_alen, ax_ret, ax_aret, ax_vret, am_st, am_kl, List.getElem?_cons_zero, List.getElem?_cons_succ, List.set_cons_zero, List.set_cons_succ, Value.category, true_and, and_true, if_true, if_false, reduceCtorEq, Bool.false_eq_true, false_implies, forall_const, Option.some.injEq, exists_eq_left', exists_eq_left, Sum.inl.injEq, Sum.inr.injEq, Prod.mk.injEq, nI_toInt, nI_clamp, am_ix_nI, am_ix_0, am_ix_1, am_ix_2, am_ix_3, am_n0, am_n1, am_n2, am_n3, am_n4, am_t0, am_t1, am_t2, am_t3, am_t4, am_tm1, am_nS, am_nP, am_nM, Int.ofNat_lt, Int.ofNat_le, am_sh_wi, am_r_wi, am_tp_wi, am_us_wi, ym_is, ym_io, ym_ij, hH.1, hH.r40, hH.s40, hH.r41, hH.s41, hH.r42, hH.s42, n1, y4, y3, pk_mul, nI_add, cx3]
    refine ⟨by decide, fun _ => ⟨by decide, fun c => ⟨by omega, fun el => l80 _ false _ ?_ hf1, fun el => ?_⟩, fun c => l80 _ false _ ?_ hf1⟩, fun z => by omega⟩
    · unfold yo_c
      rw [decide_eq_true el]; simp
    · generalize am_wi σ (m + 22) 0 (nI pre.length) = σ1 at *
      refine am_callK [.ref m] [] (d' := 2) (lim' := (am_tp σ1, am_us σ1)) rfl (by omega) (Nat.le_of_eq hf1.tp) (Nat.le_of_eq hf1.us) rfl (Nat.le_of_ble_eq_true rfl) (am_recv h1.1.1) ?_
      refine c_yh1 h1 hp hx ea (fun σ2 f2 t2 u2 => ?_)
      have hf2 : yuF m σ0 σ2 := hf1.tr (f2.mono (fun b x => Or.inr x))
      have eb : yo_c B lab i pre.length x = B x := by
        unfold yo_c
        rw [decide_eq_true c, decide_eq_false el]; rfl
      cases hb : B x with
      | true =>
        rw [if_pos rfl]
        simp (disch := omega) only [ax_const, ax_iload, ax_lload, ax_aload, ax_istore, ax_astore, ax_iinc, ax_i2, ax_i2n, ax_l2, ax_lsh, ax_ii, ax_il, ax_li, ax_pop, ax_dup, ax_dup2, ax_if, ax_cmp, ax_acmp, ax_goto, ax_getI, ax_getR, ax_putI, ax_putR, ax_gets, ax_getsT, ax_aldI, ax_aldR, ax_astI, ax_astR, ax_alen, ax_ret, ax_aret, ax_vret, am_st, am_kl, List.getElem?_cons_zero, List.getElem?_cons_succ, List.set_cons_zero, List.set_cons_succ, Value.category, true_and, and_true, if_true, if_false, reduceCtorEq, Bool.false_eq_true, false_implies, forall_const, Option.some.injEq, exists_eq_left', exists_eq_left, Sum.inl.injEq, Sum.inr.injEq, Prod.mk.injEq, Option.toList_some, Option.toList_none, List.cons_append, List.nil_append, List.append_nil, o1]
        exact fun _ => l80 σ2 true _ (by rw [eb, hb]) hf2
      | false =>
        rw [if_neg Bool.false_ne_true]
        simp (disch := omega) only [ax_const, ax_iload, ax_lload, ax_aload, ax_istore, ax_astore, ax_iinc, ax_i2, ax_i2n, ax_l2, ax_lsh, ax_ii, ax_il, ax_li, ax_pop, ax_dup, ax_dup2, ax_if, ax_cmp, ax_acmp, ax_goto, ax_getI, ax_getR, ax_putI, ax_putR, ax_gets, ax_getsT, ax_aldI, ax_aldR, ax_astI, ax_astR, ax_alen, ax_ret, ax_aret, ax_vret, am_st, am_kl, List.getElem?_cons_zero, List.getElem?_cons_succ, List.set_cons_zero, List.set_cons_succ, Value.category, true_and, and_true, if_true, if_false, reduceCtorEq, Bool.false_eq_true, false_implies, forall_const, Option.some.injEq, exists_eq_left', exists_eq_left, Sum.inl.injEq, Sum.inr.injEq, Prod.mk.injEq, Option.toList_some, Option.toList_none, List.cons_append, List.nil_append, List.append_nil]
        exact ⟨l80 σ2 false _ (by rw [eb, hb]) hf2, fun z => absurd trivial z⟩
    · unfold yo_c
      rw [decide_eq_false c]; rfl
theorem c_ymakes {g : am_G} {l : Launch} {σ : am_S} {m i lab : Nat} {T : Nat → Nat} {o cm : yp_O} {V : List xr_E} {B : xr_E → Bool} {e : xr_E} {Q : Option Value → am_S → Prop} (h : yUs σ m T o V) (hp : yUp T o cm B) (he : V[i]? = some e) (ha : am_i σ (m + 22) 0 = nI i)
    (hQ : ∀ σ', am_i σ' (m + 22) 0 = nI i → yuF m σ σ' → Q (some (.int (yb (yo_mk B lab i V e)))) σ') : am_C g l mX10_makes 3 (am_tp σ, am_us σ) [.ref m, .int (nI i), .int (nI lab)] σ Q := by
  have hH := h.1
  obtain ⟨n1, n2, n3⟩ := h.2.2.2
  have hil := (List.getElem?_eq_some_iff.mp he).1
  have o1 : ¬ (1 : Int32) = 0 := by decide
  have y4 : (4 : Int32) = nI 4 := rfl
  have y3 : (3 : Int32) = nI 3 := rfl
  have ce3 : am_i σ (m + 20) (4 * i + 3) = e.2.2.2 := by
    have := n3 i e he 3 (by decide); rwa [show 192 * 0 + 4 * i + 3 = 4 * i + 3 by omega] at this
  refine am_C.go [some (.ref m), some (.int (nI i)), some (.int (nI lab)), none, none, none] (by decide +kernel) (Nat.le_of_ble_eq_true rfl) rfl (kX10_makes_0 ?_)
  simp (disch := omega) only [ax_const, ax_iload, ax_lload, ax_aload, ax_istore, ax_astore, ax_iinc, ax_i2, ax_i2n, ax_l2, ax_lsh, ax_ii, ax_il, ax_li, ax_pop, ax_dup, ax_dup2, ax_if, ax_cmp, ax_acmp, ax_goto, ax_getI, ax_getR, ax_putI, ax_putR, ax_gets, ax_getsT, ax_aldI, ax_aldR, ax_astI, ax_astR, ax_alen, ax_ret, ax_aret, ax_vret, am_st, am_kl, List.getElem?_cons_zero, List.getElem?_cons_succ, List.set_cons_zero, List.set_cons_succ, Value.category, true_and, and_true, if_true, if_false, reduceCtorEq, Bool.false_eq_true, false_implies, forall_const, Option.some.injEq, exists_eq_left', exists_eq_left, Sum.inl.injEq, Sum.inr.injEq, Prod.mk.injEq, nI_toInt, nI_clamp, am_ix_nI, am_ix_0, am_ix_1, am_ix_2, am_ix_3, am_n0, am_n1, am_n2, am_n3, am_n4, am_t0, am_t1, am_t2, am_t3, am_t4, am_tm1, am_nS, am_nP, am_nM, Int.ofNat_lt, Int.ofNat_le, hH.1, hH.r40, hH.s40, y4, y3, pk_mul, nI_add, ce3]
  unfold yo_mk at hQ
  refine ⟨by omega, fun el => ⟨Or.inl trivial, ?_⟩, fun el => ?_⟩
  · rw [decide_eq_true el] at hQ
    exact hQ σ ha .rf
  · rw [decide_eq_false el] at hQ
    refine am_callK [.ref m] [] (d' := 2) (lim' := (am_tp σ, am_us σ)) rfl (by omega) (Nat.le_refl _) (Nat.le_refl _) rfl (Nat.le_of_ble_eq_true rfl) (am_recv hH.1) ?_
    refine c_yh1 h hp he ha (fun σ2 f2 t2 u2 => ?_)
    have hf2 : yuF m σ σ2 := f2.mono (fun b x => Or.inr x)
    cases hb : B e with
    | true =>
      rw [hb] at hQ
      rw [if_pos rfl]
      simp (disch := omega) only [ax_const, ax_iload, ax_lload, ax_aload, ax_istore, ax_astore, ax_iinc, ax_i2, ax_i2n, ax_l2, ax_lsh, ax_ii, ax_il, ax_li, ax_pop, ax_dup, ax_dup2, ax_if, ax_cmp, ax_acmp, ax_goto, ax_getI, ax_getR, ax_putI, ax_putR, ax_gets, ax_getsT, ax_aldI, ax_aldR, ax_astI, ax_astR, ax_alen, ax_ret, ax_aret, ax_vret, am_st, am_kl, List.getElem?_cons_zero, List.getElem?_cons_succ, List.set_cons_zero, List.set_cons_succ, Value.category, true_and, and_true, if_true, if_false, reduceCtorEq, Bool.false_eq_true, false_implies, forall_const, Option.some.injEq, exists_eq_left', exists_eq_left, Sum.inl.injEq, Sum.inr.injEq, Prod.mk.injEq, Option.toList_some, Option.toList_none, List.cons_append, List.nil_append, List.append_nil, o1]
      intro _
      exact ymk_28 (Nat.le_refl _) hp he h hQ V [] true σ2 none rfl rfl hf2
    | false =>
      rw [hb] at hQ
      rw [if_neg Bool.false_ne_true]
      simp (disch := omega) only [ax_const, ax_iload, ax_lload, ax_aload, ax_istore, ax_astore, ax_iinc, ax_i2, ax_i2n, ax_l2, ax_lsh, ax_ii, ax_il, ax_li, ax_pop, ax_dup, ax_dup2, ax_if, ax_cmp, ax_acmp, ax_goto, ax_getI, ax_getR, ax_putI, ax_putR, ax_gets, ax_getsT, ax_aldI, ax_aldR, ax_astI, ax_astR, ax_alen, ax_ret, ax_aret, ax_vret, am_st, am_kl, List.getElem?_cons_zero, List.getElem?_cons_succ, List.set_cons_zero, List.set_cons_succ, Value.category, true_and, and_true, if_true, if_false, reduceCtorEq, Bool.false_eq_true, false_implies, forall_const, Option.some.injEq, exists_eq_left', exists_eq_left, Sum.inl.injEq, Sum.inr.injEq, Prod.mk.injEq, Option.toList_some, Option.toList_none, List.cons_append, List.nil_append, List.append_nil]
      exact ⟨⟨Or.inl trivial, t2, u2, hQ σ2 (by rw [f2.i (a := m + 22) (by omega)]; exact ha) hf2⟩, fun z => absurd trivial z⟩
