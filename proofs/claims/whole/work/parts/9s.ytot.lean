/-! select: total -/
def yTwo (T : Nat → Nat) (o : yp_O) : Prop := ∃ p, p < 12 ∧ ((2 : Nat), nI p) ∈ o ∧ ykt T p = 1
def yS2 (σ : am_S) (m : Nat) (T : Nat → Nat) (o : yp_O) (V1 V2 : List xr_E) (FL : List (Nat × Nat)) : Prop :=
  ym_H σ m ∧ yR σ m T ∧ ykI σ m o.length T o ∧ ym_N σ m 0 V1 ∧ (yTwo T o → ym_N σ m 1 V2) ∧ yFd σ m FL ∧ (∀ (q : Nat) (p : Nat × Nat), FL[q]? = some p → p.1 < V1.length ∧ (yTwo T o → p.2 < V2.length)) ∧ o.length ≤ 99 ∧ yk o ∧ ∀ q, q ∈ o → q.1 < 100
theorem yS2.f {σ σ' : am_S} {m : Nat} {T : Nat → Nat} {o : yp_O} {V1 V2 : List xr_E} {FL : List (Nat × Nat)} (h : yS2 σ m T o V1 V2 FL) (hf : yuF m σ σ') : yS2 σ' m T o V1 V2 FL := by
  obtain ⟨h1, h2, h3, h4, h5, h6, h7⟩ := h
  refine ⟨h1.f hf, h2.fr (hf.i (by omega)) (hf.i (by omega)) (hf.i (by omega)) (hf.i (by omega)) (hf.i (by omega)), h3.f (by rw [hf.i (a := m) (by omega)]) (hf.i (by omega)) (hf.i (by omega)), ?_, fun q => ?_, ?_, h7⟩
  · unfold ym_N ym_cells
    rw [hf.i (a := m + 20) (by omega), hf.i (a := m + 21) (by omega)]
    exact h4
  · have := h5 q
    unfold ym_N ym_cells at this ⊢
    rw [hf.i (a := m + 20) (by omega), hf.i (a := m + 21) (by omega)]
    exact this
  · unfold yFd
    rw [hf.i (a := m) (by omega), hf.i (a := m + 24) (by omega), hf.i (a := m + 25) (by omega)]
    exact h6
theorem yS2.E {σ : am_S} {m q i j : Nat} {T : Nat → Nat} {o : yp_O} {V1 V2 : List xr_E} {FL : List (Nat × Nat)} (h : yS2 σ m T o V1 V2 FL) (hq : FL[q]? = some (i, j)) (e0 : am_i σ (m + 22) 0 = nI i) (e1 : am_i σ (m + 22) 1 = nI j) : ykE σ m T o (yv2 T (V1.getD i xr_0) (V2.getD j xr_0)) := by
  obtain ⟨h1, h2, h3, h4, h5, h6, h7, -⟩ := h
  obtain ⟨g1, g2⟩ := h7 q _ hq
  exact yv2_E h4 (fun z => ⟨h5 z, xl_get (g2 z)⟩) (xl_get g1) e0 e1
/-- a term's worth over the rows -/
def yTm (T : Nat → Nat) (o : yp_O) (c : Nat) (val : xr_E → xr_E → Int32) : Prop := ∃ cv, yz o (T (9 + c)) (T (13 + c)) cv ∧ ∀ a b, ym_run (yv2 T a b) cv [] = some [val a b]
theorem yto_41 {g : am_G} {l : Launch} {m d c gp : Nat} {T : Nat → Nat} {o : yp_O} {V1 V2 : List xr_E} {FL : List (Nat × Nat)} {GO : List Nat} {val : xr_E → xr_E → Int32} {R : Int32} {σ0 : am_S} {Q : Option Value → am_S → Prop} (hd : 2 ≤ d) (h0 : yS2 σ0 m T o V1 V2 FL) (hc : c < 4) (hk : T (5 + c) = 1 ∨ T (5 + c) = 2) (hv : T (5 + c) ≠ 1 → yTm T o c val) (hgp : gp < 64) (hlen : GO.length = FL.length) (hGO : ∀ (q x : Nat), GO[q]? = some x → x < 64 ∧ am_i σ0 (m + 26) q = nI x)
    (hQ : ∀ σ', yuF m σ0 σ' → Q (some (.int R)) σ') :
    ∀ (S pre : List Nat) (t : Int32) (σ : am_S), GO = pre ++ S → xl_vf (T (5 + c) + 1) (xl_at val V1 V2 FL) gp S pre.length t = R → yuF m σ0 σ → am_W g l mX10_total d (am_tp σ0, am_us σ0) Q 41 [some (.ref m), some (.int (nI c)), some (.int (nI gp)), some (.int t), some (.int (nI pre.length))] [] σ := by
  intro S
  induction S with
  | nil =>
    intro pre t σ hG hR hf
    have h := h0.f hf
    have hH := h.1
    have hl : FL.length = pre.length := by rw [← hlen, hG]; simp
    have h40 := h.2.2.2.2.2.1.2.1
    have hR : t = R := hR
    subst hR
    refine kX10_total_41 ?_
    simp (disch := omega) only [ax_const, ax_iload, ax_lload, ax_aload, ax_istore, ax_astore, ax_iinc, ax_i2, ax_i2n, ax_l2, ax_lsh, ax_ii, ax_il, ax_li, ax_pop, ax_dup, ax_dup2, ax_if, ax_cmp, ax_acmp, ax_goto, ax_getI, ax_getR, ax_putI, ax_putR, ax_gets, ax_getsT, ax_aldI, ax_aldR, ax_astI, ax_astR, ax_alen, ax_ret, ax_aret, ax_vret, am_st, am_kl, List.getElem?_cons_zero, List.getElem?_cons_succ, List.set_cons_zero, List.set_cons_succ, Value.category, true_and, and_true, if_true, if_false, reduceCtorEq, Bool.false_eq_true, false_implies, forall_const, Option.some.injEq, exists_eq_left', exists_eq_left, Sum.inl.injEq, Sum.inr.injEq, Prod.mk.injEq, nI_toInt, nI_clamp, am_ix_nI, am_ix_0, am_ix_1, am_ix_2, am_ix_3, am_n0, am_n1, am_n2, am_n3, am_n4, am_t0, am_t1, am_t2, am_t3, am_t4, am_tm1, am_nS, am_nP, am_nM, Int.ofNat_lt, Int.ofNat_le, hH.1, h.2.2.2.2.2.1.1]
    exact ⟨fun z => by omega, fun _ => ⟨hf.tp, hf.us, hQ σ hf⟩⟩
  | cons x S ih =>
    intro pre t σ hG hR hf
    have h := h0.f hf
    have hH := h.1
    have hl : FL.length = pre.length + (S.length + 1) := by rw [← hlen, hG]; simp
    obtain ⟨f1, f2, f3⟩ := h.2.2.2.2.2.1
    have hx : GO[pre.length]? = some x := by rw [hG]; simp
    obtain ⟨x64, hx26⟩ := hGO _ _ hx
    obtain ⟨⟨i, j⟩, hij⟩ : ∃ p, FL[pre.length]? = some p := ⟨_, List.getElem?_eq_getElem (by omega)⟩
    obtain ⟨p1, p2⟩ := f3 _ _ hij
    have hat : xl_at val V1 V2 FL pre.length = val (V1.getD i xr_0) (V2.getD j xr_0) := by
      unfold xl_at
      rw [List.getD_eq_getElem?_getD (l := FL), hij]
      rfl
    have nx : ∀ t' σ', xl_vf (T (5 + c) + 1) (xl_at val V1 V2 FL) gp S (pre.length + 1) t' = R → yuF m σ0 σ' → am_W g l mX10_total d (am_tp σ0, am_us σ0) Q 41 [some (.ref m), some (.int (nI c)), some (.int (nI gp)), some (.int t'), some (.int (nI (pre.length + 1)))] [] σ' := by
      intro t' σ' a b
      have := ih (pre ++ [x]) t' σ' (by rw [hG]; simp) (by rw [List.length_append, List.length_cons, List.length_nil]; exact a) b
      rw [List.length_append, List.length_cons, List.length_nil] at this
      exact this
    rw [xl_vf] at hR
    refine kX10_total_41 ?_
    simp (disch := omega) only [ax_const, ax_iload, ax_lload, ax_aload, ax_istore, ax_astore, ax_iinc, ax_i2, ax_i2n, ax_l2, ax_lsh, ax_ii, ax_il, ax_li, ax_pop, ax_dup, ax_dup2, ax_if, ax_cmp, ax_acmp, ax_goto, ax_getI, ax_getR, ax_putI, ax_putR, ax_gets, ax_getsT, ax_aldI, ax_aldR, ax_astI, ax_astR, ax_alen, ax_ret, ax_aret, ax_vret, am_st, am_kl, List.getElem?_cons_zero, List.getElem?_cons_succ, List.set_cons_zero, List.set_cons_succ, Value.category, true_and, and_true, if_true, if_false, reduceCtorEq, Bool.false_eq_true, false_implies, forall_const, Option.some.injEq, exists_eq_left', exists_eq_left, Sum.inl.injEq, Sum.inr.injEq, Prod.mk.injEq, nI_toInt, nI_clamp, am_ix_nI, am_ix_0, am_ix_1, am_ix_2, am_ix_3, am_n0, am_n1, am_n2, am_n3, am_n4, am_t0, am_t1, am_t2, am_t3, am_t4, am_tm1, am_nS, am_nP, am_nM, Int.ofNat_lt, Int.ofNat_le, hH.1, f1]
    refine ⟨fun _ => ?_, fun z => by omega⟩
    refine am_callK [.ref m, .int (nI pre.length)] [] (d' := 0) (lim' := (am_tp σ, am_us σ)) rfl (by omega) (Nat.le_of_eq hf.tp) (Nat.le_of_eq hf.us) rfl (Nat.le_of_ble_eq_true rfl) (am_recv hH.1) ?_
    refine c_ypoint hH (by omega) p1 p2 (fun σ1 q1 q2 g1 t1 u1 => ?_)
    have F1 : yuF m σ0 σ1 := ym_f.tr hf (g1.mono (fun b x => Or.inl x))
    have h1 := h0.f F1
    have hH1 := h1.1
    have e26 : am_i σ1 (m + 26) pre.length = nI x := by rw [F1.i (a := m + 26) (by omega)]; exact hx26
    obtain ⟨r1, r2, r3⟩ := h1.2.1.2.2.2.2.1 c hc
    have y1 : (1 : Int32) = nI 1 := rfl
    simp (disch := omega) only [ax_const, ax_iload, ax_lload, ax_aload, ax_istore, ax_astore, ax_iinc, ax_i2, ax_i2n, ax_l2, ax_lsh, ax_ii, ax_il, ax_li, ax_pop, ax_dup, ax_dup2, ax_if, ax_cmp, ax_acmp, ax_goto, ax_getI, ax_getR, ax_putI, ax_putR, ax_gets, ax_getsT, ax_aldI, ax_aldR, ax_astI, ax_astR, ax_alen, ax_ret, ax_aret, ax_vret, am_st, am_kl, List.getElem?_cons_zero, List.getElem?_cons_succ, List.set_cons_zero, List.set_cons_succ, Value.category, true_and, and_true, if_true, if_false, reduceCtorEq, Bool.false_eq_true, false_implies, forall_const, Option.some.injEq, exists_eq_left', exists_eq_left, Sum.inl.injEq, Sum.inr.injEq, Prod.mk.injEq, Option.toList_some, Option.toList_none, List.cons_append, List.nil_append, List.append_nil, nI_toInt, nI_clamp, am_ix_nI, am_ix_0, am_ix_1, am_ix_2, am_ix_3, am_n0, am_n1, am_n2, am_n3, am_n4, am_t0, am_t1, am_t2, am_t3, am_t4, am_tm1, am_nS, am_nP, am_nM, Int.ofNat_lt, Int.ofNat_le, hH1.1, hH1.r29, hH1.s29, hH1.r48, hH1.s48, e26, yl_eq, r1, y1, nI_add]
    refine ⟨by omega, fun ex => ⟨hc, fun ek => ?_, fun ek => ?_⟩, fun ex => ?_⟩
    · rw [if_pos ex, if_neg (by omega), if_pos (by omega)] at hR
      exact nx _ _ hR F1
    · rw [if_pos ex, if_neg (by omega), if_neg (by omega), hat] at hR
      obtain ⟨cv, hz, hcv⟩ := hv ek
      simp (disch := omega) only [ax_const, ax_iload, ax_lload, ax_aload, ax_istore, ax_astore, ax_iinc, ax_i2, ax_i2n, ax_l2, ax_lsh, ax_ii, ax_il, ax_li, ax_pop, ax_dup, ax_dup2, ax_if, ax_cmp, ax_acmp, ax_goto, ax_getI, ax_getR, ax_putI, ax_putR, ax_gets, ax_getsT, ax_aldI, ax_aldR, ax_astI, ax_astR, ax_alen, ax_ret, ax_aret, ax_vret, am_st, am_kl, List.getElem?_cons_zero, List.getElem?_cons_succ, List.set_cons_zero, List.set_cons_succ, Value.category, true_and, and_true, if_true, if_false, reduceCtorEq, Bool.false_eq_true, false_implies, forall_const, Option.some.injEq, exists_eq_left', exists_eq_left, Sum.inl.injEq, Sum.inr.injEq, Prod.mk.injEq, nI_toInt, nI_clamp, am_ix_nI, am_ix_0, am_ix_1, am_ix_2, am_ix_3, am_n0, am_n1, am_n2, am_n3, am_n4, am_t0, am_t1, am_t2, am_t3, am_t4, am_tm1, am_nS, am_nP, am_nM, Int.ofNat_lt, Int.ofNat_le, hH1.1, hH1.r30, hH1.s30, hH1.r31, hH1.s31, r2, r3]
      refine ⟨hc, hc, ?_⟩
      refine am_callK [.ref m, .int (nI (T (9 + c))), .int (nI (T (13 + c)))] [.int t] (d' := 1) (lim' := (am_tp σ1, am_us σ1)) rfl (by omega) (Nat.le_of_eq F1.tp) (Nat.le_of_eq F1.us) rfl (Nat.le_of_ble_eq_true rfl) (am_recv hH1.1) ?_
      refine c_ywork hH1 h1.2.2.2.2.2.2.2.1 h1.2.2.1 h1.2.2.2.2.2.2.2.2.1 h1.2.2.2.2.2.2.2.2.2 (h1.E hij q1 q2) hz (hcv _ _) (fun σ2 g2 t2 u2 => ?_)
      simp (disch := omega) only [ax_const, ax_iload, ax_lload, ax_aload, ax_istore, ax_astore, ax_iinc, ax_i2, ax_i2n, ax_l2, ax_lsh, ax_ii, ax_il, ax_li, ax_pop, ax_dup, ax_dup2, ax_if, ax_cmp, ax_acmp, ax_goto, ax_getI, ax_getR, ax_putI, ax_putR, ax_gets, ax_getsT, ax_aldI, ax_aldR, ax_astI, ax_astR, ax_alen, ax_ret, ax_aret, ax_vret, am_st, am_kl, List.getElem?_cons_zero, List.getElem?_cons_succ, List.set_cons_zero, List.set_cons_succ, Value.category, true_and, and_true, if_true, if_false, reduceCtorEq, Bool.false_eq_true, false_implies, forall_const, Option.some.injEq, exists_eq_left', exists_eq_left, Sum.inl.injEq, Sum.inr.injEq, Prod.mk.injEq, Option.toList_some, Option.toList_none, List.cons_append, List.nil_append, List.append_nil, nI_toInt, nI_clamp, am_ix_nI, am_ix_0, am_ix_1, am_ix_2, am_ix_3, am_n0, am_n1, am_n2, am_n3, am_n4, am_t0, am_t1, am_t2, am_t3, am_t4, am_tm1, am_nS, am_nP, am_nM, Int.ofNat_lt, Int.ofNat_le, nI_add]
      exact nx _ _ hR (ym_f.tr F1 (g2.mono (fun b x => Or.inr x)))
    · rw [if_neg ex] at hR
      exact nx _ _ hR F1
theorem c_ytotal {g : am_G} {l : Launch} {σ : am_S} {m c gp fst : Nat} {T : Nat → Nat} {o : yp_O} {V1 V2 : List xr_E} {FL : List (Nat × Nat)} {GO : List Nat} {val : xr_E → xr_E → Int32} {Q : Option Value → am_S → Prop} (h : yS2 σ m T o V1 V2 FL) (hc : c < 4) (hk : T (5 + c) < 3) (hv : T (5 + c) ≠ 1 → yTm T o c val) (hgp : gp < 40) (hlen : GO.length = FL.length) (hGO : ∀ (q x : Nat), GO[q]? = some x → x < 64 ∧ am_i σ (m + 26) q = nI x) (hfst : am_i σ (m + 28) gp = nI fst) (hfl : fst < FL.length)
    (hQ : ∀ σ', yuF m σ σ' → Q (some (.int (if T (5 + c) = 0 then xl_at val V1 V2 FL fst else xl_vf (T (5 + c) + 1) (xl_at val V1 V2 FL) gp GO 0 0))) σ') : am_C g l mX10_total 2 (am_tp σ, am_us σ) [.ref m, .int (nI c), .int (nI gp)] σ Q := by
  have hH := h.1
  obtain ⟨f1, f2, f3⟩ := h.2.2.2.2.2.1
  obtain ⟨⟨i, j⟩, hij⟩ : ∃ p, FL[fst]? = some p := ⟨_, List.getElem?_eq_getElem hfl⟩
  obtain ⟨p1, p2⟩ := f3 _ _ hij
  have hat : xl_at val V1 V2 FL fst = val (V1.getD i xr_0) (V2.getD j xr_0) := by
    unfold xl_at
    rw [List.getD_eq_getElem?_getD (l := FL), hij]
    rfl
  have y0 : (0 : Int32) = nI 0 := rfl
  refine am_C.go [some (.ref m), some (.int (nI c)), some (.int (nI gp)), none, none] (by decide +kernel) (Nat.le_of_ble_eq_true rfl) rfl (kX10_total_0 ?_)
  simp (disch := omega) only [ax_const, ax_iload, ax_lload, ax_aload, ax_istore, ax_astore, ax_iinc, ax_i2, ax_i2n, ax_l2, ax_lsh, ax_ii, ax_il, ax_li, ax_pop, ax_dup, ax_dup2, ax_if, ax_cmp, ax_acmp, ax_goto, ax_getI, ax_getR, ax_putI, ax_putR, ax_gets, ax_getsT, ax_aldI, ax_aldR, ax_astI, ax_astR, ax_alen, ax_ret, ax_aret, ax_vret, am_st, am_kl, List.getElem?_cons_zero, List.getElem?_cons_succ, List.set_cons_zero, List.set_cons_succ, Value.category, true_and, and_true, if_true, if_false, reduceCtorEq, Bool.false_eq_true, false_implies, forall_const, Option.some.injEq, exists_eq_left', exists_eq_left, Sum.inl.injEq, Sum.inr.injEq, Prod.mk.injEq, nI_toInt, nI_clamp, am_ix_nI, am_ix_0, am_ix_1, am_ix_2, am_ix_3, am_n0, am_n1, am_n2, am_n3, am_n4, am_t0, am_t1, am_t2, am_t3, am_t4, am_tm1, am_nS, am_nP, am_nM, Int.ofNat_lt, Int.ofNat_le, hH.1, hH.r50, hH.s50, hfst]
  refine ⟨hgp, ?_⟩
  refine am_callK [.ref m, .int (nI fst)] [] (d' := 0) (lim' := (am_tp σ, am_us σ)) rfl (by omega) (Nat.le_refl _) (Nat.le_refl _) rfl (Nat.le_of_ble_eq_true rfl) (am_recv hH.1) ?_
  refine c_ypoint hH (by omega) p1 p2 (fun σ1 q1 q2 g1 t1 u1 => ?_)
  have F1 : yuF m σ σ1 := g1.mono (fun b x => Or.inl x)
  have h1 := h.f F1
  have hH1 := h1.1
  obtain ⟨r1, r2, r3⟩ := h1.2.1.2.2.2.2.1 c hc
  have e0 : (nI (T (5 + c)) = 0) ↔ T (5 + c) = 0 := nI_inj (b := 0) (by omega) (by decide)
  simp (disch := omega) only [ax_const, ax_iload, ax_lload, ax_aload, ax_istore, ax_astore, ax_iinc, ax_i2, ax_i2n, ax_l2, ax_lsh, ax_ii, ax_il, ax_li, ax_pop, ax_dup, ax_dup2, ax_if, ax_cmp, ax_acmp, ax_goto, ax_getI, ax_getR, ax_putI, ax_putR, ax_gets, ax_getsT, ax_aldI, ax_aldR, ax_astI, ax_astR, ax_alen, ax_ret, ax_aret, ax_vret, am_st, am_kl, List.getElem?_cons_zero, List.getElem?_cons_succ, List.set_cons_zero, List.set_cons_succ, Value.category, true_and, and_true, if_true, if_false, reduceCtorEq, Bool.false_eq_true, false_implies, forall_const, Option.some.injEq, exists_eq_left', exists_eq_left, Sum.inl.injEq, Sum.inr.injEq, Prod.mk.injEq, Option.toList_some, Option.toList_none, List.cons_append, List.nil_append, List.append_nil, nI_toInt, nI_clamp, am_ix_nI, am_ix_0, am_ix_1, am_ix_2, am_ix_3, am_n0, am_n1, am_n2, am_n3, am_n4, am_t0, am_t1, am_t2, am_t3, am_t4, am_tm1, am_nS, am_nP, am_nM, Int.ofNat_lt, Int.ofNat_le, hH1.1, hH1.r29, hH1.s29, r1, e0]
  refine ⟨hc, fun ek => ?_, fun ek => ?_⟩
  · rw [if_pos ek, hat] at hQ
    obtain ⟨cv, hz, hcv⟩ := hv (by omega)
    simp (disch := omega) only [ax_const, ax_iload, ax_lload, ax_aload, ax_istore, ax_astore, ax_iinc, ax_i2, ax_i2n, ax_l2, ax_lsh, ax_ii, ax_il, ax_li, ax_pop, ax_dup, ax_dup2, ax_if, ax_cmp, ax_acmp, ax_goto, ax_getI, ax_getR, ax_putI, ax_putR, ax_gets, ax_getsT, ax_aldI, ax_aldR, ax_astI, ax_astR, ax_alen, ax_ret, ax_aret, ax_vret, am_st, am_kl, List.getElem?_cons_zero, List.getElem?_cons_succ, List.set_cons_zero, List.set_cons_succ, Value.category, true_and, and_true, if_true, if_false, reduceCtorEq, Bool.false_eq_true, false_implies, forall_const, Option.some.injEq, exists_eq_left', exists_eq_left, Sum.inl.injEq, Sum.inr.injEq, Prod.mk.injEq, nI_toInt, nI_clamp, am_ix_nI, am_ix_0, am_ix_1, am_ix_2, am_ix_3, am_n0, am_n1, am_n2, am_n3, am_n4, am_t0, am_t1, am_t2, am_t3, am_t4, am_tm1, am_nS, am_nP, am_nM, Int.ofNat_lt, Int.ofNat_le, hH1.1, hH1.r30, hH1.s30, hH1.r31, hH1.s31, r2, r3]
    refine ⟨hc, hc, ?_⟩
    refine am_callK [.ref m, .int (nI (T (9 + c))), .int (nI (T (13 + c)))] [] (d' := 1) (lim' := (am_tp σ1, am_us σ1)) rfl (by omega) (Nat.le_of_eq F1.tp) (Nat.le_of_eq F1.us) rfl (Nat.le_of_ble_eq_true rfl) (am_recv hH1.1) ?_
    refine c_ywork hH1 h1.2.2.2.2.2.2.2.1 h1.2.2.1 h1.2.2.2.2.2.2.2.2.1 h1.2.2.2.2.2.2.2.2.2 (h1.E hij q1 q2) hz (hcv _ _) (fun σ2 g2 t2 u2 => ?_)
    simp (disch := omega) only [ax_const, ax_iload, ax_lload, ax_aload, ax_istore, ax_astore, ax_iinc, ax_i2, ax_i2n, ax_l2, ax_lsh, ax_ii, ax_il, ax_li, ax_pop, ax_dup, ax_dup2, ax_if, ax_cmp, ax_acmp, ax_goto, ax_getI, ax_getR, ax_putI, ax_putR, ax_gets, ax_getsT, ax_aldI, ax_aldR, ax_astI, ax_astR, ax_alen, ax_ret, ax_aret, ax_vret, am_st, am_kl, List.getElem?_cons_zero, List.getElem?_cons_succ, List.set_cons_zero, List.set_cons_succ, Value.category, true_and, and_true, if_true, if_false, reduceCtorEq, Bool.false_eq_true, false_implies, forall_const, Option.some.injEq, exists_eq_left', exists_eq_left, Sum.inl.injEq, Sum.inr.injEq, Prod.mk.injEq, Option.toList_some, Option.toList_none, List.cons_append, List.nil_append, List.append_nil, nI_toInt, nI_clamp, am_ix_nI, am_ix_0, am_ix_1, am_ix_2, am_ix_3, am_n0, am_n1, am_n2, am_n3, am_n4, am_t0, am_t1, am_t2, am_t3, am_t4, am_tm1, am_nS, am_nP, am_nM, Int.ofNat_lt, Int.ofNat_le]
    exact ⟨t2.trans F1.tp, u2.trans F1.us, hQ σ2 (ym_f.tr F1 (g2.mono (fun b x => Or.inr x)))⟩
  · rw [if_neg ek] at hQ
    exact yto_41 (σ0 := σ) (Nat.le_refl _) h hc (by omega) hv (by omega) hlen hGO hQ GO [] 0 σ1 rfl rfl F1
