/-! select: gather, the group of a found pair -/
def yGr (σ : am_S) (m : Nat) (GO FS : List Nat) : Prop := am_i σ m 45 = nI FS.length ∧ (∀ (q x : Nat), GO[q]? = some x → am_i σ (m + 26) q = nI x) ∧ ∀ g, g < FS.length → am_i σ (m + 28) g = nI (FS.getD g 0)
theorem yGr.u {σ σ' : am_S} {m : Nat} {GO FS : List Nat} (h : yGr σ m GO FS) (hf : yuF m σ σ') : yGr σ' m GO FS := by
  unfold yGr
  rw [hf.i (a := m) (by omega), hf.i (a := m + 26) (by omega), hf.i (a := m + 28) (by omega)]
  exact h
def yg_n (gb : Bool) (mk : Nat → Int32) (FS : List Nat) (q n g r : Nat) : Nat := if gb = true then yg_l mk FS q n g r else (if n = 0 then r else g + n - 1)
theorem ygt_112 {g : am_G} {l : Launch} {m d q : Nat} {T : Nat → Nat} {o cv : yp_O} {V1 V2 : List xr_E} {FL : List (Nat × Nat)} {GO FS : List Nat} {val : xr_E → xr_E → Int32} {fl gb : Bool} {v4 : Int32} {σ0 : am_S} {R : Nat} {Q : Option Value → am_S → Prop} (hd : 2 ≤ d) (h0 : yS2 σ0 m T o V1 V2 FL) (hG0 : yGr σ0 m GO FS) (hgb : T 21 = (if gb = true then 1 else 0)) (hfl : gb = true ∨ fl = true) (hFS : FS.length < 40) (hFl : ∀ g, g < FS.length → FS.getD g 0 < FL.length)
    (hv : gb = true → yz o (T 24) (T 24 + 1) cv ∧ (∀ a b, ym_run (yv2 T a b) cv [] = some [val a b]) ∧ v4 = xl_at val V1 V2 FL q)
    (hK : ∀ σ' z5, yuF m σ0 σ' → am_W g l mX10_gather d (am_tp σ0, am_us σ0) Q 182 [some (.ref m), some (.int (yb fl)), some (.int (nI q)), some (.int (nI R)), some (.int v4), z5] [] σ') :
    ∀ (n a r : Nat) (σ : am_S), n + a = FS.length → yg_n gb (xl_at val V1 V2 FL) FS q n a r = R → yuF m σ0 σ → am_W g l mX10_gather d (am_tp σ0, am_us σ0) Q 112 [some (.ref m), some (.int (yb fl)), some (.int (nI q)), some (.int (nI r)), some (.int v4), some (.int (nI a))] [] σ := by
  intro n
  induction n with
  | zero =>
    intro a r σ hn hR hf
    have hG := hG0.u hf
    have hH := (h0.f hf).1
    have hR : r = R := by
      rw [← hR]
      unfold yg_n yg_l
      cases gb <;> simp
    subst hR
    refine kX10_gather_112 ?_
    simp (disch := omega) only [ax_const, ax_iload, ax_lload, ax_aload, ax_istore, ax_astore, ax_iinc, ax_i2, ax_i2n, ax_l2, ax_lsh, ax_ii, ax_il, ax_li, ax_pop, ax_dup, ax_dup2, ax_if, ax_cmp, ax_acmp, ax_goto, ax_getI, ax_getR, ax_putI, ax_putR, ax_gets, ax_getsT, ax_aldI, ax_aldR, ax_astI, ax_astR, ax_alen, ax_ret, ax_aret, ax_vret, am_st, am_kl, List.getElem?_cons_zero, List.getElem?_cons_succ, List.set_cons_zero, List.set_cons_succ, Value.category, true_and, and_true, if_true, if_false, reduceCtorEq, Bool.false_eq_true, false_implies, forall_const, Option.some.injEq, exists_eq_left', exists_eq_left, Sum.inl.injEq, Sum.inr.injEq, Prod.mk.injEq, nI_toInt, nI_clamp, am_ix_nI, am_ix_0, am_ix_1, am_ix_2, am_ix_3, am_n0, am_n1, am_n2, am_n3, am_n4, am_t0, am_t1, am_t2, am_t3, am_t4, am_tm1, am_nS, am_nP, am_nM, Int.ofNat_lt, Int.ofNat_le, hH.1, hG.1]
    exact ⟨fun z => by omega, fun _ => hK σ _ hf⟩
  | succ n ih =>
    intro a r σ hn hR hf
    have hG := hG0.u hf
    have h := h0.f hf
    have hH := h.1
    have o1 : ¬ (1 : Int32) = 0 := by decide
    have e34 : am_i σ m 34 = nI (T 21) := h.2.1.2.2.2.2.2.2.2.2.2.1
    obtain ⟨f1, f2, f3⟩ := h.2.2.2.2.2.1
    have hfst := hG.2.2 a (by omega)
    have hfl2 := hFl a (by omega)
    obtain ⟨⟨i, j⟩, hij⟩ : ∃ p, FL[FS.getD a 0]? = some p := ⟨_, List.getElem?_eq_getElem hfl2⟩
    obtain ⟨p1, p2⟩ := f3 _ _ hij
    have hat : xl_at val V1 V2 FL (FS.getD a 0) = val (V1.getD i xr_0) (V2.getD j xr_0) := by
      unfold xl_at
      rw [List.getD_eq_getElem?_getD (l := FL), hij]
      rfl
    have l132 : am_W g l mX10_gather d (am_tp σ0, am_us σ0) Q 132 [some (.ref m), some (.int (yb fl)), some (.int (nI q)), some (.int (nI r)), some (.int v4), some (.int (nI a))] [] σ := by
      refine kX10_gather_132 ?_
      simp (disch := omega) only [ax_const, ax_iload, ax_lload, ax_aload, ax_istore, ax_astore, ax_iinc, ax_i2, ax_i2n, ax_l2, ax_lsh, ax_ii, ax_il, ax_li, ax_pop, ax_dup, ax_dup2, ax_if, ax_cmp, ax_acmp, ax_goto, ax_getI, ax_getR, ax_putI, ax_putR, ax_gets, ax_getsT, ax_aldI, ax_aldR, ax_astI, ax_astR, ax_alen, ax_ret, ax_aret, ax_vret, am_st, am_kl, List.getElem?_cons_zero, List.getElem?_cons_succ, List.set_cons_zero, List.set_cons_succ, Value.category, true_and, and_true, if_true, if_false, reduceCtorEq, Bool.false_eq_true, false_implies, forall_const, Option.some.injEq, exists_eq_left', exists_eq_left, Sum.inl.injEq, Sum.inr.injEq, Prod.mk.injEq, nI_toInt, nI_clamp, am_ix_nI, am_ix_0, am_ix_1, am_ix_2, am_ix_3, am_n0, am_n1, am_n2, am_n3, am_n4, am_t0, am_t1, am_t2, am_t3, am_t4, am_tm1, am_nS, am_nP, am_nM, Int.ofNat_lt, Int.ofNat_le, hH.1, hH.r50, hH.s50, hfst]
      refine ⟨by omega, ?_⟩
      refine am_callK [.ref m, .int (nI (FS.getD a 0))] [] (d' := 0) (lim' := (am_tp σ, am_us σ)) rfl (by omega) (Nat.le_of_eq hf.tp) (Nat.le_of_eq hf.us) rfl (Nat.le_of_ble_eq_true rfl) (am_recv hH.1) ?_
      refine c_ypoint hH (by omega) p1 p2 (fun σ1 q1 q2 g1 t1 u1 => ?_)
      have F1 : yuF m σ0 σ1 := ym_f.tr hf (g1.mono (fun b x => Or.inl x))
      have h1 := h0.f F1
      have hH1 := h1.1
      have x34 : am_i σ1 m 34 = nI (T 21) := h1.2.1.2.2.2.2.2.2.2.2.2.1
      have x39 : am_i σ1 m 39 = nI (T 24) := h1.2.1.2.2.2.2.2.2.2.2.2.2.2.2
      cases hgbc : gb with
      | false =>
        rw [hgbc, if_neg Bool.false_ne_true] at hgb
        rw [hgb] at x34
        have x34 : am_i σ1 m 34 = 0 := x34
        simp (disch := omega) only [ax_const, ax_iload, ax_lload, ax_aload, ax_istore, ax_astore, ax_iinc, ax_i2, ax_i2n, ax_l2, ax_lsh, ax_ii, ax_il, ax_li, ax_pop, ax_dup, ax_dup2, ax_if, ax_cmp, ax_acmp, ax_goto, ax_getI, ax_getR, ax_putI, ax_putR, ax_gets, ax_getsT, ax_aldI, ax_aldR, ax_astI, ax_astR, ax_alen, ax_ret, ax_aret, ax_vret, am_st, am_kl, List.getElem?_cons_zero, List.getElem?_cons_succ, List.set_cons_zero, List.set_cons_succ, Value.category, true_and, and_true, if_true, if_false, reduceCtorEq, Bool.false_eq_true, false_implies, forall_const, Option.some.injEq, exists_eq_left', exists_eq_left, Sum.inl.injEq, Sum.inr.injEq, Prod.mk.injEq, Option.toList_some, Option.toList_none, List.cons_append, List.nil_append, List.append_nil, nI_toInt, nI_clamp, am_ix_nI, am_ix_0, am_ix_1, am_ix_2, am_ix_3, am_n0, am_n1, am_n2, am_n3, am_n4, am_t0, am_t1, am_t2, am_t3, am_t4, am_tm1, am_nS, am_nP, am_nM, Int.ofNat_lt, Int.ofNat_le, hH1.1, x34]
        refine ⟨ih (a + 1) a σ1 (by omega) ?_ F1, fun z => absurd trivial z⟩
        rw [← hR]
        unfold yg_n
        rw [hgbc, if_neg Bool.false_ne_true, if_neg Bool.false_ne_true, if_neg (show ¬ n + 1 = 0 by omega)]
        split <;> omega
      | true =>
        rw [hgbc, if_pos rfl] at hgb
        rw [hgb] at x34
        have x34 : am_i σ1 m 34 = 1 := x34
        obtain ⟨hz, hcv, hv4⟩ := hv hgbc
        have y1 : (1 : Int32) = nI 1 := rfl
        simp (disch := omega) only [ax_const, ax_iload, ax_lload, ax_aload, ax_istore, ax_astore, ax_iinc, ax_i2, ax_i2n, ax_l2, ax_lsh, ax_ii, ax_il, ax_li, ax_pop, ax_dup, ax_dup2, ax_if, ax_cmp, ax_acmp, ax_goto, ax_getI, ax_getR, ax_putI, ax_putR, ax_gets, ax_getsT, ax_aldI, ax_aldR, ax_astI, ax_astR, ax_alen, ax_ret, ax_aret, ax_vret, am_st, am_kl, List.getElem?_cons_zero, List.getElem?_cons_succ, List.set_cons_zero, List.set_cons_succ, Value.category, true_and, and_true, if_true, if_false, reduceCtorEq, Bool.false_eq_true, false_implies, forall_const, Option.some.injEq, exists_eq_left', exists_eq_left, Sum.inl.injEq, Sum.inr.injEq, Prod.mk.injEq, Option.toList_some, Option.toList_none, List.cons_append, List.nil_append, List.append_nil, nI_toInt, nI_clamp, am_ix_nI, am_ix_0, am_ix_1, am_ix_2, am_ix_3, am_n0, am_n1, am_n2, am_n3, am_n4, am_t0, am_t1, am_t2, am_t3, am_t4, am_tm1, am_nS, am_nP, am_nM, Int.ofNat_lt, Int.ofNat_le, hH1.1, x34, o1, x39]
        intro _
        refine am_callK [.ref m, .int (nI (T 24)), .int (nI (T 24 + 1))] [] (d' := 1) (lim' := (am_tp σ1, am_us σ1)) rfl (by omega) (Nat.le_of_eq F1.tp) (Nat.le_of_eq F1.us) rfl (Nat.le_of_ble_eq_true rfl) (am_recv hH1.1) ?_
        refine c_ywork hH1 h1.2.2.2.2.2.2.2.1 h1.2.2.1 h1.2.2.2.2.2.2.2.2.1 h1.2.2.2.2.2.2.2.2.2 (h1.E hij q1 q2) hz (hcv _ _) (fun σ2 g2 t2 u2 => ?_)
        have F2 : yuF m σ0 σ2 := ym_f.tr F1 (g2.mono (fun b x => Or.inr x))
        rw [← hat]
        unfold yg_n at hR ih
        rw [hgbc, if_pos rfl, yg_l, ← hv4] at hR
        rw [hgbc] at ih
        simp only [if_true] at ih
        simp (disch := omega) only [ax_const, ax_iload, ax_lload, ax_aload, ax_istore, ax_astore, ax_iinc, ax_i2, ax_i2n, ax_l2, ax_lsh, ax_ii, ax_il, ax_li, ax_pop, ax_dup, ax_dup2, ax_if, ax_cmp, ax_acmp, ax_goto, ax_getI, ax_getR, ax_putI, ax_putR, ax_gets, ax_getsT, ax_aldI, ax_aldR, ax_astI, ax_astR, ax_alen, ax_ret, ax_aret, ax_vret, am_st, am_kl, List.getElem?_cons_zero, List.getElem?_cons_succ, List.set_cons_zero, List.set_cons_succ, Value.category, true_and, and_true, if_true, if_false, reduceCtorEq, Bool.false_eq_true, false_implies, forall_const, Option.some.injEq, exists_eq_left', exists_eq_left, Sum.inl.injEq, Sum.inr.injEq, Prod.mk.injEq, Option.toList_some, Option.toList_none, List.cons_append, List.nil_append, List.append_nil, nI_toInt, nI_clamp, am_ix_nI, am_ix_0, am_ix_1, am_ix_2, am_ix_3, am_n0, am_n1, am_n2, am_n3, am_n4, am_t0, am_t1, am_t2, am_t3, am_t4, am_tm1, am_nS, am_nP, am_nM, Int.ofNat_lt, Int.ofNat_le]
        refine ⟨fun z => ih (a + 1) a σ2 (by omega) ?_ F2, fun z => ih (a + 1) r σ2 (by omega) ?_ F2⟩
        · rw [if_pos z] at hR; exact hR
        · rw [if_neg z] at hR; exact hR
    refine kX10_gather_112 ?_
    cases hgbc : gb with
    | true =>
      rw [hgbc, if_pos rfl] at hgb
      rw [hgb] at e34
      have e34 : am_i σ m 34 = 1 := e34
      simp (disch := omega) only [ax_const, ax_iload, ax_lload, ax_aload, ax_istore, ax_astore, ax_iinc, ax_i2, ax_i2n, ax_l2, ax_lsh, ax_ii, ax_il, ax_li, ax_pop, ax_dup, ax_dup2, ax_if, ax_cmp, ax_acmp, ax_goto, ax_getI, ax_getR, ax_putI, ax_putR, ax_gets, ax_getsT, ax_aldI, ax_aldR, ax_astI, ax_astR, ax_alen, ax_ret, ax_aret, ax_vret, am_st, am_kl, List.getElem?_cons_zero, List.getElem?_cons_succ, List.set_cons_zero, List.set_cons_succ, Value.category, true_and, and_true, if_true, if_false, reduceCtorEq, Bool.false_eq_true, false_implies, forall_const, Option.some.injEq, exists_eq_left', exists_eq_left, Sum.inl.injEq, Sum.inr.injEq, Prod.mk.injEq, nI_toInt, nI_clamp, am_ix_nI, am_ix_0, am_ix_1, am_ix_2, am_ix_3, am_n0, am_n1, am_n2, am_n3, am_n4, am_t0, am_t1, am_t2, am_t3, am_t4, am_tm1, am_nS, am_nP, am_nM, Int.ofNat_lt, Int.ofNat_le, hH.1, hG.1, e34, o1]
      exact ⟨fun _ _ => l132, fun z => by omega⟩
    | false =>
      have hfl1 : fl = true := hfl.resolve_left (by rw [hgbc]; decide)
      rw [hgbc, if_neg Bool.false_ne_true] at hgb
      rw [hgb] at e34
      have e34 : am_i σ m 34 = 0 := e34
      subst hfl1
      have e1 : yb true = 1 := rfl
      rw [e1] at l132 ⊢
      simp (disch := omega) only [ax_const, ax_iload, ax_lload, ax_aload, ax_istore, ax_astore, ax_iinc, ax_i2, ax_i2n, ax_l2, ax_lsh, ax_ii, ax_il, ax_li, ax_pop, ax_dup, ax_dup2, ax_if, ax_cmp, ax_acmp, ax_goto, ax_getI, ax_getR, ax_putI, ax_putR, ax_gets, ax_getsT, ax_aldI, ax_aldR, ax_astI, ax_astR, ax_alen, ax_ret, ax_aret, ax_vret, am_st, am_kl, List.getElem?_cons_zero, List.getElem?_cons_succ, List.set_cons_zero, List.set_cons_succ, Value.category, true_and, and_true, if_true, if_false, reduceCtorEq, Bool.false_eq_true, false_implies, forall_const, Option.some.injEq, exists_eq_left', exists_eq_left, Sum.inl.injEq, Sum.inr.injEq, Prod.mk.injEq, nI_toInt, nI_clamp, am_ix_nI, am_ix_0, am_ix_1, am_ix_2, am_ix_3, am_n0, am_n1, am_n2, am_n3, am_n4, am_t0, am_t1, am_t2, am_t3, am_t4, am_tm1, am_nS, am_nP, am_nM, Int.ofNat_lt, Int.ofNat_le, hH.1, hG.1, e34, o1]
      exact ⟨fun _ => ⟨fun _ => l132, fun z => absurd trivial z⟩, fun z => by omega⟩
