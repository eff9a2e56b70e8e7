/-! the reference's parser: statement -/
theorem yw_insert : yw_f 105 110 115 101 114 116 = yw_c (xt_w 0) := by decide +kernel
theorem yw_update : yw_f 117 112 100 97 116 101 = yw_c (xt_w 1) := by decide +kernel
theorem yw_delete : yw_f 100 101 108 101 116 101 = yw_c (xt_w 2) := by decide +kernel
theorem yw_select : yw_f 115 101 108 101 99 116 = yw_c (xt_w 3) := by decide +kernel
def ys_end (ts : List (Nat × Int32)) (S : ys_S) : ys_S := (S.1, S.2.1 || !decide (S.1 + 1 = ts.length), S.2.2)
theorem yst_285 {g : am_G} {l : Launch} {σ0 σ : am_S} {m d : Nat} {S : ys_S} {ts : List (Nat × Int32)} {W : List Nat} {ns : Int32} {w : Bool} {z : Option Value} {Q : Option Value → am_S → Prop} (h : yZR σ m ts S W ns w) (f0 : ye_f m σ0 σ) (h11 : am_i σ0 m 11 = nI (ts.length - 1)) (hts1 : 1 ≤ ts.length) (hI : yI ts S)
    (hQ : ∀ σ' W' ns' w', yZR σ' m ts (ys_end ts S) W' ns' w' → ye_f m σ0 σ' → Q none σ') : am_W g l mX10_statement d (am_tp σ0, am_us σ0) Q 285 [some (.ref m), z] [] σ := by
  obtain ⟨a, b, o, T⟩ := S
  obtain ⟨h, hR⟩ := h
  have h : yZ σ m ts a b o W [] ns 0 w := h
  have hR : yR σ m T := hR
  obtain ⟨hH, hT, hP, hW, hHH⟩ := id h
  have hts := hT.1
  have o1 : ¬ (1 : Int32) = 0 := by decide
  have fin : ∀ b' v, b' = (b || !decide (a + 1 = ts.length)) → v = yb b' → am_tp (am_wi σ m 13 v) = am_tp σ0 ∧ am_us (am_wi σ m 13 v) = am_us σ0 ∧ Q none (am_wi σ m 13 v) := by
    intro b' v e ev
    subst ev
    have hf : yb_f m σ (am_wi σ m 13 (yb b')) := yb_f.rf.wf (by decide) (by decide)
    have h' : yZ (am_wi σ m 13 (yb b')) m ts a b' o W [] ns 0 w := h.up hf (hP.bd b') hW hHH
    refine ⟨f0.tp, f0.us, hQ _ W ns w ⟨?_, hR.f hf⟩ (f0.tr (ye_f.of hf))⟩
    unfold ys_end
    dsimp only
    rw [← e]
    exact h'
  refine kX10_statement_285 ?_
  cases b with
  | true =>
    have e13 : am_i σ m 13 = 1 := hP.2.1
    simp (disch := omega) only [ax_const, ax_iload, ax_lload, ax_aload, ax_istore, ax_astore, ax_iinc, ax_i2, ax_i2n, ax_l2, ax_lsh, ax_ii, ax_il, ax_li, ax_pop, ax_dup, ax_dup2, ax_if, ax_cmp, ax_acmp, ax_goto, ax_getI, ax_getR, ax_putI, ax_putR, ax_gets, ax_getsT, ax_aldI, ax_aldR, ax_astI, ax_astR, ax_alen, ax_ret, ax_aret, ax_vret, am_st, am_kl, List.getElem?_cons_zero, List.getElem?_cons_succ, List.set_cons_zero, List.set_cons_succ, Value.category, true_and, and_true, if_true, if_false, reduceCtorEq, Bool.false_eq_true, false_implies, forall_const, Option.some.injEq, exists_eq_left', exists_eq_left, Sum.inl.injEq, Sum.inr.injEq, Prod.mk.injEq, hH.1, e13, o1]
    exact fun _ => ⟨Or.inr trivial, fin true 1 (by rw [Bool.true_or]) rfl⟩
  | false =>
    have e13 : am_i σ m 13 = 0 := hP.2.1
    have e11 : am_i σ m 11 = nI (ts.length - 1) := f0.2.1.trans h11
    have ha := (hI rfl).1
    have ha : a < ts.length := ha
    simp (disch := omega) only [ax_const, ax_iload, ax_lload, ax_aload, ax_istore, ax_astore, ax_iinc, ax_i2, ax_i2n, ax_l2, ax_lsh, ax_ii, ax_il, ax_li, ax_pop, ax_dup, ax_dup2, ax_if, ax_cmp, ax_acmp, ax_goto, ax_getI, ax_getR, ax_putI, ax_putR, ax_gets, ax_getsT, ax_aldI, ax_aldR, ax_astI, ax_astR, ax_alen, ax_ret, ax_aret, ax_vret, am_st, am_kl, List.getElem?_cons_zero, List.getElem?_cons_succ, List.set_cons_zero, List.set_cons_succ, Value.category, true_and, and_true, if_true, if_false, reduceCtorEq, Bool.false_eq_true, false_implies, forall_const, Option.some.injEq, exists_eq_left', exists_eq_left, Sum.inl.injEq, Sum.inr.injEq, Prod.mk.injEq, hH.1, e13, hP.1, e11, yl_eq]
    refine ⟨⟨fun c => ⟨Or.inl trivial, fin false 0 ?_ rfl⟩, fun c => ⟨Or.inr trivial, fin true 1 ?_ rfl⟩⟩, fun z => absurd trivial z⟩
    · rw [decide_eq_true (by omega)]; rfl
    · rw [decide_eq_false (by omega)]; rfl
theorem yst_57 {g : am_G} {l : Launch} {σ0 : am_S} {m d : Nat} {ts : List (Nat × Int32)} {Q : Option Value → am_S → Prop} (hEN : xp_EN ts) (hd : 6 ≤ d) (h11 : am_i σ0 m 11 = nI (ts.length - 1)) (hts1 : 1 ≤ ts.length) : ∀ (n k : Nat) (S : ys_S) (σ : am_S) (W : List Nat) (ns : Int32) (w : Bool), n + k = 3 → yZR σ m ts S W ns w → ye_f m σ0 σ → yI ts S →
    (∀ σ' W' ns' w', yZR σ' m ts (ys_end ts (ys_ins ts n k S)) W' ns' w' → ye_f m σ0 σ' → Q none σ') → am_W g l mX10_statement d (am_tp σ0, am_us σ0) Q 57 [some (.ref m), some (.int (nI k))] [] σ := by
  intro n
  induction n with
  | zero =>
    intro k S σ W ns w hk h f0 hI hQ
    rw [ys_ins] at hQ
    refine kX10_statement_57 ?_
    simp (disch := omega) only [ax_const, ax_iload, ax_lload, ax_aload, ax_istore, ax_astore, ax_iinc, ax_i2, ax_i2n, ax_l2, ax_lsh, ax_ii, ax_il, ax_li, ax_pop, ax_dup, ax_dup2, ax_if, ax_cmp, ax_acmp, ax_goto, ax_getI, ax_getR, ax_putI, ax_putR, ax_gets, ax_getsT, ax_aldI, ax_aldR, ax_astI, ax_astR, ax_alen, ax_ret, ax_aret, ax_vret, am_st, am_kl, List.getElem?_cons_zero, List.getElem?_cons_succ, List.set_cons_zero, List.set_cons_succ, Value.category, true_and, and_true, if_true, if_false, reduceCtorEq, Bool.false_eq_true, false_implies, forall_const, Option.some.injEq, exists_eq_left', exists_eq_left, Sum.inl.injEq, Sum.inr.injEq, Prod.mk.injEq, yl_3, yl_lt]
    exact ⟨fun z => by omega, fun _ => yst_285 h f0 h11 hts1 hI hQ⟩
  | succ n ih =>
    intro k S σ W ns w hk h f0 hI hQ
    obtain ⟨a, b, o, T⟩ := S
    obtain ⟨k0, r0⟩ := id h
    have k0 : yZ σ m ts a b o W [] ns 0 w := k0
    have r0 : yR σ m T := r0
    have o1 : ¬ (1 : Int32) = 0 := by decide
    have hH := k0.1
    rw [ys_ins] at hQ
    refine kX10_statement_57 ?_
    cases b with
    | true =>
      have e13 : am_i σ m 13 = 1 := k0.2.2.1.2.1
      rw [if_pos rfl] at hQ
      simp (disch := omega) only [ax_const, ax_iload, ax_lload, ax_aload, ax_istore, ax_astore, ax_iinc, ax_i2, ax_i2n, ax_l2, ax_lsh, ax_ii, ax_il, ax_li, ax_pop, ax_dup, ax_dup2, ax_if, ax_cmp, ax_acmp, ax_goto, ax_getI, ax_getR, ax_putI, ax_putR, ax_gets, ax_getsT, ax_aldI, ax_aldR, ax_astI, ax_astR, ax_alen, ax_ret, ax_aret, ax_vret, am_st, am_kl, List.getElem?_cons_zero, List.getElem?_cons_succ, List.set_cons_zero, List.set_cons_succ, Value.category, true_and, and_true, if_true, if_false, reduceCtorEq, Bool.false_eq_true, false_implies, forall_const, Option.some.injEq, exists_eq_left', exists_eq_left, Sum.inl.injEq, Sum.inr.injEq, Prod.mk.injEq, hH.1, e13, o1, yl_3, yl_lt]
      exact ⟨fun _ _ => yst_285 h f0 h11 hts1 hI hQ, fun z => by omega⟩
    | false =>
      have e13 : am_i σ m 13 = 0 := k0.2.2.1.2.1
      rw [if_neg Bool.false_ne_true] at hQ
      have yb0 : (0 : Int32) = yb false := rfl
      simp (disch := omega) only [ax_const, ax_iload, ax_lload, ax_aload, ax_istore, ax_astore, ax_iinc, ax_i2, ax_i2n, ax_l2, ax_lsh, ax_ii, ax_il, ax_li, ax_pop, ax_dup, ax_dup2, ax_if, ax_cmp, ax_acmp, ax_goto, ax_getI, ax_getR, ax_putI, ax_putR, ax_gets, ax_getsT, ax_aldI, ax_aldR, ax_astI, ax_astR, ax_alen, ax_ret, ax_aret, ax_vret, am_st, am_kl, List.getElem?_cons_zero, List.getElem?_cons_succ, List.set_cons_zero, List.set_cons_succ, Value.category, true_and, and_true, if_true, if_false, reduceCtorEq, Bool.false_eq_true, false_implies, forall_const, Option.some.injEq, exists_eq_left', exists_eq_left, Sum.inl.injEq, Sum.inr.injEq, Prod.mk.injEq, hH.1, e13, yl_3, yl_lt]
      refine ⟨fun _ => ⟨?_, fun z => absurd trivial z⟩, fun z => by omega⟩
      refine am_callK [.ref m, .int (nI k), .int (yb false)] [] (d' := 5) (lim' := (am_tp σ, am_us σ)) rfl (by omega) (Nat.le_of_eq f0.tp) (Nat.le_of_eq f0.us) rfl (Nat.le_of_ble_eq_true rfl) (am_recv hH.1) ?_
      refine c_yterm (S := (a, false, o, T)) hEN ⟨k0, r0⟩ (by omega) rfl (hI rfl).1 (hI rfl).2 (fun σ2 W2 ns2 w2 k2 f2 t2 u2 => ?_)
      have e4 : ys_t4 k = k := if_pos (by omega)
      rw [e4] at k2
      obtain ⟨J1, J2⟩ := yI.term (i := k) (c := false) (S := (a, false, o, T)) hEN hI rfl
      generalize ys_term ts k false (a, false, o, T) = S2 at *
      obtain ⟨a2, b2, o2, T2⟩ := S2
      obtain ⟨k2, r2⟩ := k2
      have k2 : yZ σ2 m ts a2 b2 o2 W2 [] ns2 0 w2 := k2
      have r2 : yR σ2 m T2 := r2
      have J1 : a2 < ts.length := J1
      have g2 := f0.tr f2
      -- what follows a term: its badness is written, and on
      have go : ∀ (σ3 : am_S) (a3 : Nat) (b3 b4 : Bool) (v : Int32), v = yb b4 → yZ σ3 m ts a3 b3 o2 W2 [] ns2 0 w2 → yR σ3 m T2 → ye_f m σ0 σ3 → (if k < 2 then ys_need ts 22 (a2, b2, o2, T2) else (a2, b2, o2, T2)) = (a3, b4, o2, T2) → yI ts (a3, b4, o2, T2) →
          am_W g l mX10_statement d (am_tp σ0, am_us σ0) Q 57 [some (.ref m), some (.int (nI (k + 1)))] [] (am_wi σ3 m 13 v) := by
        intro σ3 a3 b3 b4 v ev k3 r3 g3 e I3
        subst ev
        rw [e] at hQ
        obtain ⟨hH3, hT3, hP3, hW3, hHH3⟩ := id k3
        have hf : yb_f m σ3 (am_wi σ3 m 13 (yb b4)) := yb_f.rf.wf (by decide) (by decide)
        exact ih (k + 1) (a3, b4, o2, T2) _ W2 ns2 w2 (by omega) ⟨k3.up hf (hP3.bd b4) hW3 hHH3, r3.f hf⟩ (g3.tr (ye_f.of hf)) I3 hQ
      have y44 : (44 : Int32) = nI (yw_s 22) := rfl
      cases b2 with
      | true =>
        have e13 : am_i σ2 m 13 = 1 := k2.2.2.1.2.1
        simp (disch := omega) only [ax_const, ax_iload, ax_lload, ax_aload, ax_istore, ax_astore, ax_iinc, ax_i2, ax_i2n, ax_l2, ax_lsh, ax_ii, ax_il, ax_li, ax_pop, ax_dup, ax_dup2, ax_if, ax_cmp, ax_acmp, ax_goto, ax_getI, ax_getR, ax_putI, ax_putR, ax_gets, ax_getsT, ax_aldI, ax_aldR, ax_astI, ax_astR, ax_alen, ax_ret, ax_aret, ax_vret, am_st, am_kl, List.getElem?_cons_zero, List.getElem?_cons_succ, List.set_cons_zero, List.set_cons_succ, Value.category, true_and, and_true, if_true, if_false, reduceCtorEq, Bool.false_eq_true, false_implies, forall_const, Option.some.injEq, exists_eq_left', exists_eq_left, Sum.inl.injEq, Sum.inr.injEq, Prod.mk.injEq, Option.toList_some, Option.toList_none, List.cons_append, List.nil_append, List.append_nil, nI_toInt, nI_clamp, am_ix_nI, am_ix_0, am_ix_1, am_ix_2, am_ix_3, am_n0, am_n1, am_n2, am_n3, am_n4, am_t0, am_t1, am_t2, am_t3, am_t4, am_tm1, am_nS, am_nP, am_nM, Int.ofNat_lt, Int.ofNat_le, k2.1.1, e13, o1]
        refine fun _ => ⟨Or.inr trivial, go σ2 a2 true true 1 rfl k2 r2 g2 ?_ (fun q => by cases q)⟩
        split
        · unfold ys_need; rw [if_pos rfl]
        · rfl
      | false =>
        have e13 : am_i σ2 m 13 = 0 := k2.2.2.1.2.1
        simp (disch := omega) only [ax_const, ax_iload, ax_lload, ax_aload, ax_istore, ax_astore, ax_iinc, ax_i2, ax_i2n, ax_l2, ax_lsh, ax_ii, ax_il, ax_li, ax_pop, ax_dup, ax_dup2, ax_if, ax_cmp, ax_acmp, ax_goto, ax_getI, ax_getR, ax_putI, ax_putR, ax_gets, ax_getsT, ax_aldI, ax_aldR, ax_astI, ax_astR, ax_alen, ax_ret, ax_aret, ax_vret, am_st, am_kl, List.getElem?_cons_zero, List.getElem?_cons_succ, List.set_cons_zero, List.set_cons_succ, Value.category, true_and, and_true, if_true, if_false, reduceCtorEq, Bool.false_eq_true, false_implies, forall_const, Option.some.injEq, exists_eq_left', exists_eq_left, Sum.inl.injEq, Sum.inr.injEq, Prod.mk.injEq, Option.toList_some, Option.toList_none, List.cons_append, List.nil_append, List.append_nil, nI_toInt, nI_clamp, am_ix_nI, am_ix_0, am_ix_1, am_ix_2, am_ix_3, am_n0, am_n1, am_n2, am_n3, am_n4, am_t0, am_t1, am_t2, am_t3, am_t4, am_tm1, am_nS, am_nP, am_nM, Int.ofNat_lt, Int.ofNat_le, k2.1.1, e13, y44, yl_2, yl_lt]
        refine ⟨⟨fun c => ?_, fun c => ⟨Or.inl trivial, go σ2 a2 false false 0 rfl k2 r2 g2 (if_neg c) J2⟩⟩, fun z => absurd trivial z⟩
        refine y_tsg k2 g2.tp g2.us J1 (by decide) (by decide) (by omega) (Nat.le_of_ble_eq_true rfl) (fun c3 σ3 k3 f3 => ?_) (fun c3 σ3 k3 f3 => ?_)
        · have hlt := hEN.lt (a := a2) (by rw [c3]; decide)
          simp (disch := omega) only [ax_const, ax_iload, ax_lload, ax_aload, ax_istore, ax_astore, ax_iinc, ax_i2, ax_i2n, ax_l2, ax_lsh, ax_ii, ax_il, ax_li, ax_pop, ax_dup, ax_dup2, ax_if, ax_cmp, ax_acmp, ax_goto, ax_getI, ax_getR, ax_putI, ax_putR, ax_gets, ax_getsT, ax_aldI, ax_aldR, ax_astI, ax_astR, ax_alen, ax_ret, ax_aret, ax_vret, am_st, am_kl, List.getElem?_cons_zero, List.getElem?_cons_succ, List.set_cons_zero, List.set_cons_succ, Value.category, true_and, and_true, if_true, if_false, reduceCtorEq, Bool.false_eq_true, false_implies, forall_const, Option.some.injEq, exists_eq_left', exists_eq_left, Sum.inl.injEq, Sum.inr.injEq, Prod.mk.injEq, nI_toInt, nI_clamp, am_ix_nI, am_ix_0, am_ix_1, am_ix_2, am_ix_3, am_n0, am_n1, am_n2, am_n3, am_n4, am_t0, am_t1, am_t2, am_t3, am_t4, am_tm1, am_nS, am_nP, am_nM, Int.ofNat_lt, Int.ofNat_le, o1, k3.1.1]
          refine fun _ => ⟨Or.inl trivial, go σ3 (a2 + 1) false false 0 rfl k3 (r2.f f3) (g2.tr (ye_f.of f3)) ?_ (fun _ => ⟨hlt, Nat.le_succ_of_le (J2 rfl).2⟩)⟩
          rw [if_pos c]
          unfold ys_need
          rw [if_neg Bool.false_ne_true, if_pos c3]
        · simp (disch := omega) only [ax_const, ax_iload, ax_lload, ax_aload, ax_istore, ax_astore, ax_iinc, ax_i2, ax_i2n, ax_l2, ax_lsh, ax_ii, ax_il, ax_li, ax_pop, ax_dup, ax_dup2, ax_if, ax_cmp, ax_acmp, ax_goto, ax_getI, ax_getR, ax_putI, ax_putR, ax_gets, ax_getsT, ax_aldI, ax_aldR, ax_astI, ax_astR, ax_alen, ax_ret, ax_aret, ax_vret, am_st, am_kl, List.getElem?_cons_zero, List.getElem?_cons_succ, List.set_cons_zero, List.set_cons_succ, Value.category, true_and, and_true, if_true, if_false, reduceCtorEq, Bool.false_eq_true, false_implies, forall_const, Option.some.injEq, exists_eq_left', exists_eq_left, Sum.inl.injEq, Sum.inr.injEq, Prod.mk.injEq, nI_toInt, nI_clamp, am_ix_nI, am_ix_0, am_ix_1, am_ix_2, am_ix_3, am_n0, am_n1, am_n2, am_n3, am_n4, am_t0, am_t1, am_t2, am_t3, am_t4, am_tm1, am_nS, am_nP, am_nM, Int.ofNat_lt, Int.ofNat_le, k3.1.1]
          refine ⟨⟨Or.inr trivial, go σ3 a2 false true 1 rfl k3 (r2.f f3) (g2.tr (ye_f.of f3)) ?_ (fun q => by cases q)⟩, fun z => absurd trivial z⟩
          rw [if_pos c]
          unfold ys_need
          rw [if_neg Bool.false_ne_true, if_neg c3]
theorem yst_211 {g : am_G} {l : Launch} {σ0 σ : am_S} {m d : Nat} {S : ys_S} {ts : List (Nat × Int32)} {W : List Nat} {ns : Int32} {w : Bool} {z : Option Value} {Q : Option Value → am_S → Prop} (hEN : xp_EN ts) (hd : 8 ≤ d) (h : yZR σ m ts S W ns w) (f0 : ye_f m σ0 σ) (h11 : am_i σ0 m 11 = nI (ts.length - 1)) (hts1 : 1 ≤ ts.length) (hI : yI ts S)
    (hQ : ∀ σ' W' ns' w', yZR σ' m ts (ys_end ts (ys_where ts S)) W' ns' w' → ye_f m σ0 σ' → Q none σ') : am_W g l mX10_statement d (am_tp σ0, am_us σ0) Q 211 [some (.ref m), z] [] σ := by
  refine kX10_statement_211 ?_
  simp (disch := omega) only [ax_const, ax_iload, ax_lload, ax_aload, ax_istore, ax_astore, ax_iinc, ax_i2, ax_i2n, ax_l2, ax_lsh, ax_ii, ax_il, ax_li, ax_pop, ax_dup, ax_dup2, ax_if, ax_cmp, ax_acmp, ax_goto, ax_getI, ax_getR, ax_putI, ax_putR, ax_gets, ax_getsT, ax_aldI, ax_aldR, ax_astI, ax_astR, ax_alen, ax_ret, ax_aret, ax_vret, am_st, am_kl, List.getElem?_cons_zero, List.getElem?_cons_succ, List.set_cons_zero, List.set_cons_succ, Value.category, true_and, and_true, if_true, if_false, reduceCtorEq, Bool.false_eq_true, false_implies, forall_const, Option.some.injEq, exists_eq_left', exists_eq_left, Sum.inl.injEq, Sum.inr.injEq, Prod.mk.injEq]
  refine am_callK [.ref m] [] (d' := 7) (lim' := (am_tp σ, am_us σ)) rfl (by omega) (Nat.le_of_eq f0.tp) (Nat.le_of_eq f0.us) rfl (Nat.le_of_ble_eq_true rfl) (am_recv h.1.1.1) ?_
  refine c_ypw hEN h (fun q => (hI q).1) (fun q => (hI q).2) (fun σ1 W1 ns1 w1 k1 f1 t1 u1 => ?_)
  simp (disch := omega) only [Option.toList_some, Option.toList_none, List.cons_append, List.nil_append, List.append_nil]
  exact yst_285 k1 (f0.tr f1) h11 hts1 (hI.wh hEN) hQ
theorem yst_195 {g : am_G} {l : Launch} {σ0 σ : am_S} {m a d : Nat} {ts : List (Nat × Int32)} {b b' : Bool} {o : yp_O} {T : Nat → Nat} {W : List Nat} {ns : Int32} {w : Bool} {z : Option Value} {Q : Option Value → am_S → Prop} (hEN : xp_EN ts) (hd : 8 ≤ d) (h : yZ σ m ts a b o W [] ns 0 w) (hR : yR σ m T) (f0 : ye_f m σ0 σ) (h11 : am_i σ0 m 11 = nI (ts.length - 1)) (hts1 : 1 ≤ ts.length) (hI : yI ts (a, b', o, T))
    (hQ : ∀ σ' W' ns' w', yZR σ' m ts (ys_end ts (ys_where ts (if b' = true then (a, b', o, T) else ys_term ts 0 false (a, b', o, T)))) W' ns' w' → ye_f m σ0 σ' → Q none σ') : am_W g l mX10_statement d (am_tp σ0, am_us σ0) Q 195 [some (.ref m), z] [.int (yb b'), .ref m] σ := by
  obtain ⟨hH, hT, hP, hW, hHH⟩ := id h
  have o1 : ¬ (1 : Int32) = 0 := by decide
  have hf : yb_f m σ (am_wi σ m 13 (yb b')) := yb_f.rf.wf (by decide) (by decide)
  have h' : yZ (am_wi σ m 13 (yb b')) m ts a b' o W [] ns 0 w := h.up hf (hP.bd b') hW hHH
  have r' := hR.f hf
  have g' := f0.tr (ye_f.of hf)
  refine kX10_statement_195 ?_
  cases b' with
  | true =>
    have h' : yZ (am_wi σ m 13 1) m ts a true o W [] ns 0 w := h'
    have r' : yR (am_wi σ m 13 1) m T := r'
    have g' : ye_f m σ0 (am_wi σ m 13 1) := g'
    have ey : yb true = 1 := rfl
    rw [ey]
    rw [if_pos rfl] at hQ
    simp (disch := omega) only [ax_const, ax_iload, ax_lload, ax_aload, ax_istore, ax_astore, ax_iinc, ax_i2, ax_i2n, ax_l2, ax_lsh, ax_ii, ax_il, ax_li, ax_pop, ax_dup, ax_dup2, ax_if, ax_cmp, ax_acmp, ax_goto, ax_getI, ax_getR, ax_putI, ax_putR, ax_gets, ax_getsT, ax_aldI, ax_aldR, ax_astI, ax_astR, ax_alen, ax_ret, ax_aret, ax_vret, am_st, am_kl, List.getElem?_cons_zero, List.getElem?_cons_succ, List.set_cons_zero, List.set_cons_succ, Value.category, true_and, and_true, if_true, if_false, reduceCtorEq, Bool.false_eq_true, false_implies, forall_const, Option.some.injEq, exists_eq_left', exists_eq_left, Sum.inl.injEq, Sum.inr.injEq, Prod.mk.injEq, am_sh_wi, am_r_wi, am_tp_wi, am_us_wi, ym_is, ym_io, ym_ij, hH.1, o1]
    exact ⟨Or.inr trivial, fun _ => yst_211 (S := (a, true, o, T)) hEN hd ⟨h', r'⟩ g' h11 hts1 hI hQ⟩
  | false =>
    have h' : yZ (am_wi σ m 13 0) m ts a false o W [] ns 0 w := h'
    have r' : yR (am_wi σ m 13 0) m T := r'
    have g' : ye_f m σ0 (am_wi σ m 13 0) := g'
    have ey : yb false = 0 := rfl
    rw [ey]
    rw [if_neg Bool.false_ne_true] at hQ
    simp (disch := omega) only [ax_const, ax_iload, ax_lload, ax_aload, ax_istore, ax_astore, ax_iinc, ax_i2, ax_i2n, ax_l2, ax_lsh, ax_ii, ax_il, ax_li, ax_pop, ax_dup, ax_dup2, ax_if, ax_cmp, ax_acmp, ax_goto, ax_getI, ax_getR, ax_putI, ax_putR, ax_gets, ax_getsT, ax_aldI, ax_aldR, ax_astI, ax_astR, ax_alen, ax_ret, ax_aret, ax_vret, am_st, am_kl, List.getElem?_cons_zero, List.getElem?_cons_succ, List.set_cons_zero, List.set_cons_succ, Value.category, true_and, and_true, if_true, if_false, reduceCtorEq, Bool.false_eq_true, false_implies, forall_const, Option.some.injEq, exists_eq_left', exists_eq_left, Sum.inl.injEq, Sum.inr.injEq, Prod.mk.injEq, am_sh_wi, am_r_wi, am_tp_wi, am_us_wi, ym_is, ym_io, ym_ij, hH.1]
    refine ⟨Or.inl trivial, ?_, fun z => absurd trivial z⟩
    generalize am_wi σ m 13 0 = σ1 at *
    refine am_callK [.ref m, .int (nI 0), .int (yb false)] [] (d' := 5) (lim' := (am_tp σ1, am_us σ1)) rfl (by omega) (Nat.le_of_eq g'.tp) (Nat.le_of_eq g'.us) rfl (Nat.le_of_ble_eq_true rfl) (am_recv h'.1.1) ?_
    refine c_yterm (S := (a, false, o, T)) hEN ⟨h', r'⟩ (by decide) rfl (hI rfl).1 (hI rfl).2 (fun σ2 W2 ns2 w2 k2 f2 t2 u2 => ?_)
    have e4 : ys_t4 0 = 0 := rfl
    rw [e4] at k2
    simp (disch := omega) only [Option.toList_some, Option.toList_none, List.cons_append, List.nil_append, List.append_nil]
    exact yst_211 hEN hd k2 (g'.tr f2) h11 hts1 (yI.term (i := 0) (c := false) (S := (a, false, o, T)) hEN hI rfl).2 hQ
