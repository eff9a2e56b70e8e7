/-! the reference's parser: selection -/
def yI (ts : List (Nat × Int32)) (S : ys_S) : Prop := S.2.1 = false → S.1 < ts.length ∧ S.2.2.1.length + 1 ≤ S.1
theorem yI.term {ts : List (Nat × Int32)} {S : ys_S} {i : Nat} {c : Bool} (hEN : xp_EN ts) (h : yI ts S) (hb : S.2.1 = false) : (ys_term ts i c S).1 < ts.length ∧ yI ts (ys_term ts i c S) := by
  obtain ⟨h1, h2⟩ := ys_tm_I (c := c) hEN (h hb).1 (h hb).2
  refine ⟨h1, fun q => ⟨h1, ?_⟩⟩
  have q : (ys_tm ts c S.1 S.2.2.1).2.1 = false := q
  rw [q, if_neg (by decide)] at h2
  exact h2
theorem yI.need {ts : List (Nat × Int32)} {S : ys_S} {t : Nat} (hEN : xp_EN ts) (ht : t ≠ 36) (h : yI ts S) : yI ts (ys_need ts t S) := by
  unfold ys_need
  split
  · exact h
  · split
    · rename_i q
      intro q2
      have := hEN.lt (a := S.1) (by rw [q]; exact ht)
      exact ⟨this, Nat.le_succ_of_le (h q2).2⟩
    · intro q; cases q
theorem yI.wh {ts : List (Nat × Int32)} {S : ys_S} (hEN : xp_EN ts) (h : yI ts S) : yI ts (ys_where ts S) := by
  unfold ys_where
  split
  · rename_i q
    have hlt := hEN.lt (a := S.1) (by rw [q.2]; decide)
    have hh := h q.1
    obtain ⟨g1, g2, g3⟩ := yc_co_I (a := S.1 + 1) (o := S.2.2.1) hEN hlt (by omega)
    intro q2
    have q2 : (yc_co ts (S.1 + 1) S.2.2.1).2.1 = false := q2
    rw [q2, if_neg (by decide)] at g3
    exact ⟨g1 q2, g3⟩
  · exact h
/-- word, then takeWord -/
theorem y_tw {g : am_G} {l : Launch} {σ : am_S} {m a s d tp us : Nat} {x1 x2 x3 x4 x5 x6 : Int32} {ts : List (Nat × Int32)} {b : Bool} {o : yp_O} {W H : List Nat} {ns ou : Int32} {w : Bool} {K : am_K} {L : List (Option Value)} {st : List Value} (h : yZ σ m ts a b o W H ns ou w) (h1 : am_tp σ = tp) (h2 : am_us σ = us) (ha : a < ts.length) (hs : s < 19) (hx : yw_f x1 x2 x3 x4 x5 x6 = yw_c (xt_w s)) (hd : 1 ≤ d) (hc : (st.map fun v => v.category).sum ≤ 6)
    (hQ1 : xp_hd ts a = s → ∀ σ', yZ σ' m ts (a + 1) b o W H ns ou w → yb_f m σ σ' → K L (.int 1 :: st) σ') (hQ0 : xp_hd ts a ≠ s → ∀ σ', yZ σ' m ts a b o W H ns ou w → yb_f m σ σ' → K L (.int 0 :: st) σ') :
    ax_call g l d (tp, us) mX10_word none 6 (ax_call g l d (tp, us) mX10_takeWord (some 10) 2 K) L (.int x6 :: .int x5 :: .int x4 :: .int x3 :: .int x2 :: .int x1 :: .ref m :: st) σ := by
  refine am_callK [.int x1, .int x2, .int x3, .int x4, .int x5, .int x6] (.ref m :: st) (d' := 0) (lim' := (am_tp σ, am_us σ)) rfl (by omega) (by rw [h1]; exact Nat.le_refl _) (by rw [h2]; exact Nat.le_refl _) rfl (by rw [List.map_cons, List.sum_cons]; show 1 + _ ≤ 8; omega) am_stat ?_
  refine c_yword (fun _ _ => ?_)
  rw [hx]
  simp (disch := omega) only [Option.toList_some, Option.toList_none, List.cons_append, List.nil_append, List.append_nil]
  refine am_callK [.ref m, .int (yw_c (xt_w s))] st (d' := 0) (lim' := (am_tp σ, am_us σ)) rfl (by omega) (by rw [h1]; exact Nat.le_refl _) (by rw [h2]; exact Nat.le_refl _) rfl (by omega) (am_recv h.1.1) ?_
  refine c_ytword h ha hs (fun c σ1 k1 f1 t1 u1 => ?_) (fun c σ1 k1 f1 t1 u1 => ?_)
  · simp (disch := omega) only [Option.toList_some, Option.toList_none, List.cons_append, List.nil_append, List.append_nil]
    exact hQ1 c σ1 k1 f1
  · simp (disch := omega) only [Option.toList_some, Option.toList_none, List.cons_append, List.nil_append, List.append_nil]
    exact hQ0 c σ1 k1 f1
theorem y_tsg {g : am_G} {l : Launch} {σ : am_S} {m a s d tp us : Nat} {ts : List (Nat × Int32)} {b : Bool} {o : yp_O} {W H : List Nat} {ns ou : Int32} {w : Bool} {K : am_K} {L : List (Option Value)} {st : List Value} (h : yZ σ m ts a b o W H ns ou w) (h1 : am_tp σ = tp) (h2 : am_us σ = us) (ha : a < ts.length) (hs1 : 21 ≤ s) (hs2 : s ≤ 32) (hd : 2 ≤ d) (hc : (st.map fun v => v.category).sum ≤ 6)
    (hQ1 : xp_hd ts a = s → ∀ σ', yZ σ' m ts (a + 1) b o W H ns ou w → yb_f m σ σ' → K L (.int 1 :: st) σ') (hQ0 : xp_hd ts a ≠ s → ∀ σ', yZ σ' m ts a b o W H ns ou w → yb_f m σ σ' → K L (.int 0 :: st) σ') :
    ax_call g l d (tp, us) mX10_takeSign (some 10) 2 K L (.int (nI (yw_s s)) :: .ref m :: st) σ := by
  refine am_callK [.ref m, .int (nI (yw_s s))] st (d' := 1) (lim' := (am_tp σ, am_us σ)) rfl (by omega) (by rw [h1]; exact Nat.le_refl _) (by rw [h2]; exact Nat.le_refl _) rfl (by omega) (am_recv h.1.1) ?_
  refine c_ytsign h ha hs1 hs2 (fun c σ1 k1 f1 t1 u1 => ?_) (fun c σ1 k1 f1 t1 u1 => ?_)
  · simp (disch := omega) only [Option.toList_some, Option.toList_none, List.cons_append, List.nil_append, List.append_nil]
    exact hQ1 c σ1 k1 f1
  · simp (disch := omega) only [Option.toList_some, Option.toList_none, List.cons_append, List.nil_append, List.append_nil]
    exact hQ0 c σ1 k1 f1
theorem yw_desc : yw_f 100 101 115 99 0 0 = yw_c (xt_w 9) := by decide +kernel
theorem yw_order : yw_f 111 114 100 101 114 0 = yw_c (xt_w 8) := by decide +kernel
theorem yw_group : yw_f 103 114 111 117 112 0 = yw_c (xt_w 7) := by decide +kernel
theorem yw_from : yw_f 102 114 111 109 0 0 = yw_c (xt_w 5) := by decide +kernel
theorem yw_top : yw_f 116 111 112 0 0 0 = yw_c (xt_w 4) := by decide +kernel
theorem ysl_248 {g : am_G} {l : Launch} {σ0 σ : am_S} {m a d : Nat} {ts : List (Nat × Int32)} {b : Bool} {o : yp_O} {W : List Nat} {ns : Int32} {w : Bool} {T : Nat → Nat} {z1 : Int32} {z2 : Option Value} {Q : Option Value → am_S → Prop} (hd : 1 ≤ d) (h : yZ σ m ts a b o W [] ns 0 w) (hR : yR σ m T) (f0 : ye_f m σ0 σ) (hq : T 22 = 0 ∨ T 22 = 1) (ha : b = false → a < ts.length)
    (hQ : ∀ σ', yZR σ' m ts (ys_down ts (a, b, o, T)) W ns w → ye_f m σ0 σ' → Q none σ') : am_W g l mX10_selection d (am_tp σ0, am_us σ0) Q 248 [some (.ref m), some (.int z1), z2] [] σ := by
  have hH := h.1
  have hP := h.2.2.1
  have o1 : ¬ (1 : Int32) = 0 := by decide
  have e35 : am_i σ m 35 = nI (T 22) := hR.2.2.2.2.2.2.2.2.2.2.1
  have tp := f0.tp
  have us := f0.us
  unfold ys_down at hQ
  dsimp only at hQ
  have fin0 : ∀ σ1, yZ σ1 m ts a b o W [] ns 0 w → yR σ1 m T → ye_f m σ0 σ1 → ¬ (T 22 = 1 ∧ b = false ∧ xp_hd ts a = 9) → am_tp (am_wi σ1 m 36 0) = am_tp σ0 ∧ am_us (am_wi σ1 m 36 0) = am_us σ0 ∧ Q none (am_wi σ1 m 36 0) := by
    intro σ1 k1 r1 f1 hn
    rw [if_neg hn] at hQ
    exact ⟨f1.tp, f1.us, hQ _ ⟨k1.reg (by decide), r1.f36 (v := 0)⟩ (f1.wf (by decide) (by decide))⟩
  refine kX10_selection_248 ?_
  rcases hq with hq | hq
  · rw [hq] at e35
    have e35 : am_i σ m 35 = 0 := e35
    simp (disch := omega) only [ax_const, ax_iload, ax_lload, ax_aload, ax_istore, ax_astore, ax_iinc, ax_i2, ax_i2n, ax_l2, ax_lsh, ax_ii, ax_il, ax_li, ax_pop, ax_dup, ax_dup2, ax_if, ax_cmp, ax_acmp, ax_goto, ax_getI, ax_getR, ax_putI, ax_putR, ax_gets, ax_getsT, ax_aldI, ax_aldR, ax_astI, ax_astR, ax_alen, ax_ret, ax_aret, ax_vret, am_st, am_kl, List.getElem?_cons_zero, List.getElem?_cons_succ, List.set_cons_zero, List.set_cons_succ, Value.category, true_and, and_true, if_true, if_false, reduceCtorEq, Bool.false_eq_true, false_implies, forall_const, Option.some.injEq, exists_eq_left', exists_eq_left, Sum.inl.injEq, Sum.inr.injEq, Prod.mk.injEq, hH.1, e35]
    exact ⟨⟨Or.inl trivial, fin0 σ h hR f0 (fun z => by omega)⟩, fun z => absurd trivial z⟩
  · rw [hq] at e35
    have e35 : am_i σ m 35 = 1 := e35
    cases b with
    | true =>
      have e13 : am_i σ m 13 = 1 := hP.2.1
      simp (disch := omega) only [ax_const, ax_iload, ax_lload, ax_aload, ax_istore, ax_astore, ax_iinc, ax_i2, ax_i2n, ax_l2, ax_lsh, ax_ii, ax_il, ax_li, ax_pop, ax_dup, ax_dup2, ax_if, ax_cmp, ax_acmp, ax_goto, ax_getI, ax_getR, ax_putI, ax_putR, ax_gets, ax_getsT, ax_aldI, ax_aldR, ax_astI, ax_astR, ax_alen, ax_ret, ax_aret, ax_vret, am_st, am_kl, List.getElem?_cons_zero, List.getElem?_cons_succ, List.set_cons_zero, List.set_cons_succ, Value.category, true_and, and_true, if_true, if_false, reduceCtorEq, Bool.false_eq_true, false_implies, forall_const, Option.some.injEq, exists_eq_left', exists_eq_left, Sum.inl.injEq, Sum.inr.injEq, Prod.mk.injEq, hH.1, e35, e13, o1]
      exact fun _ _ => ⟨Or.inl trivial, fin0 σ h hR f0 (fun z => by cases z.2.1)⟩
    | false =>
      have e13 : am_i σ m 13 = 0 := hP.2.1
      simp (disch := omega) only [ax_const, ax_iload, ax_lload, ax_aload, ax_istore, ax_astore, ax_iinc, ax_i2, ax_i2n, ax_l2, ax_lsh, ax_ii, ax_il, ax_li, ax_pop, ax_dup, ax_dup2, ax_if, ax_cmp, ax_acmp, ax_goto, ax_getI, ax_getR, ax_putI, ax_putR, ax_gets, ax_getsT, ax_aldI, ax_aldR, ax_astI, ax_astR, ax_alen, ax_ret, ax_aret, ax_vret, am_st, am_kl, List.getElem?_cons_zero, List.getElem?_cons_succ, List.set_cons_zero, List.set_cons_succ, Value.category, true_and, and_true, if_true, if_false, reduceCtorEq, Bool.false_eq_true, false_implies, forall_const, Option.some.injEq, exists_eq_left', exists_eq_left, Sum.inl.injEq, Sum.inr.injEq, Prod.mk.injEq, hH.1, e35, e13, o1]
      intro _
      refine ⟨y_tw h tp us (ha rfl) (by decide) yw_desc hd (Nat.le_of_ble_eq_true rfl) (fun c σ1 k1 f1 => ?_) (fun c σ1 k1 f1 => ?_), fun z => absurd trivial z⟩
      · simp (disch := omega) only [ax_const, ax_iload, ax_lload, ax_aload, ax_istore, ax_astore, ax_iinc, ax_i2, ax_i2n, ax_l2, ax_lsh, ax_ii, ax_il, ax_li, ax_pop, ax_dup, ax_dup2, ax_if, ax_cmp, ax_acmp, ax_goto, ax_getI, ax_getR, ax_putI, ax_putR, ax_gets, ax_getsT, ax_aldI, ax_aldR, ax_astI, ax_astR, ax_alen, ax_ret, ax_aret, ax_vret, am_st, am_kl, List.getElem?_cons_zero, List.getElem?_cons_succ, List.set_cons_zero, List.set_cons_succ, Value.category, true_and, and_true, if_true, if_false, reduceCtorEq, Bool.false_eq_true, false_implies, forall_const, Option.some.injEq, exists_eq_left', exists_eq_left, Sum.inl.injEq, Sum.inr.injEq, Prod.mk.injEq, o1, k1.1.1]
        rw [if_pos ⟨hq, rfl, c⟩] at hQ
        have g1 := f0.tr (ye_f.of f1)
        exact fun _ => ⟨Or.inr trivial, g1.tp, g1.us, hQ _ ⟨k1.reg (by decide), (hR.f f1).f36 (v := 1)⟩ (g1.wf (by decide) (by decide))⟩
      · simp (disch := omega) only [ax_const, ax_iload, ax_lload, ax_aload, ax_istore, ax_astore, ax_iinc, ax_i2, ax_i2n, ax_l2, ax_lsh, ax_ii, ax_il, ax_li, ax_pop, ax_dup, ax_dup2, ax_if, ax_cmp, ax_acmp, ax_goto, ax_getI, ax_getR, ax_putI, ax_putR, ax_gets, ax_getsT, ax_aldI, ax_aldR, ax_astI, ax_astR, ax_alen, ax_ret, ax_aret, ax_vret, am_st, am_kl, List.getElem?_cons_zero, List.getElem?_cons_succ, List.set_cons_zero, List.set_cons_succ, Value.category, true_and, and_true, if_true, if_false, reduceCtorEq, Bool.false_eq_true, false_implies, forall_const, Option.some.injEq, exists_eq_left', exists_eq_left, Sum.inl.injEq, Sum.inr.injEq, Prod.mk.injEq, k1.1.1]
        exact ⟨⟨Or.inl trivial, fin0 σ1 k1 (hR.f f1) (f0.tr (ye_f.of f1)) (fun z => c z.2.2)⟩, fun z => absurd trivial z⟩
theorem ysl_232 {g : am_G} {l : Launch} {σ0 σ : am_S} {m a d : Nat} {ts : List (Nat × Int32)} {b y : Bool} {o : yp_O} {W : List Nat} {ns : Int32} {w : Bool} {T : Nat → Nat} {z1 : Int32} {z2 : Option Value} {Q : Option Value → am_S → Prop} (hEN : xp_EN ts) (hd : 6 ≤ d) (h : yZ σ m ts a b o W [] ns 0 w) (hR : yR σ m T) (f0 : ye_f m σ0 σ) (hI : yI ts (a, b, o, T)) (hy : y = true → b = false)
    (hQ : ∀ σ' W' ns' w', yZR σ' m ts (ys_down ts (if y = true then ys_term ts 3 true (a, b, o, yt T 22 1) else (a, b, o, yt T 22 0))) W' ns' w' → ye_f m σ0 σ' → Q none σ') : am_W g l mX10_selection d (am_tp σ0, am_us σ0) Q 232 [some (.ref m), some (.int z1), z2] [.int (yb y), .ref m] σ := by
  have hH := h.1
  have o1 : ¬ (1 : Int32) = 0 := by decide
  have y1 : (1 : Int32) = yb true := rfl
  refine kX10_selection_232 ?_
  cases y with
  | true =>
    have hb := hy rfl
    subst hb
    have e1 : yb true = 1 := rfl
    rw [e1]
    have h' := h.reg (k := 35) (v := 1) (by decide)
    have r' := hR.f35 (v := 1)
    have g' := f0.wf (k := 35) (v := 1) (by decide) (by decide)
    rw [if_pos rfl] at hQ
    simp (disch := omega) only [ax_const, ax_iload, ax_lload, ax_aload, ax_istore, ax_astore, ax_iinc, ax_i2, ax_i2n, ax_l2, ax_lsh, ax_ii, ax_il, ax_li, ax_pop, ax_dup, ax_dup2, ax_if, ax_cmp, ax_acmp, ax_goto, ax_getI, ax_getR, ax_putI, ax_putR, ax_gets, ax_getsT, ax_aldI, ax_aldR, ax_astI, ax_astR, ax_alen, ax_ret, ax_aret, ax_vret, am_st, am_kl, List.getElem?_cons_zero, List.getElem?_cons_succ, List.set_cons_zero, List.set_cons_succ, Value.category, true_and, and_true, if_true, if_false, reduceCtorEq, Bool.false_eq_true, false_implies, forall_const, Option.some.injEq, exists_eq_left', exists_eq_left, Sum.inl.injEq, Sum.inr.injEq, Prod.mk.injEq, am_sh_wi, am_r_wi, am_tp_wi, am_us_wi, ym_is, ym_io, ym_ij, hH.1, o1]
    refine ⟨Or.inr trivial, fun _ => ?_⟩
    have r' : yR (am_wi σ m 35 1) m (yt T 22 1) := r'
    generalize am_wi σ m 35 1 = σ1 at *
    refine am_callK [.ref m, .int (nI 3), .int (yb true)] [] (d' := 5) (lim' := (am_tp σ1, am_us σ1)) rfl (by omega) (Nat.le_of_eq g'.tp) (Nat.le_of_eq g'.us) rfl (Nat.le_of_ble_eq_true rfl) (am_recv h'.1.1) ?_
    refine c_yterm (S := (a, false, o, yt T 22 1)) hEN ⟨h', r'⟩ (by decide) rfl (hI rfl).1 (hI rfl).2 (fun σ2 W2 ns2 w2 k2 f2 t2 u2 => ?_)
    have e3 : ys_t4 3 = 3 := rfl
    rw [e3] at k2
    obtain ⟨g1, g2⟩ := yI.term (i := 3) (c := true) (S := (a, false, o, yt T 22 1)) hEN hI rfl
    have gT := ys_term_T (ts := ts) (S := (a, false, o, yt T 22 1)) (i := 3) (c := true) (q := 22) (by decide) (by decide) (by decide)
    simp (disch := omega) only [ax_const, ax_iload, ax_lload, ax_aload, ax_istore, ax_astore, ax_iinc, ax_i2, ax_i2n, ax_l2, ax_lsh, ax_ii, ax_il, ax_li, ax_pop, ax_dup, ax_dup2, ax_if, ax_cmp, ax_acmp, ax_goto, ax_getI, ax_getR, ax_putI, ax_putR, ax_gets, ax_getsT, ax_aldI, ax_aldR, ax_astI, ax_astR, ax_alen, ax_ret, ax_aret, ax_vret, am_st, am_kl, List.getElem?_cons_zero, List.getElem?_cons_succ, List.set_cons_zero, List.set_cons_succ, Value.category, true_and, and_true, if_true, if_false, reduceCtorEq, Bool.false_eq_true, false_implies, forall_const, Option.some.injEq, exists_eq_left', exists_eq_left, Sum.inl.injEq, Sum.inr.injEq, Prod.mk.injEq, Option.toList_some, Option.toList_none, List.cons_append, List.nil_append, List.append_nil]
    generalize ys_term ts 3 true (a, false, o, yt T 22 1) = S at *
    obtain ⟨a2, b2, o2, T2⟩ := S
    exact ysl_248 (by omega) k2.1 k2.2 (g'.tr f2) (Or.inr (gT.trans (yt_s (T := T) (i := 22) (v := 1)))) (fun q => (g2 q).1) (fun σ' k f => hQ σ' _ _ _ k f)
  | false =>
    have e1 : yb false = 0 := rfl
    rw [e1]
    have h' := h.reg (k := 35) (v := 0) (by decide)
    have r' : yR (am_wi σ m 35 0) m (yt T 22 0) := hR.f35 (v := 0)
    have g' := f0.wf (k := 35) (v := 0) (by decide) (by decide)
    rw [if_neg (by decide)] at hQ
    simp (disch := omega) only [ax_const, ax_iload, ax_lload, ax_aload, ax_istore, ax_astore, ax_iinc, ax_i2, ax_i2n, ax_l2, ax_lsh, ax_ii, ax_il, ax_li, ax_pop, ax_dup, ax_dup2, ax_if, ax_cmp, ax_acmp, ax_goto, ax_getI, ax_getR, ax_putI, ax_putR, ax_gets, ax_getsT, ax_aldI, ax_aldR, ax_astI, ax_astR, ax_alen, ax_ret, ax_aret, ax_vret, am_st, am_kl, List.getElem?_cons_zero, List.getElem?_cons_succ, List.set_cons_zero, List.set_cons_succ, Value.category, true_and, and_true, if_true, if_false, reduceCtorEq, Bool.false_eq_true, false_implies, forall_const, Option.some.injEq, exists_eq_left', exists_eq_left, Sum.inl.injEq, Sum.inr.injEq, Prod.mk.injEq, am_sh_wi, am_r_wi, am_tp_wi, am_us_wi, ym_is, ym_io, ym_ij, hH.1]
    exact ⟨Or.inl trivial, ysl_248 (by omega) h' r' g' (Or.inl yt_s) (fun q => (hI q).1) (fun σ' k f => hQ σ' _ _ _ k f), fun z => absurd trivial z⟩
theorem ysl_198 {g : am_G} {l : Launch} {σ0 σ : am_S} {m a d : Nat} {ts : List (Nat × Int32)} {b : Bool} {o : yp_O} {W : List Nat} {ns : Int32} {w : Bool} {T : Nat → Nat} {z1 : Int32} {z2 : Option Value} {Q : Option Value → am_S → Prop} (hEN : xp_EN ts) (hd : 6 ≤ d) (h : yZ σ m ts a b o W [] ns 0 w) (hR : yR σ m T) (f0 : ye_f m σ0 σ) (hI : yI ts (a, b, o, T))
    (hQ : ∀ σ' W' ns' w', yZR σ' m ts (ys_down ts (ys_order ts (a, b, o, T))) W' ns' w' → ye_f m σ0 σ' → Q none σ') : am_W g l mX10_selection d (am_tp σ0, am_us σ0) Q 198 [some (.ref m), some (.int z1), z2] [] σ := by
  have hH := h.1
  have hP := h.2.2.1
  have o1 : ¬ (1 : Int32) = 0 := by decide
  unfold ys_order at hQ
  dsimp only at hQ
  refine kX10_selection_198 ?_
  cases b with
  | true =>
    have e13 : am_i σ m 13 = 1 := hP.2.1
    simp (disch := omega) only [ax_const, ax_iload, ax_lload, ax_aload, ax_istore, ax_astore, ax_iinc, ax_i2, ax_i2n, ax_l2, ax_lsh, ax_ii, ax_il, ax_li, ax_pop, ax_dup, ax_dup2, ax_if, ax_cmp, ax_acmp, ax_goto, ax_getI, ax_getR, ax_putI, ax_putR, ax_gets, ax_getsT, ax_aldI, ax_aldR, ax_astI, ax_astR, ax_alen, ax_ret, ax_aret, ax_vret, am_st, am_kl, List.getElem?_cons_zero, List.getElem?_cons_succ, List.set_cons_zero, List.set_cons_succ, Value.category, true_and, and_true, if_true, if_false, reduceCtorEq, Bool.false_eq_true, false_implies, forall_const, Option.some.injEq, exists_eq_left', exists_eq_left, Sum.inl.injEq, Sum.inr.injEq, Prod.mk.injEq, hH.1, e13, o1]
    rw [if_neg (fun z => by cases z.1)] at hQ
    exact fun _ => ysl_232 (y := false) hEN hd h hR f0 hI (fun z => by cases z) hQ
  | false =>
    have e13 : am_i σ m 13 = 0 := hP.2.1
    simp (disch := omega) only [ax_const, ax_iload, ax_lload, ax_aload, ax_istore, ax_astore, ax_iinc, ax_i2, ax_i2n, ax_l2, ax_lsh, ax_ii, ax_il, ax_li, ax_pop, ax_dup, ax_dup2, ax_if, ax_cmp, ax_acmp, ax_goto, ax_getI, ax_getR, ax_putI, ax_putR, ax_gets, ax_getsT, ax_aldI, ax_aldR, ax_astI, ax_astR, ax_alen, ax_ret, ax_aret, ax_vret, am_st, am_kl, List.getElem?_cons_zero, List.getElem?_cons_succ, List.set_cons_zero, List.set_cons_succ, Value.category, true_and, and_true, if_true, if_false, reduceCtorEq, Bool.false_eq_true, false_implies, forall_const, Option.some.injEq, exists_eq_left', exists_eq_left, Sum.inl.injEq, Sum.inr.injEq, Prod.mk.injEq, hH.1, e13]
    refine ⟨y_tw h f0.tp f0.us (hI rfl).1 (by decide) yw_order (by omega) (Nat.le_of_ble_eq_true rfl) (fun c σ1 k1 f1 => ?_) (fun c σ1 k1 f1 => ?_), fun z => absurd trivial z⟩
    · rw [if_pos ⟨rfl, c⟩] at hQ
      simp (disch := omega) only [ax_const, ax_iload, ax_lload, ax_aload, ax_istore, ax_astore, ax_iinc, ax_i2, ax_i2n, ax_l2, ax_lsh, ax_ii, ax_il, ax_li, ax_pop, ax_dup, ax_dup2, ax_if, ax_cmp, ax_acmp, ax_goto, ax_getI, ax_getR, ax_putI, ax_putR, ax_gets, ax_getsT, ax_aldI, ax_aldR, ax_astI, ax_astR, ax_alen, ax_ret, ax_aret, ax_vret, am_st, am_kl, List.getElem?_cons_zero, List.getElem?_cons_succ, List.set_cons_zero, List.set_cons_succ, Value.category, true_and, and_true, if_true, if_false, reduceCtorEq, Bool.false_eq_true, false_implies, forall_const, Option.some.injEq, exists_eq_left', exists_eq_left, Sum.inl.injEq, Sum.inr.injEq, Prod.mk.injEq, o1]
      have hlt := hEN.lt (a := a) (by rw [c]; decide)
      exact fun _ => ysl_232 (y := true) hEN hd k1 (hR.f f1) (f0.tr (ye_f.of f1)) (fun _ => ⟨hlt, Nat.le_succ_of_le (hI rfl).2⟩) (fun _ => rfl) hQ
    · rw [if_neg (fun z => c z.2)] at hQ
      simp (disch := omega) only [ax_const, ax_iload, ax_lload, ax_aload, ax_istore, ax_astore, ax_iinc, ax_i2, ax_i2n, ax_l2, ax_lsh, ax_ii, ax_il, ax_li, ax_pop, ax_dup, ax_dup2, ax_if, ax_cmp, ax_acmp, ax_goto, ax_getI, ax_getR, ax_putI, ax_putR, ax_gets, ax_getsT, ax_aldI, ax_aldR, ax_astI, ax_astR, ax_alen, ax_ret, ax_aret, ax_vret, am_st, am_kl, List.getElem?_cons_zero, List.getElem?_cons_succ, List.set_cons_zero, List.set_cons_succ, Value.category, true_and, and_true, if_true, if_false, reduceCtorEq, Bool.false_eq_true, false_implies, forall_const, Option.some.injEq, exists_eq_left', exists_eq_left, Sum.inl.injEq, Sum.inr.injEq, Prod.mk.injEq]
      exact ⟨ysl_232 (y := false) hEN hd k1 (hR.f f1) (f0.tr (ye_f.of f1)) hI (fun z => by cases z) hQ, fun z => absurd trivial z⟩
theorem ysl_169 {g : am_G} {l : Launch} {σ0 σ : am_S} {m a d : Nat} {ts : List (Nat × Int32)} {b y : Bool} {o : yp_O} {W : List Nat} {ns : Int32} {w : Bool} {T : Nat → Nat} {z1 : Int32} {z2 : Option Value} {Q : Option Value → am_S → Prop} (hEN : xp_EN ts) (hd : 6 ≤ d) (h : yZ σ m ts a b o W [] ns 0 w) (hR : yR σ m T) (f0 : ye_f m σ0 σ) (hI : yI ts (a, b, o, T)) (hy : y = true → b = false ∧ o.length + 2 ≤ a)
    (hQ : ∀ σ' W' ns' w', yZR σ' m ts (ys_down ts (ys_order ts (if y = true then (yp_ca ts a, yp_cx ts a, o ++ [(2, nI (yp_co ts a))], yt (yt T 21 1) 24 o.length) else (a, b, o, yt T 21 0)))) W' ns' w' → ye_f m σ0 σ' → Q none σ') : am_W g l mX10_selection d (am_tp σ0, am_us σ0) Q 169 [some (.ref m), some (.int z1), z2] [.int (yb y), .ref m] σ := by
  have hH := h.1
  have hT := h.2.1.1
  have o1 : ¬ (1 : Int32) = 0 := by decide
  have y1 : (1 : Int32) = yb true := rfl
  refine kX10_selection_169 ?_
  cases y with
  | true =>
    obtain ⟨hb, hl⟩ := hy rfl
    subst hb
    have e1 : yb true = 1 := rfl
    rw [e1]
    have e18 : am_i σ m 18 = nI o.length := h.2.2.1.2.2.1.1
    have h' := (h.reg (k := 34) (v := 1) (by decide)).reg (k := 39) (v := nI o.length) (by decide)
    have r' : yR (am_wi (am_wi σ m 34 1) m 39 (nI o.length)) m (yt (yt T 21 1) 24 o.length) := (hR.f34 (v := 1)).f39
    have g' := (f0.wf (k := 34) (v := 1) (by decide) (by decide)).wf (k := 39) (v := nI o.length) (by decide) (by decide)
    rw [if_pos rfl] at hQ
    have ha := (hI rfl).1
    simp (disch := omega) only [ax_const, ax_iload, ax_lload, ax_aload, ax_istore, ax_astore, ax_iinc, ax_i2, ax_i2n, ax_l2, ax_lsh, ax_ii, ax_il, ax_li, ax_pop, ax_dup, ax_dup2, ax_if, ax_cmp, ax_acmp, ax_goto, ax_getI, ax_getR, ax_putI, ax_putR, ax_gets, ax_getsT, ax_aldI, ax_aldR, ax_astI, ax_astR, ax_alen, ax_ret, ax_aret, ax_vret, am_st, am_kl, List.getElem?_cons_zero, List.getElem?_cons_succ, List.set_cons_zero, List.set_cons_succ, Value.category, true_and, and_true, if_true, if_false, reduceCtorEq, Bool.false_eq_true, false_implies, forall_const, Option.some.injEq, exists_eq_left', exists_eq_left, Sum.inl.injEq, Sum.inr.injEq, Prod.mk.injEq, am_sh_wi, am_r_wi, am_tp_wi, am_us_wi, ym_is, ym_io, ym_ij, hH.1, o1, e18]
    refine ⟨Or.inr trivial, fun _ => ?_⟩
    generalize am_wi (am_wi σ m 34 1) m 39 (nI o.length) = σ1 at *
    refine am_callK [.ref m] [] (d' := 2) (lim' := (am_tp σ1, am_us σ1)) rfl (by omega) (Nat.le_of_eq g'.tp) (Nat.le_of_eq g'.us) rfl (Nat.le_of_ble_eq_true rfl) (am_recv h'.1.1) ?_
    refine c_ycol hEN h' ha (fun σ2 k2 f2 t2 u2 => ?_)
    have g2 := g'.tr (ye_f.of f2)
    cases z2 with
    | none =>
      simp (disch := omega) only [ax_const, ax_iload, ax_lload, ax_aload, ax_istore, ax_astore, ax_iinc, ax_i2, ax_i2n, ax_l2, ax_lsh, ax_ii, ax_il, ax_li, ax_pop, ax_dup, ax_dup2, ax_if, ax_cmp, ax_acmp, ax_goto, ax_getI, ax_getR, ax_putI, ax_putR, ax_gets, ax_getsT, ax_aldI, ax_aldR, ax_astI, ax_astR, ax_alen, ax_ret, ax_aret, ax_vret, am_st, am_kl, List.getElem?_cons_zero, List.getElem?_cons_succ, List.set_cons_zero, List.set_cons_succ, Value.category, true_and, and_true, if_true, if_false, reduceCtorEq, Bool.false_eq_true, false_implies, forall_const, Option.some.injEq, exists_eq_left', exists_eq_left, Sum.inl.injEq, Sum.inr.injEq, Prod.mk.injEq, Option.toList_some, Option.toList_none, List.cons_append, List.nil_append, List.append_nil, yl_2]
      refine am_callK [.ref m, .int (nI 2), .int (yκ (2, nI (yp_co ts a)))] [] (d' := 0) (lim' := (am_tp σ2, am_us σ2)) rfl (by omega) (Nat.le_of_eq g2.tp) (Nat.le_of_eq g2.us) rfl (Nat.le_of_ble_eq_true rfl) (am_recv k2.1.1) ?_
      refine c_yemit (q := (2, nI (yp_co ts a))) k2 (by omega) (show (2 : Nat) < 100 by decide) (fun σ3 k3 f3 t3 u3 => ?_)
      simp (disch := omega) only [ax_const, ax_iload, ax_lload, ax_aload, ax_istore, ax_astore, ax_iinc, ax_i2, ax_i2n, ax_l2, ax_lsh, ax_ii, ax_il, ax_li, ax_pop, ax_dup, ax_dup2, ax_if, ax_cmp, ax_acmp, ax_goto, ax_getI, ax_getR, ax_putI, ax_putR, ax_gets, ax_getsT, ax_aldI, ax_aldR, ax_astI, ax_astR, ax_alen, ax_ret, ax_aret, ax_vret, am_st, am_kl, List.getElem?_cons_zero, List.getElem?_cons_succ, List.set_cons_zero, List.set_cons_succ, Value.category, true_and, and_true, if_true, if_false, reduceCtorEq, Bool.false_eq_true, false_implies, forall_const, Option.some.injEq, exists_eq_left', exists_eq_left, Sum.inl.injEq, Sum.inr.injEq, Prod.mk.injEq, Option.toList_some, Option.toList_none, List.cons_append, List.nil_append, List.append_nil]
      exact ysl_198 hEN hd k3 ((r'.f f2).f f3) (g2.tr (ye_f.of f3)) (fun _ => ⟨yp_ca_lt2 hEN ha, by
        have := yp_ca_ge ts a
        show (o ++ [(2, nI (yp_co ts a))]).length + 1 ≤ yp_ca ts a
        rw [List.length_append, List.length_cons, List.length_nil]
        omega⟩) hQ
    | some z2 =>
      simp (disch := omega) only [ax_const, ax_iload, ax_lload, ax_aload, ax_istore, ax_astore, ax_iinc, ax_i2, ax_i2n, ax_l2, ax_lsh, ax_ii, ax_il, ax_li, ax_pop, ax_dup, ax_dup2, ax_if, ax_cmp, ax_acmp, ax_goto, ax_getI, ax_getR, ax_putI, ax_putR, ax_gets, ax_getsT, ax_aldI, ax_aldR, ax_astI, ax_astR, ax_alen, ax_ret, ax_aret, ax_vret, am_st, am_kl, List.getElem?_cons_zero, List.getElem?_cons_succ, List.set_cons_zero, List.set_cons_succ, Value.category, true_and, and_true, if_true, if_false, reduceCtorEq, Bool.false_eq_true, false_implies, forall_const, Option.some.injEq, exists_eq_left', exists_eq_left, Sum.inl.injEq, Sum.inr.injEq, Prod.mk.injEq, Option.toList_some, Option.toList_none, List.cons_append, List.nil_append, List.append_nil, yl_2]
      refine am_callK [.ref m, .int (nI 2), .int (yκ (2, nI (yp_co ts a)))] [] (d' := 0) (lim' := (am_tp σ2, am_us σ2)) rfl (by omega) (Nat.le_of_eq g2.tp) (Nat.le_of_eq g2.us) rfl (Nat.le_of_ble_eq_true rfl) (am_recv k2.1.1) ?_
      refine c_yemit (q := (2, nI (yp_co ts a))) k2 (by omega) (show (2 : Nat) < 100 by decide) (fun σ3 k3 f3 t3 u3 => ?_)
      simp (disch := omega) only [ax_const, ax_iload, ax_lload, ax_aload, ax_istore, ax_astore, ax_iinc, ax_i2, ax_i2n, ax_l2, ax_lsh, ax_ii, ax_il, ax_li, ax_pop, ax_dup, ax_dup2, ax_if, ax_cmp, ax_acmp, ax_goto, ax_getI, ax_getR, ax_putI, ax_putR, ax_gets, ax_getsT, ax_aldI, ax_aldR, ax_astI, ax_astR, ax_alen, ax_ret, ax_aret, ax_vret, am_st, am_kl, List.getElem?_cons_zero, List.getElem?_cons_succ, List.set_cons_zero, List.set_cons_succ, Value.category, true_and, and_true, if_true, if_false, reduceCtorEq, Bool.false_eq_true, false_implies, forall_const, Option.some.injEq, exists_eq_left', exists_eq_left, Sum.inl.injEq, Sum.inr.injEq, Prod.mk.injEq, Option.toList_some, Option.toList_none, List.cons_append, List.nil_append, List.append_nil]
      exact ysl_198 hEN hd k3 ((r'.f f2).f f3) (g2.tr (ye_f.of f3)) (fun _ => ⟨yp_ca_lt2 hEN ha, by
        have := yp_ca_ge ts a
        show (o ++ [(2, nI (yp_co ts a))]).length + 1 ≤ yp_ca ts a
        rw [List.length_append, List.length_cons, List.length_nil]
        omega⟩) hQ
  | false =>
    have e1 : yb false = 0 := rfl
    rw [e1]
    have h' := h.reg (k := 34) (v := 0) (by decide)
    have r' : yR (am_wi σ m 34 0) m (yt T 21 0) := hR.f34 (v := 0)
    have g' := f0.wf (k := 34) (v := 0) (by decide) (by decide)
    rw [if_neg (by decide)] at hQ
    simp (disch := omega) only [ax_const, ax_iload, ax_lload, ax_aload, ax_istore, ax_astore, ax_iinc, ax_i2, ax_i2n, ax_l2, ax_lsh, ax_ii, ax_il, ax_li, ax_pop, ax_dup, ax_dup2, ax_if, ax_cmp, ax_acmp, ax_goto, ax_getI, ax_getR, ax_putI, ax_putR, ax_gets, ax_getsT, ax_aldI, ax_aldR, ax_astI, ax_astR, ax_alen, ax_ret, ax_aret, ax_vret, am_st, am_kl, List.getElem?_cons_zero, List.getElem?_cons_succ, List.set_cons_zero, List.set_cons_succ, Value.category, true_and, and_true, if_true, if_false, reduceCtorEq, Bool.false_eq_true, false_implies, forall_const, Option.some.injEq, exists_eq_left', exists_eq_left, Sum.inl.injEq, Sum.inr.injEq, Prod.mk.injEq, am_sh_wi, am_r_wi, am_tp_wi, am_us_wi, ym_is, ym_io, ym_ij, hH.1]
    exact ⟨Or.inl trivial, ysl_198 hEN hd h' r' g' hI hQ, fun z => absurd trivial z⟩
theorem ysl_131 {g : am_G} {l : Launch} {σ0 σ : am_S} {m d : Nat} {S : ys_S} {ts : List (Nat × Int32)} {W : List Nat} {ns : Int32} {w : Bool} {z1 : Int32} {z2 : Option Value} {Q : Option Value → am_S → Prop} (hEN : xp_EN ts) (hd : 8 ≤ d) (h : yZR σ m ts S W ns w) (f0 : ye_f m σ0 σ) (hI : yI ts S)
    (hQ : ∀ σ' W' ns' w', yZR σ' m ts (ys_down ts (ys_order ts (ys_group ts (ys_where ts S)))) W' ns' w' → ye_f m σ0 σ' → Q none σ') : am_W g l mX10_selection d (am_tp σ0, am_us σ0) Q 131 [some (.ref m), some (.int z1), z2] [] σ := by
  have o1 : ¬ (1 : Int32) = 0 := by decide
  refine kX10_selection_131 ?_
  simp (disch := omega) only [ax_const, ax_iload, ax_lload, ax_aload, ax_istore, ax_astore, ax_iinc, ax_i2, ax_i2n, ax_l2, ax_lsh, ax_ii, ax_il, ax_li, ax_pop, ax_dup, ax_dup2, ax_if, ax_cmp, ax_acmp, ax_goto, ax_getI, ax_getR, ax_putI, ax_putR, ax_gets, ax_getsT, ax_aldI, ax_aldR, ax_astI, ax_astR, ax_alen, ax_ret, ax_aret, ax_vret, am_st, am_kl, List.getElem?_cons_zero, List.getElem?_cons_succ, List.set_cons_zero, List.set_cons_succ, Value.category, true_and, and_true, if_true, if_false, reduceCtorEq, Bool.false_eq_true, false_implies, forall_const, Option.some.injEq, exists_eq_left', exists_eq_left, Sum.inl.injEq, Sum.inr.injEq, Prod.mk.injEq]
  refine am_callK [.ref m] [] (d' := 7) (lim' := (am_tp σ, am_us σ)) rfl (by omega) (Nat.le_of_eq f0.tp) (Nat.le_of_eq f0.us) rfl (Nat.le_of_ble_eq_true rfl) (am_recv h.1.1.1) ?_
  refine c_ypw hEN h (fun q => (hI q).1) (fun q => (hI q).2) (fun σ1 W1 ns1 w1 k1 f1 t1 u1 => ?_)
  have I1 := hI.wh hEN
  have g1 := f0.tr f1
  simp (disch := omega) only [Option.toList_some, Option.toList_none, List.cons_append, List.nil_append, List.append_nil]
  generalize ys_where ts S = S1 at *
  obtain ⟨a, b, o, T⟩ := S1
  obtain ⟨k1, r1⟩ := k1
  have k1 : yZ σ1 m ts a b o W1 [] ns1 0 w1 := k1
  have r1 : yR σ1 m T := r1
  unfold ys_group at hQ
  dsimp only at hQ
  have hH := k1.1
  cases b with
  | true =>
    have e13 : am_i σ1 m 13 = 1 := k1.2.2.1.2.1
    simp (disch := omega) only [ax_const, ax_iload, ax_lload, ax_aload, ax_istore, ax_astore, ax_iinc, ax_i2, ax_i2n, ax_l2, ax_lsh, ax_ii, ax_il, ax_li, ax_pop, ax_dup, ax_dup2, ax_if, ax_cmp, ax_acmp, ax_goto, ax_getI, ax_getR, ax_putI, ax_putR, ax_gets, ax_getsT, ax_aldI, ax_aldR, ax_astI, ax_astR, ax_alen, ax_ret, ax_aret, ax_vret, am_st, am_kl, List.getElem?_cons_zero, List.getElem?_cons_succ, List.set_cons_zero, List.set_cons_succ, Value.category, true_and, and_true, if_true, if_false, reduceCtorEq, Bool.false_eq_true, false_implies, forall_const, Option.some.injEq, exists_eq_left', exists_eq_left, Sum.inl.injEq, Sum.inr.injEq, Prod.mk.injEq, hH.1, e13, o1]
    rw [if_neg (fun z => by cases z.1)] at hQ
    exact fun _ => ysl_169 (y := false) hEN (by omega) k1 r1 g1 I1 (fun z => by cases z) hQ
  | false =>
    have e13 : am_i σ1 m 13 = 0 := k1.2.2.1.2.1
    simp (disch := omega) only [ax_const, ax_iload, ax_lload, ax_aload, ax_istore, ax_astore, ax_iinc, ax_i2, ax_i2n, ax_l2, ax_lsh, ax_ii, ax_il, ax_li, ax_pop, ax_dup, ax_dup2, ax_if, ax_cmp, ax_acmp, ax_goto, ax_getI, ax_getR, ax_putI, ax_putR, ax_gets, ax_getsT, ax_aldI, ax_aldR, ax_astI, ax_astR, ax_alen, ax_ret, ax_aret, ax_vret, am_st, am_kl, List.getElem?_cons_zero, List.getElem?_cons_succ, List.set_cons_zero, List.set_cons_succ, Value.category, true_and, and_true, if_true, if_false, reduceCtorEq, Bool.false_eq_true, false_implies, forall_const, Option.some.injEq, exists_eq_left', exists_eq_left, Sum.inl.injEq, Sum.inr.injEq, Prod.mk.injEq, hH.1, e13]
    refine ⟨y_tw k1 g1.tp g1.us (I1 rfl).1 (by decide) yw_group (by omega) (Nat.le_of_ble_eq_true rfl) (fun c σ2 k2 f2 => ?_) (fun c σ2 k2 f2 => ?_), fun z => absurd trivial z⟩
    · rw [if_pos ⟨rfl, c⟩] at hQ
      simp (disch := omega) only [ax_const, ax_iload, ax_lload, ax_aload, ax_istore, ax_astore, ax_iinc, ax_i2, ax_i2n, ax_l2, ax_lsh, ax_ii, ax_il, ax_li, ax_pop, ax_dup, ax_dup2, ax_if, ax_cmp, ax_acmp, ax_goto, ax_getI, ax_getR, ax_putI, ax_putR, ax_gets, ax_getsT, ax_aldI, ax_aldR, ax_astI, ax_astR, ax_alen, ax_ret, ax_aret, ax_vret, am_st, am_kl, List.getElem?_cons_zero, List.getElem?_cons_succ, List.set_cons_zero, List.set_cons_succ, Value.category, true_and, and_true, if_true, if_false, reduceCtorEq, Bool.false_eq_true, false_implies, forall_const, Option.some.injEq, exists_eq_left', exists_eq_left, Sum.inl.injEq, Sum.inr.injEq, Prod.mk.injEq, o1]
      have hlt := hEN.lt (a := a) (by rw [c]; decide)
      exact fun _ => ysl_169 (y := true) hEN (by omega) k2 (r1.f f2) (g1.tr (ye_f.of f2)) (fun _ => ⟨hlt, Nat.le_succ_of_le (I1 rfl).2⟩) (fun _ => ⟨rfl, Nat.succ_le_succ (I1 rfl).2⟩) hQ
    · rw [if_neg (fun z => c z.2)] at hQ
      simp (disch := omega) only [ax_const, ax_iload, ax_lload, ax_aload, ax_istore, ax_astore, ax_iinc, ax_i2, ax_i2n, ax_l2, ax_lsh, ax_ii, ax_il, ax_li, ax_pop, ax_dup, ax_dup2, ax_if, ax_cmp, ax_acmp, ax_goto, ax_getI, ax_getR, ax_putI, ax_putR, ax_gets, ax_getsT, ax_aldI, ax_aldR, ax_astI, ax_astR, ax_alen, ax_ret, ax_aret, ax_vret, am_st, am_kl, List.getElem?_cons_zero, List.getElem?_cons_succ, List.set_cons_zero, List.set_cons_succ, Value.category, true_and, and_true, if_true, if_false, reduceCtorEq, Bool.false_eq_true, false_implies, forall_const, Option.some.injEq, exists_eq_left', exists_eq_left, Sum.inl.injEq, Sum.inr.injEq, Prod.mk.injEq]
      exact ⟨ysl_169 (y := false) hEN (by omega) k2 (r1.f f2) (g1.tr (ye_f.of f2)) I1 (fun z => by cases z) hQ, fun z => absurd trivial z⟩
