/-! the reference's parser: selection, its head -/
theorem ysl_103 {g : am_G} {l : Launch} {σ0 σ : am_S} {m a d : Nat} {ts : List (Nat × Int32)} {b b' : Bool} {o : yp_O} {W : List Nat} {ns : Int32} {w : Bool} {T : Nat → Nat} {z1 : Int32} {z2 : Option Value} {S' : ys_S} {Q : Option Value → am_S → Prop} (hEN : xp_EN ts) (hd : 8 ≤ d) (h : yZ σ m ts a b o W [] ns 0 w) (hR : yR σ m T) (f0 : ye_f m σ0 σ) (hI : yI ts (a, b', o, T)) (hT0 : T 0 = 0)
    (e1 : b' = true → S' = (a, b', o, T)) (e2 : b' = false → S' = ys_down ts (ys_order ts (ys_group ts (ys_where ts (ys_tabs ts (a, b', o, T))))))
    (hQ : ∀ σ' W' ns' w', yZR σ' m ts S' W' ns' w' → ye_f m σ0 σ' → Q none σ') : am_W g l mX10_selection d (am_tp σ0, am_us σ0) Q 103 [some (.ref m), some (.int z1), z2] [.int (yb b'), .ref m] σ := by
  obtain ⟨hH, hT, hP, hW, hHH⟩ := id h
  have o1 : ¬ (1 : Int32) = 0 := by decide
  have hf : yb_f m σ (am_wi σ m 13 (yb b')) := yb_f.rf.wf (by decide) (by decide)
  have h' : yZ (am_wi σ m 13 (yb b')) m ts a b' o W [] ns 0 w := h.up hf (hP.bd b') hW hHH
  have r' := hR.f hf
  have g' := f0.tr (ye_f.of hf)
  refine kX10_selection_103 ?_
  cases b' with
  | true =>
    have ey : yb true = 1 := rfl
    have e1 := e1 rfl
    subst e1
    have h' : yZ (am_wi σ m 13 1) m ts a true o W [] ns 0 w := h'
    have r' : yR (am_wi σ m 13 1) m T := r'
    have g' : ye_f m σ0 (am_wi σ m 13 1) := g'
    rw [ey]
    simp (disch := omega) only [ax_const, ax_iload, ax_lload, ax_aload, ax_istore, ax_astore, ax_iinc, ax_i2, ax_i2n, ax_l2, ax_lsh, ax_ii, ax_il, ax_li, ax_pop, ax_dup, ax_dup2, ax_if, ax_cmp, ax_acmp, ax_goto, ax_getI, ax_getR, ax_putI, ax_putR, ax_gets, ax_getsT, ax_aldI, ax_aldR, ax_astI, ax_astR, ax_alen, ax_ret, ax_aret, ax_vret, am_st, am_kl, List.getElem?_cons_zero, List.getElem?_cons_succ, List.set_cons_zero, List.set_cons_succ, Value.category, true_and, and_true, if_true, if_false, reduceCtorEq, Bool.false_eq_true, false_implies, forall_const, Option.some.injEq, exists_eq_left', exists_eq_left, Sum.inl.injEq, Sum.inr.injEq, Prod.mk.injEq, am_sh_wi, am_r_wi, am_tp_wi, am_us_wi, ym_is, ym_io, ym_ij, hH.1, o1]
    exact ⟨Or.inr trivial, fun _ => ⟨f0.tp, f0.us, hQ _ _ _ _ ⟨h', r'⟩ g'⟩⟩
  | false =>
    have ey : yb false = 0 := rfl
    have e2 := e2 rfl
    have h' : yZ (am_wi σ m 13 0) m ts a false o W [] ns 0 w := h'
    have r' : yR (am_wi σ m 13 0) m T := r'
    have g' : ye_f m σ0 (am_wi σ m 13 0) := g'
    rw [ey]
    have ha := (hI rfl).1
    have hl := (hI rfl).2
    simp (disch := omega) only [ax_const, ax_iload, ax_lload, ax_aload, ax_istore, ax_astore, ax_iinc, ax_i2, ax_i2n, ax_l2, ax_lsh, ax_ii, ax_il, ax_li, ax_pop, ax_dup, ax_dup2, ax_if, ax_cmp, ax_acmp, ax_goto, ax_getI, ax_getR, ax_putI, ax_putR, ax_gets, ax_getsT, ax_aldI, ax_aldR, ax_astI, ax_astR, ax_alen, ax_ret, ax_aret, ax_vret, am_st, am_kl, List.getElem?_cons_zero, List.getElem?_cons_succ, List.set_cons_zero, List.set_cons_succ, Value.category, true_and, and_true, if_true, if_false, reduceCtorEq, Bool.false_eq_true, false_implies, forall_const, Option.some.injEq, exists_eq_left', exists_eq_left, Sum.inl.injEq, Sum.inr.injEq, Prod.mk.injEq, am_sh_wi, am_r_wi, am_tp_wi, am_us_wi, ym_is, ym_io, ym_ij, hH.1]
    refine ⟨Or.inl trivial, ?_, fun z => absurd trivial z⟩
    generalize am_wi σ m 13 0 = σ1 at *
    refine am_callK [.ref m] [] (d' := 1) (lim' := (am_tp σ1, am_us σ1)) rfl (by omega) (Nat.le_of_eq g'.tp) (Nat.le_of_eq g'.us) rfl (Nat.le_of_ble_eq_true rfl) (am_recv h'.1.1) ?_
    refine c_yname (S := (a, false, o, T)) ⟨h', r'⟩ ha (by rw [show (a, false, o, T).2.2.2 0 = T 0 from rfl, hT0]; decide) (fun σ2 k2 f2 t2 u2 => ?_)
    have I2 : yI ts (ys_name ts (a, false, o, T)) ∧ (ys_name ts (a, false, o, T)).1 < ts.length ∧ (ys_name ts (a, false, o, T)).2.2.2 0 = 1 := by
      unfold ys_name
      dsimp only
      split
      · rename_i q
        have hlt := hEN.lt (a := a) (by omega)
        exact ⟨fun _ => ⟨hlt, Nat.le_succ_of_le hl⟩, hlt, by dsimp only; rw [yt_s, hT0]⟩
      · exact ⟨(fun q => by cases q), ha, by dsimp only; rw [yt_s, hT0]⟩
    unfold ys_tabs at e2
    generalize ys_name ts (a, false, o, T) = S2 at *
    obtain ⟨a2, b2, o2, T2⟩ := S2
    obtain ⟨I2, J2, J3⟩ := I2
    obtain ⟨k2, r2⟩ := k2
    have k2 : yZ σ2 m ts a2 b2 o2 W [] ns 0 w := k2
    have r2 : yR σ2 m T2 := r2
    have J2 : a2 < ts.length := J2
    have J3 : T2 0 = 1 := J3
    have g2 := g'.tr f2
    have y44 : (44 : Int32) = nI (yw_s 22) := rfl
    dsimp only at e2
    simp (disch := omega) only [ax_const, ax_iload, ax_lload, ax_aload, ax_istore, ax_astore, ax_iinc, ax_i2, ax_i2n, ax_l2, ax_lsh, ax_ii, ax_il, ax_li, ax_pop, ax_dup, ax_dup2, ax_if, ax_cmp, ax_acmp, ax_goto, ax_getI, ax_getR, ax_putI, ax_putR, ax_gets, ax_getsT, ax_aldI, ax_aldR, ax_astI, ax_astR, ax_alen, ax_ret, ax_aret, ax_vret, am_st, am_kl, List.getElem?_cons_zero, List.getElem?_cons_succ, List.set_cons_zero, List.set_cons_succ, Value.category, true_and, and_true, if_true, if_false, reduceCtorEq, Bool.false_eq_true, false_implies, forall_const, Option.some.injEq, exists_eq_left', exists_eq_left, Sum.inl.injEq, Sum.inr.injEq, Prod.mk.injEq, Option.toList_some, Option.toList_none, List.cons_append, List.nil_append, List.append_nil, y44]
    refine y_tsg k2 g2.tp g2.us J2 (by decide) (by decide) (by omega) (Nat.le_of_ble_eq_true rfl) (fun c σ3 k3 f3 => ?_) (fun c σ3 k3 f3 => ?_)
    · rw [if_pos c] at e2
      simp (disch := omega) only [ax_const, ax_iload, ax_lload, ax_aload, ax_istore, ax_astore, ax_iinc, ax_i2, ax_i2n, ax_l2, ax_lsh, ax_ii, ax_il, ax_li, ax_pop, ax_dup, ax_dup2, ax_if, ax_cmp, ax_acmp, ax_goto, ax_getI, ax_getR, ax_putI, ax_putR, ax_gets, ax_getsT, ax_aldI, ax_aldR, ax_astI, ax_astR, ax_alen, ax_ret, ax_aret, ax_vret, am_st, am_kl, List.getElem?_cons_zero, List.getElem?_cons_succ, List.set_cons_zero, List.set_cons_succ, Value.category, true_and, and_true, if_true, if_false, reduceCtorEq, Bool.false_eq_true, false_implies, forall_const, Option.some.injEq, exists_eq_left', exists_eq_left, Sum.inl.injEq, Sum.inr.injEq, Prod.mk.injEq, o1]
      intro _
      have g3 := g2.tr (ye_f.of f3)
      have hlt := hEN.lt (a := a2) (by rw [c]; decide)
      refine am_callK [.ref m] [] (d' := 1) (lim' := (am_tp σ3, am_us σ3)) rfl (by omega) (Nat.le_of_eq g3.tp) (Nat.le_of_eq g3.us) rfl (Nat.le_of_ble_eq_true rfl) (am_recv k3.1.1) ?_
      refine c_yname (S := (a2 + 1, b2, o2, T2)) ⟨k3, r2.f f3⟩ hlt (by rw [show (a2 + 1, b2, o2, T2).2.2.2 0 = T2 0 from rfl, J3]; decide) (fun σ4 k4 f4 t4 u4 => ?_)
      have I4 : yI ts (ys_name ts (a2 + 1, b2, o2, T2)) := by
        unfold ys_name
        dsimp only
        split
        · rename_i q
          have hlt2 := hEN.lt (a := a2 + 1) (by omega)
          exact fun q2 => ⟨hlt2, Nat.le_succ_of_le (Nat.le_succ_of_le (I2 q2).2)⟩
        · exact fun q => by cases q
      simp (disch := omega) only [Option.toList_some, Option.toList_none, List.cons_append, List.nil_append, List.append_nil]
      rw [e2] at hQ
      exact ysl_131 hEN hd k4 (g3.tr f4) I4 hQ
    · rw [if_neg c] at e2
      simp (disch := omega) only [ax_const, ax_iload, ax_lload, ax_aload, ax_istore, ax_astore, ax_iinc, ax_i2, ax_i2n, ax_l2, ax_lsh, ax_ii, ax_il, ax_li, ax_pop, ax_dup, ax_dup2, ax_if, ax_cmp, ax_acmp, ax_goto, ax_getI, ax_getR, ax_putI, ax_putR, ax_gets, ax_getsT, ax_aldI, ax_aldR, ax_astI, ax_astR, ax_alen, ax_ret, ax_aret, ax_vret, am_st, am_kl, List.getElem?_cons_zero, List.getElem?_cons_succ, List.set_cons_zero, List.set_cons_succ, Value.category, true_and, and_true, if_true, if_false, reduceCtorEq, Bool.false_eq_true, false_implies, forall_const, Option.some.injEq, exists_eq_left', exists_eq_left, Sum.inl.injEq, Sum.inr.injEq, Prod.mk.injEq]
      rw [e2] at hQ
      exact ⟨ysl_131 (S := (a2, b2, o2, T2)) hEN hd ⟨k3, r2.f f3⟩ (g2.tr (ye_f.of f3)) I2 hQ, fun z => absurd trivial z⟩
theorem ysl_62 {g : am_G} {l : Launch} {σ0 σ : am_S} {m a d : Nat} {ts : List (Nat × Int32)} {b : Bool} {o : yp_O} {W : List Nat} {ns : Int32} {w : Bool} {T : Nat → Nat} {z1 : Int32} {z2 : Option Value} {Q : Option Value → am_S → Prop} (hEN : xp_EN ts) (hd : 8 ≤ d) (h : yZ σ m ts a b o W [] ns 0 w) (hR : yR σ m T) (f0 : ye_f m σ0 σ) (hI : yI ts (a, b, o, T)) (hT0 : T 0 = 0) (hT4 : T 4 ≤ 1000)
    (hQ : ∀ σ' W' ns' w', yZR σ' m ts (if (ys_from ts (a, b, o, T)).2.1 = true then ys_from ts (a, b, o, T) else ys_down ts (ys_order ts (ys_group ts (ys_where ts (ys_tabs ts (ys_from ts (a, b, o, T))))))) W' ns' w' → ye_f m σ0 σ' → Q none σ') : am_W g l mX10_selection d (am_tp σ0, am_us σ0) Q 62 [some (.ref m), some (.int z1), z2] [] σ := by
  obtain ⟨hH, hT, hP, hW, hHH⟩ := id h
  have o1 : ¬ (1 : Int32) = 0 := by decide
  have e27 : am_i σ m 27 = nI (T 4) := hR.2.2.2.1
  have bad : ∀ σ1, yZ σ1 m ts a b o W [] ns 0 w → yR σ1 m T → ye_f m σ0 σ1 → ys_from ts (a, b, o, T) = (a, true, o, T) → am_W g l mX10_selection d (am_tp σ0, am_us σ0) Q 103 [some (.ref m), some (.int z1), z2] [.int 1, .ref m] σ1 := by
    intro σ1 k1 r1 f1 e
    rw [e, if_pos rfl] at hQ
    exact ysl_103 (b' := true) hEN hd k1 r1 f1 (fun q => by cases q) hT0 (fun _ => rfl) (fun q => by cases q) hQ
  refine kX10_selection_62 ?_
  cases b with
  | true =>
    have e13 : am_i σ m 13 = 1 := hP.2.1
    simp (disch := omega) only [ax_const, ax_iload, ax_lload, ax_aload, ax_istore, ax_astore, ax_iinc, ax_i2, ax_i2n, ax_l2, ax_lsh, ax_ii, ax_il, ax_li, ax_pop, ax_dup, ax_dup2, ax_if, ax_cmp, ax_acmp, ax_goto, ax_getI, ax_getR, ax_putI, ax_putR, ax_gets, ax_getsT, ax_aldI, ax_aldR, ax_astI, ax_astR, ax_alen, ax_ret, ax_aret, ax_vret, am_st, am_kl, List.getElem?_cons_zero, List.getElem?_cons_succ, List.set_cons_zero, List.set_cons_succ, Value.category, true_and, and_true, if_true, if_false, reduceCtorEq, Bool.false_eq_true, false_implies, forall_const, Option.some.injEq, exists_eq_left', exists_eq_left, Sum.inl.injEq, Sum.inr.injEq, Prod.mk.injEq, hH.1, e13, o1]
    exact fun _ => bad σ h hR f0 (if_pos (Or.inl rfl))
  | false =>
    have e13 : am_i σ m 13 = 0 := hP.2.1
    simp (disch := omega) only [ax_const, ax_iload, ax_lload, ax_aload, ax_istore, ax_astore, ax_iinc, ax_i2, ax_i2n, ax_l2, ax_lsh, ax_ii, ax_il, ax_li, ax_pop, ax_dup, ax_dup2, ax_if, ax_cmp, ax_acmp, ax_goto, ax_getI, ax_getR, ax_putI, ax_putR, ax_gets, ax_getsT, ax_aldI, ax_aldR, ax_astI, ax_astR, ax_alen, ax_ret, ax_aret, ax_vret, am_st, am_kl, List.getElem?_cons_zero, List.getElem?_cons_succ, List.set_cons_zero, List.set_cons_succ, Value.category, true_and, and_true, if_true, if_false, reduceCtorEq, Bool.false_eq_true, false_implies, forall_const, Option.some.injEq, exists_eq_left', exists_eq_left, Sum.inl.injEq, Sum.inr.injEq, Prod.mk.injEq, hH.1, e13, e27, yl_3, yl_lt]
    refine ⟨⟨fun c => bad σ h hR f0 (if_pos (Or.inr c)), fun c => ?_⟩, fun z => absurd trivial z⟩
    have ef : ys_from ts (a, false, o, T) = ys_need ts 5 (a, false, o, T) := if_neg (fun z => z.elim (fun q => by cases q) c)
    unfold ys_need at ef
    rw [if_neg Bool.false_ne_true] at ef
    dsimp only at ef
    refine y_tw h f0.tp f0.us (hI rfl).1 (by decide) yw_from (by omega) (Nat.le_of_ble_eq_true rfl) (fun c2 σ1 k1 f1 => ?_) (fun c2 σ1 k1 f1 => ?_)
    · rw [if_pos c2] at ef
      simp (disch := omega) only [ax_const, ax_iload, ax_lload, ax_aload, ax_istore, ax_astore, ax_iinc, ax_i2, ax_i2n, ax_l2, ax_lsh, ax_ii, ax_il, ax_li, ax_pop, ax_dup, ax_dup2, ax_if, ax_cmp, ax_acmp, ax_goto, ax_getI, ax_getR, ax_putI, ax_putR, ax_gets, ax_getsT, ax_aldI, ax_aldR, ax_astI, ax_astR, ax_alen, ax_ret, ax_aret, ax_vret, am_st, am_kl, List.getElem?_cons_zero, List.getElem?_cons_succ, List.set_cons_zero, List.set_cons_succ, Value.category, true_and, and_true, if_true, if_false, reduceCtorEq, Bool.false_eq_true, false_implies, forall_const, Option.some.injEq, exists_eq_left', exists_eq_left, Sum.inl.injEq, Sum.inr.injEq, Prod.mk.injEq, o1]
      intro _
      rw [ef, if_neg Bool.false_ne_true] at hQ
      have hlt := hEN.lt (a := a) (by rw [c2]; decide)
      exact ysl_103 (b' := false) hEN hd k1 (hR.f f1) (f0.tr (ye_f.of f1)) (fun _ => ⟨hlt, Nat.le_succ_of_le (hI rfl).2⟩) hT0 (fun q => by cases q) (fun _ => rfl) hQ
    · rw [if_neg c2] at ef
      simp (disch := omega) only [ax_const, ax_iload, ax_lload, ax_aload, ax_istore, ax_astore, ax_iinc, ax_i2, ax_i2n, ax_l2, ax_lsh, ax_ii, ax_il, ax_li, ax_pop, ax_dup, ax_dup2, ax_if, ax_cmp, ax_acmp, ax_goto, ax_getI, ax_getR, ax_putI, ax_putR, ax_gets, ax_getsT, ax_aldI, ax_aldR, ax_astI, ax_astR, ax_alen, ax_ret, ax_aret, ax_vret, am_st, am_kl, List.getElem?_cons_zero, List.getElem?_cons_succ, List.set_cons_zero, List.set_cons_succ, Value.category, true_and, and_true, if_true, if_false, reduceCtorEq, Bool.false_eq_true, false_implies, forall_const, Option.some.injEq, exists_eq_left', exists_eq_left, Sum.inl.injEq, Sum.inr.injEq, Prod.mk.injEq]
      exact ⟨bad σ1 k1 (hR.f f1) (f0.tr (ye_f.of f1)) ef, fun z => absurd trivial z⟩
theorem ysl_22 {g : am_G} {l : Launch} {σ0 : am_S} {m d : Nat} {ts : List (Nat × Int32)} {z2 : Option Value} {Q : Option Value → am_S → Prop} (hEN : xp_EN ts) (hd : 8 ≤ d) : ∀ (n : Nat) (S : ys_S) (σ : am_S) (W : List Nat) (ns : Int32) (w : Bool), ts.length < n + S.1 → S.1 ≤ ts.length → yZR σ m ts S W ns w → ye_f m σ0 σ → yI ts S → S.2.2.2 0 = 0 → S.2.2.2 4 ≤ S.1 →
    (∀ σ' W' ns' w', yZR σ' m ts (if (ys_from ts (ys_terms ts n S)).2.1 = true then ys_from ts (ys_terms ts n S) else ys_down ts (ys_order ts (ys_group ts (ys_where ts (ys_tabs ts (ys_from ts (ys_terms ts n S))))))) W' ns' w' → ye_f m σ0 σ' → Q none σ') → am_W g l mX10_selection d (am_tp σ0, am_us σ0) Q 22 [some (.ref m), some (.int 1), z2] [] σ := by
  intro n
  induction n with
  | zero => intro S σ W ns w h1 h2; omega
  | succ n ih =>
    intro S σ W ns w h1 h2 h f0 hI hT0 hT4 hQ
    obtain ⟨a, b, o, T⟩ := S
    obtain ⟨k0, r0⟩ := h
    have k0 : yZ σ m ts a b o W [] ns 0 w := k0
    have r0 : yR σ m T := r0
    have hts := k0.2.1.1
    have h1 : ts.length < n + 1 + a := h1
    have h2 : a ≤ ts.length := h2
    have hT0 : T 0 = 0 := hT0
    have hT4 : T 4 ≤ a := hT4
    have o1 : ¬ (1 : Int32) = 0 := by decide
    have hH := k0.1
    have e27 : am_i σ m 27 = nI (T 4) := r0.2.2.2.1
    rw [ys_terms] at hQ
    refine kX10_selection_22 ?_
    cases b with
    | true =>
      have e13 : am_i σ m 13 = 1 := k0.2.2.1.2.1
      simp (disch := omega) only [ax_const, ax_iload, ax_lload, ax_aload, ax_istore, ax_astore, ax_iinc, ax_i2, ax_i2n, ax_l2, ax_lsh, ax_ii, ax_il, ax_li, ax_pop, ax_dup, ax_dup2, ax_if, ax_cmp, ax_acmp, ax_goto, ax_getI, ax_getR, ax_putI, ax_putR, ax_gets, ax_getsT, ax_aldI, ax_aldR, ax_astI, ax_astR, ax_alen, ax_ret, ax_aret, ax_vret, am_st, am_kl, List.getElem?_cons_zero, List.getElem?_cons_succ, List.set_cons_zero, List.set_cons_succ, Value.category, true_and, and_true, if_true, if_false, reduceCtorEq, Bool.false_eq_true, false_implies, forall_const, Option.some.injEq, exists_eq_left', exists_eq_left, Sum.inl.injEq, Sum.inr.injEq, Prod.mk.injEq, hH.1, e13, o1]
      rw [if_pos rfl] at hQ
      exact fun _ _ => ysl_62 hEN hd k0 r0 f0 hI hT0 (by omega) hQ
    | false =>
      have e13 : am_i σ m 13 = 0 := k0.2.2.1.2.1
      rw [if_neg Bool.false_ne_true] at hQ
      have yb1 : (1 : Int32) = yb true := rfl
      simp (disch := omega) only [ax_const, ax_iload, ax_lload, ax_aload, ax_istore, ax_astore, ax_iinc, ax_i2, ax_i2n, ax_l2, ax_lsh, ax_ii, ax_il, ax_li, ax_pop, ax_dup, ax_dup2, ax_if, ax_cmp, ax_acmp, ax_goto, ax_getI, ax_getR, ax_putI, ax_putR, ax_gets, ax_getsT, ax_aldI, ax_aldR, ax_astI, ax_astR, ax_alen, ax_ret, ax_aret, ax_vret, am_st, am_kl, List.getElem?_cons_zero, List.getElem?_cons_succ, List.set_cons_zero, List.set_cons_succ, Value.category, true_and, and_true, if_true, if_false, reduceCtorEq, Bool.false_eq_true, false_implies, forall_const, Option.some.injEq, exists_eq_left', exists_eq_left, Sum.inl.injEq, Sum.inr.injEq, Prod.mk.injEq, hH.1, e13, o1, e27]
      intro _
      refine ⟨?_, fun z => absurd trivial z⟩
      refine am_callK [.ref m, .int (nI (T 4)), .int (yb true)] [] (d' := 5) (lim' := (am_tp σ, am_us σ)) rfl (by omega) (Nat.le_of_eq f0.tp) (Nat.le_of_eq f0.us) rfl (Nat.le_of_ble_eq_true rfl) (am_recv hH.1) ?_
      refine c_yterm (S := (a, false, o, T)) hEN ⟨k0, r0⟩ (by omega) rfl (hI rfl).1 (hI rfl).2 (fun σ2 W2 ns2 w2 k2 f2 t2 u2 => ?_)
      have hi4 : ys_t4 (T 4) < 4 := by unfold ys_t4; split <;> omega
      obtain ⟨J1, J2⟩ := yI.term (i := ys_t4 (T 4)) (c := true) (S := (a, false, o, T)) hEN hI rfl
      have JT : ∀ q, q < 5 → (ys_term ts (ys_t4 (T 4)) true (a, false, o, T)).2.2.2 q = T q := fun q hq => ys_term_T (by omega) (by omega) (by omega)
      have hge : a ≤ (ys_term ts (ys_t4 (T 4)) true (a, false, o, T)).1 := ys_tm_ge ts true a o
      have etc : ys_tc ts (a, false, o, T) = (decide (xp_hd ts (ys_term ts (ys_t4 (T 4)) true (a, false, o, T)).1 = 22), (if xp_hd ts (ys_term ts (ys_t4 (T 4)) true (a, false, o, T)).1 = 22 then (ys_term ts (ys_t4 (T 4)) true (a, false, o, T)).1 + 1 else (ys_term ts (ys_t4 (T 4)) true (a, false, o, T)).1, (ys_term ts (ys_t4 (T 4)) true (a, false, o, T)).2.1, (ys_term ts (ys_t4 (T 4)) true (a, false, o, T)).2.2.1, yt (ys_term ts (ys_t4 (T 4)) true (a, false, o, T)).2.2.2 4 (T 4 + 1))) := rfl
      rw [etc] at hQ
      clear etc
      generalize ys_term ts (ys_t4 (T 4)) true (a, false, o, T) = S2 at *
      obtain ⟨a2, b2, o2, T2⟩ := S2
      obtain ⟨k2, r2⟩ := k2
      have k2 : yZ σ2 m ts a2 b2 o2 W2 [] ns2 0 w2 := k2
      have r2 : yR σ2 m T2 := r2
      have J1 : a2 < ts.length := J1
      have hge : a ≤ a2 := hge
      have JT : ∀ q, q < 5 → T2 q = T q := JT
      have g2 := f0.tr f2
      have e27' : am_i σ2 m 27 = nI (T 4) := by rw [r2.2.2.2.1, JT 4 (by decide)]
      have y44 : (44 : Int32) = nI (yw_s 22) := rfl
      have k3 := k2.reg (k := 27) (v := nI (T 4 + 1)) (by decide)
      have r3 : yR (am_wi σ2 m 27 (nI (T 4 + 1))) m (yt T2 4 (T 4 + 1)) := r2.f27
      have g3 := g2.wf (k := 27) (v := nI (T 4 + 1)) (by decide) (by decide)
      have hT00 : (yt T2 4 (T 4 + 1)) 0 = 0 := by rw [yt_o (by decide), JT 0 (by decide)]; exact hT0
      dsimp only at hQ
      simp (disch := omega) only [ax_const, ax_iload, ax_lload, ax_aload, ax_istore, ax_astore, ax_iinc, ax_i2, ax_i2n, ax_l2, ax_lsh, ax_ii, ax_il, ax_li, ax_pop, ax_dup, ax_dup2, ax_if, ax_cmp, ax_acmp, ax_goto, ax_getI, ax_getR, ax_putI, ax_putR, ax_gets, ax_getsT, ax_aldI, ax_aldR, ax_astI, ax_astR, ax_alen, ax_ret, ax_aret, ax_vret, am_st, am_kl, List.getElem?_cons_zero, List.getElem?_cons_succ, List.set_cons_zero, List.set_cons_succ, Value.category, true_and, and_true, if_true, if_false, reduceCtorEq, Bool.false_eq_true, false_implies, forall_const, Option.some.injEq, exists_eq_left', exists_eq_left, Sum.inl.injEq, Sum.inr.injEq, Prod.mk.injEq, Option.toList_some, Option.toList_none, List.cons_append, List.nil_append, List.append_nil, nI_toInt, nI_clamp, am_ix_nI, am_ix_0, am_ix_1, am_ix_2, am_ix_3, am_n0, am_n1, am_n2, am_n3, am_n4, am_t0, am_t1, am_t2, am_t3, am_t4, am_tm1, am_nS, am_nP, am_nM, Int.ofNat_lt, Int.ofNat_le, k2.1.1, e27', y44]
      generalize am_wi σ2 m 27 (nI (T 4 + 1)) = σ3 at *
      refine y_tsg k3 g3.tp g3.us J1 (by decide) (by decide) (by omega) (Nat.le_of_ble_eq_true rfl) (fun c σ4 k4 f4 => ?_) (fun c σ4 k4 f4 => ?_)
      · simp only [if_pos c, decide_eq_true c, if_true] at hQ
        have hlt := hEN.lt (a := a2) (by rw [c]; decide)
        cases z2 with
        | none =>
          simp (disch := omega) only [ax_const, ax_iload, ax_lload, ax_aload, ax_istore, ax_astore, ax_iinc, ax_i2, ax_i2n, ax_l2, ax_lsh, ax_ii, ax_il, ax_li, ax_pop, ax_dup, ax_dup2, ax_if, ax_cmp, ax_acmp, ax_goto, ax_getI, ax_getR, ax_putI, ax_putR, ax_gets, ax_getsT, ax_aldI, ax_aldR, ax_astI, ax_astR, ax_alen, ax_ret, ax_aret, ax_vret, am_st, am_kl, List.getElem?_cons_zero, List.getElem?_cons_succ, List.set_cons_zero, List.set_cons_succ, Value.category, true_and, and_true, if_true, if_false, reduceCtorEq, Bool.false_eq_true, false_implies, forall_const, Option.some.injEq, exists_eq_left', exists_eq_left, Sum.inl.injEq, Sum.inr.injEq, Prod.mk.injEq]
          exact ih (a2 + 1, b2, o2, yt T2 4 (T 4 + 1)) σ4 W2 ns2 w2 (by show ts.length < n + (a2 + 1); omega) (Nat.le_of_lt hlt) ⟨k4, r3.f f4⟩ (g3.tr (ye_f.of f4)) (fun q => ⟨hlt, Nat.le_succ_of_le (J2 q).2⟩) hT00 (by show yt T2 4 (T 4 + 1) 4 ≤ a2 + 1; rw [yt_s]; omega) hQ
        | some z2 =>
          simp (disch := omega) only [ax_const, ax_iload, ax_lload, ax_aload, ax_istore, ax_astore, ax_iinc, ax_i2, ax_i2n, ax_l2, ax_lsh, ax_ii, ax_il, ax_li, ax_pop, ax_dup, ax_dup2, ax_if, ax_cmp, ax_acmp, ax_goto, ax_getI, ax_getR, ax_putI, ax_putR, ax_gets, ax_getsT, ax_aldI, ax_aldR, ax_astI, ax_astR, ax_alen, ax_ret, ax_aret, ax_vret, am_st, am_kl, List.getElem?_cons_zero, List.getElem?_cons_succ, List.set_cons_zero, List.set_cons_succ, Value.category, true_and, and_true, if_true, if_false, reduceCtorEq, Bool.false_eq_true, false_implies, forall_const, Option.some.injEq, exists_eq_left', exists_eq_left, Sum.inl.injEq, Sum.inr.injEq, Prod.mk.injEq]
          exact ih (a2 + 1, b2, o2, yt T2 4 (T 4 + 1)) σ4 W2 ns2 w2 (by show ts.length < n + (a2 + 1); omega) (Nat.le_of_lt hlt) ⟨k4, r3.f f4⟩ (g3.tr (ye_f.of f4)) (fun q => ⟨hlt, Nat.le_succ_of_le (J2 q).2⟩) hT00 (by show yt T2 4 (T 4 + 1) 4 ≤ a2 + 1; rw [yt_s]; omega) hQ
      · simp only [if_neg c, decide_eq_false c, Bool.false_eq_true, if_false] at hQ
        have fin : ∀ z2', am_W g l mX10_selection d (am_tp σ0, am_us σ0) Q 22 [some (.ref m), some (.int 0), z2'] [] σ4 := by
          intro z2'
          refine kX10_selection_22 ?_
          simp (disch := omega) only [ax_const, ax_iload, ax_lload, ax_aload, ax_istore, ax_astore, ax_iinc, ax_i2, ax_i2n, ax_l2, ax_lsh, ax_ii, ax_il, ax_li, ax_pop, ax_dup, ax_dup2, ax_if, ax_cmp, ax_acmp, ax_goto, ax_getI, ax_getR, ax_putI, ax_putR, ax_gets, ax_getsT, ax_aldI, ax_aldR, ax_astI, ax_astR, ax_alen, ax_ret, ax_aret, ax_vret, am_st, am_kl, List.getElem?_cons_zero, List.getElem?_cons_succ, List.set_cons_zero, List.set_cons_succ, Value.category, true_and, and_true, if_true, if_false, reduceCtorEq, Bool.false_eq_true, false_implies, forall_const, Option.some.injEq, exists_eq_left', exists_eq_left, Sum.inl.injEq, Sum.inr.injEq, Prod.mk.injEq]
          exact ⟨ysl_62 hEN hd k4 (r3.f f4) (g3.tr (ye_f.of f4)) J2 hT00 (by rw [yt_s]; omega) hQ, fun z => absurd trivial z⟩
        cases z2 with
        | none =>
          simp (disch := omega) only [ax_const, ax_iload, ax_lload, ax_aload, ax_istore, ax_astore, ax_iinc, ax_i2, ax_i2n, ax_l2, ax_lsh, ax_ii, ax_il, ax_li, ax_pop, ax_dup, ax_dup2, ax_if, ax_cmp, ax_acmp, ax_goto, ax_getI, ax_getR, ax_putI, ax_putR, ax_gets, ax_getsT, ax_aldI, ax_aldR, ax_astI, ax_astR, ax_alen, ax_ret, ax_aret, ax_vret, am_st, am_kl, List.getElem?_cons_zero, List.getElem?_cons_succ, List.set_cons_zero, List.set_cons_succ, Value.category, true_and, and_true, if_true, if_false, reduceCtorEq, Bool.false_eq_true, false_implies, forall_const, Option.some.injEq, exists_eq_left', exists_eq_left, Sum.inl.injEq, Sum.inr.injEq, Prod.mk.injEq]
          exact fin _
        | some z2 =>
          simp (disch := omega) only [ax_const, ax_iload, ax_lload, ax_aload, ax_istore, ax_astore, ax_iinc, ax_i2, ax_i2n, ax_l2, ax_lsh, ax_ii, ax_il, ax_li, ax_pop, ax_dup, ax_dup2, ax_if, ax_cmp, ax_acmp, ax_goto, ax_getI, ax_getR, ax_putI, ax_putR, ax_gets, ax_getsT, ax_aldI, ax_aldR, ax_astI, ax_astR, ax_alen, ax_ret, ax_aret, ax_vret, am_st, am_kl, List.getElem?_cons_zero, List.getElem?_cons_succ, List.set_cons_zero, List.set_cons_succ, Value.category, true_and, and_true, if_true, if_false, reduceCtorEq, Bool.false_eq_true, false_implies, forall_const, Option.some.injEq, exists_eq_left', exists_eq_left, Sum.inl.injEq, Sum.inr.injEq, Prod.mk.injEq]
          exact fin _
theorem c_ysel {g : am_G} {l : Launch} {σ : am_S} {m : Nat} {ts : List (Nat × Int32)} {S : ys_S} {W : List Nat} {ns : Int32} {w : Bool} {Q : Option Value → am_S → Prop} (hEN : xp_EN ts) (h : yZR σ m ts S W ns w) (hb : S.2.1 = false) (hI : yI ts S) (hT0 : S.2.2.2 0 = 0) (hT4 : S.2.2.2 4 = 0)
    (hQ : ∀ σ' W' ns' w', yZR σ' m ts (ys_sel ts S) W' ns' w' → ye_f m σ σ' → Q none σ') : am_C g l mX10_selection 8 (am_tp σ, am_us σ) [.ref m] σ Q := by
  obtain ⟨a, b, o, T⟩ := S
  have hb : b = false := hb
  subst hb
  obtain ⟨k0, r0⟩ := h
  have k0 : yZ σ m ts a false o W [] ns 0 w := k0
  have r0 : yR σ m T := r0
  have hT0 : T 0 = 0 := hT0
  have hT4 : T 4 = 0 := hT4
  unfold ys_sel ys_top at hQ
  dsimp only at hQ
  refine am_C.go [some (.ref m), none, none] (by decide +kernel) (Nat.le_of_ble_eq_true rfl) rfl (kX10_selection_0 ?_)
  simp (disch := omega) only [ax_const, ax_iload, ax_lload, ax_aload, ax_istore, ax_astore, ax_iinc, ax_i2, ax_i2n, ax_l2, ax_lsh, ax_ii, ax_il, ax_li, ax_pop, ax_dup, ax_dup2, ax_if, ax_cmp, ax_acmp, ax_goto, ax_getI, ax_getR, ax_putI, ax_putR, ax_gets, ax_getsT, ax_aldI, ax_aldR, ax_astI, ax_astR, ax_alen, ax_ret, ax_aret, ax_vret, am_st, am_kl, List.getElem?_cons_zero, List.getElem?_cons_succ, List.set_cons_zero, List.set_cons_succ, Value.category, true_and, and_true, if_true, if_false, reduceCtorEq, Bool.false_eq_true, false_implies, forall_const, Option.some.injEq, exists_eq_left', exists_eq_left, Sum.inl.injEq, Sum.inr.injEq, Prod.mk.injEq]
  refine y_tw k0 rfl rfl (hI rfl).1 (by decide) yw_top (by decide) (Nat.le_of_ble_eq_true rfl) (fun c σ1 k1 f1 => ?_) (fun c σ1 k1 f1 => ?_)
  · rw [if_pos c] at hQ
    have hlt := hEN.lt (a := a) (by rw [c]; decide)
    simp (disch := omega) only [ax_const, ax_iload, ax_lload, ax_aload, ax_istore, ax_astore, ax_iinc, ax_i2, ax_i2n, ax_l2, ax_lsh, ax_ii, ax_il, ax_li, ax_pop, ax_dup, ax_dup2, ax_if, ax_cmp, ax_acmp, ax_goto, ax_getI, ax_getR, ax_putI, ax_putR, ax_gets, ax_getsT, ax_aldI, ax_aldR, ax_astI, ax_astR, ax_alen, ax_ret, ax_aret, ax_vret, am_st, am_kl, List.getElem?_cons_zero, List.getElem?_cons_succ, List.set_cons_zero, List.set_cons_succ, Value.category, true_and, and_true, if_true, if_false, reduceCtorEq, Bool.false_eq_true, false_implies, forall_const, Option.some.injEq, exists_eq_left', exists_eq_left, Sum.inl.injEq, Sum.inr.injEq, Prod.mk.injEq, k1.1.1]
    exact ⟨Or.inr trivial, ysl_22 (σ0 := σ) hEN (by decide) (ts.length + 1) (a + 1, false, o, yt T 20 1) _ W ns w (by show ts.length < _ + (a + 1); omega) (Nat.le_of_lt hlt) ⟨k1.reg (by decide), (r0.f f1).f33 (v := 1)⟩ ((ye_f.of f1).wf (by decide) (by decide)) (fun _ => ⟨hlt, Nat.le_succ_of_le (hI rfl).2⟩) (by show yt T 20 1 0 = 0; rw [yt_o (by decide)]; exact hT0) (by show yt T 20 1 4 ≤ a + 1; rw [yt_o (by decide), hT4]; exact Nat.zero_le _) hQ⟩
  · rw [if_neg c] at hQ
    simp (disch := omega) only [ax_const, ax_iload, ax_lload, ax_aload, ax_istore, ax_astore, ax_iinc, ax_i2, ax_i2n, ax_l2, ax_lsh, ax_ii, ax_il, ax_li, ax_pop, ax_dup, ax_dup2, ax_if, ax_cmp, ax_acmp, ax_goto, ax_getI, ax_getR, ax_putI, ax_putR, ax_gets, ax_getsT, ax_aldI, ax_aldR, ax_astI, ax_astR, ax_alen, ax_ret, ax_aret, ax_vret, am_st, am_kl, List.getElem?_cons_zero, List.getElem?_cons_succ, List.set_cons_zero, List.set_cons_succ, Value.category, true_and, and_true, if_true, if_false, reduceCtorEq, Bool.false_eq_true, false_implies, forall_const, Option.some.injEq, exists_eq_left', exists_eq_left, Sum.inl.injEq, Sum.inr.injEq, Prod.mk.injEq, k1.1.1]
    exact ⟨Or.inl trivial, ysl_22 (σ0 := σ) hEN (by decide) (ts.length + 1) (a, false, o, yt T 20 0) _ W ns w (by show ts.length < _ + a; omega) (Nat.le_of_lt (hI rfl).1) ⟨k1.reg (by decide), (r0.f f1).f33 (v := 0)⟩ ((ye_f.of f1).wf (by decide) (by decide)) hI (by show yt T 20 0 0 = 0; rw [yt_o (by decide)]; exact hT0) (by show yt T 20 0 4 ≤ a; rw [yt_o (by decide), hT4]; exact Nat.zero_le _) hQ⟩
