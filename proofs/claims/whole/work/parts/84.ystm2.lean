/-! the reference's parser: statement, its head -/
theorem yI.name {ts : List (Nat × Int32)} {S : ys_S} (hEN : xp_EN ts) (h : yI ts S) : yI ts (ys_name ts S) := by
  unfold ys_name
  split
  · rename_i q
    have hlt := hEN.lt (a := S.1) (by omega)
    exact fun q2 => ⟨hlt, Nat.le_succ_of_le (h q2).2⟩
  · exact fun q => by cases q
theorem ys_name_lt {ts : List (Nat × Int32)} {S : ys_S} (hEN : xp_EN ts) (h : S.1 < ts.length) : (ys_name ts S).1 < ts.length := by
  unfold ys_name
  split
  · rename_i q
    exact hEN.lt (a := S.1) (by omega)
  · exact h
theorem yI.adv {ts : List (Nat × Int32)} {S : ys_S} {T : Nat → Nat} (hEN : xp_EN ts) (h : yI ts S) (hh : xp_hd ts S.1 ≠ 36) : yI ts (S.1 + 1, S.2.1, S.2.2.1, T) := fun q => ⟨hEN.lt hh, Nat.le_succ_of_le (h q).2⟩
theorem yI.terms {ts : List (Nat × Int32)} (hEN : xp_EN ts) : ∀ (n : Nat) (S : ys_S), yI ts S → yI ts (ys_terms ts n S)
  | 0, S, h => h
  | n + 1, S, h => by
    rw [ys_terms]
    split
    · exact h
    · rename_i hb
      have hb : S.2.1 = false := by
        cases e : S.2.1 with
        | true => exact absurd e hb
        | false => rfl
      have h2 := (h.term (i := ys_t4 (S.2.2.2 4)) (c := true) hEN hb).2
      have h3 : yI ts (ys_tc ts S).2 := by
        unfold ys_tc
        dsimp only
        split
        · rename_i q
          exact h2.adv (T := yt _ 4 _) hEN (by rw [q]; decide)
        · exact h2
      split
      · exact yI.terms hEN n _ h3
      · exact h3
theorem yI.from {ts : List (Nat × Int32)} {S : ys_S} (hEN : xp_EN ts) (h : yI ts S) : yI ts (ys_from ts S) := by
  unfold ys_from
  split
  · exact fun q => by cases q
  · exact h.need hEN (by decide)
theorem yI.tabs {ts : List (Nat × Int32)} {S : ys_S} (hEN : xp_EN ts) (h : yI ts S) : yI ts (ys_tabs ts S) := by
  unfold ys_tabs
  split
  · rename_i q
    exact ((h.name hEN).adv (T := (ys_name ts S).2.2.2) hEN (by rw [q]; decide)).name hEN
  · exact h.name hEN
theorem yI.group {ts : List (Nat × Int32)} {S : ys_S} (hEN : xp_EN ts) (h : yI ts S) : yI ts (ys_group ts S) := by
  unfold ys_group
  split
  · rename_i q
    have hlt := hEN.lt (a := S.1) (by rw [q.2]; decide)
    have hl := (h q.1).2
    have hg := yp_ca_ge ts (S.1 + 1)
    refine fun _ => ⟨yp_ca_lt2 hEN hlt, ?_⟩
    show (S.2.2.1 ++ [(2, nI (yp_co ts (S.1 + 1)))]).length + 1 ≤ yp_ca ts (S.1 + 1)
    rw [List.length_append, List.length_cons, List.length_nil]
    omega
  · exact h
theorem yI.order {ts : List (Nat × Int32)} {S : ys_S} (hEN : xp_EN ts) (h : yI ts S) : yI ts (ys_order ts S) := by
  unfold ys_order
  split
  · rename_i q
    exact ((h.adv (T := yt S.2.2.2 22 1) hEN (by rw [q.2]; decide)).term (i := 3) (c := true) hEN q.1).2
  · exact h
theorem yI.down {ts : List (Nat × Int32)} {S : ys_S} (hEN : xp_EN ts) (h : yI ts S) : yI ts (ys_down ts S) := by
  unfold ys_down
  split
  · rename_i q
    exact h.adv (T := yt S.2.2.2 23 1) hEN (by rw [q.2.2]; decide)
  · exact h
theorem yI.sel {ts : List (Nat × Int32)} {S : ys_S} (hEN : xp_EN ts) (h : yI ts S) : yI ts (ys_sel ts S) := by
  have h1 : yI ts (ys_top ts S) := by
    unfold ys_top
    split
    · rename_i q
      exact h.adv (T := yt S.2.2.2 20 1) hEN (by rw [q]; decide)
    · exact h
  have h2 := (yI.terms hEN (ts.length + 1) _ h1).from hEN
  unfold ys_sel
  split
  · exact h2
  · exact ((((h2.tabs hEN).wh hEN).group hEN).order hEN).down hEN
theorem yst_158 {g : am_G} {l : Launch} {σ0 σ : am_S} {m a d : Nat} {x v : Int32} {ts : List (Nat × Int32)} {b q16 q17 : Bool} {o : yp_O} {T : Nat → Nat} {W : List Nat} {ns : Int32} {w : Bool} {Q : Option Value → am_S → Prop} (hEN : xp_EN ts) (hd : 8 ≤ d) (h : yZ σ m ts a b o W [] ns 0 w) (hR : yR σ m T) (f0 : ye_f m σ0 σ) (h11 : am_i σ0 m 11 = nI (ts.length - 1)) (hts1 : 1 ≤ ts.length) (hI : yI ts (a, b, o, T)) (e16 : x = nI 22 ↔ q16 = true) (e17 : x = nI 23 ↔ q17 = true) (hv : v = nI (if q16 = true then 1 else 2))
    (hQ : ∀ σ' W' ns' w', yZR σ' m ts (ys_end ts (ys_where ts (if (ys_need ts 30 (a, b || !(q16 || q17), o, yt T 3 (if q16 = true then 1 else 2))).2.1 = true then ys_need ts 30 (a, b || !(q16 || q17), o, yt T 3 (if q16 = true then 1 else 2)) else ys_term ts 0 false (ys_need ts 30 (a, b || !(q16 || q17), o, yt T 3 (if q16 = true then 1 else 2)))))) W' ns' w' → ye_f m σ0 σ' → Q none σ') : am_W g l mX10_statement d (am_tp σ0, am_us σ0) Q 158 [some (.ref m), some (.int x)] [.int v, .ref m] σ := by
  have o1 : ¬ (1 : Int32) = 0 := by decide
  have hH := h.1
  have hP := h.2.2.1
  subst hv
  have y22 : (22 : Int32) = nI 22 := rfl
  have y23 : (23 : Int32) = nI 23 := rfl
  have y61 : (61 : Int32) = nI (yw_s 30) := rfl
  have h' := h.reg (k := 26) (v := nI (if q16 = true then 1 else 2)) (by decide)
  have r' : yR (am_wi σ m 26 (nI (if q16 = true then 1 else 2))) m (yt T 3 (if q16 = true then 1 else 2)) := hR.f26
  have g' := f0.wf (k := 26) (v := nI (if q16 = true then 1 else 2)) (by decide) (by decide)
  generalize yt T 3 (if q16 = true then 1 else 2) = T' at *
  refine kX10_statement_158 ?_
  -- bad
  have lbad : ∀ σ1, yZ σ1 m ts a b o W [] ns 0 w → yR σ1 m T' → ye_f m σ0 σ1 → ys_need ts 30 (a, b || !(q16 || q17), o, T') = (a, true, o, T') → am_W g l mX10_statement d (am_tp σ0, am_us σ0) Q 195 [some (.ref m), some (.int x)] [.int 1, .ref m] σ1 := by
    intro σ1 k1 r1 g1 e
    rw [e, if_pos rfl] at hQ
    exact yst_195 (b' := true) hEN hd k1 r1 g1 h11 hts1 (fun q => by cases q) hQ
  have l181 : b = false → (q16 || q17) = true → ∀ σ1, yZ σ1 m ts a b o W [] ns 0 w → yR σ1 m T' → ye_f m σ0 σ1 → am_W g l mX10_statement d (am_tp σ0, am_us σ0) Q 181 [some (.ref m), some (.int x)] [.ref m] σ1 := by
    intro hb hq σ1 k1 r1 g1
    subst hb
    have en : ys_need ts 30 (a, false || !(q16 || q17), o, T') = if xp_hd ts a = 30 then (a + 1, false, o, T') else (a, true, o, T') := by
      rw [hq]
      show ys_need ts 30 (a, false, o, T') = _
      unfold ys_need
      rw [if_neg Bool.false_ne_true]
    refine kX10_statement_181 ?_
    simp (disch := omega) only [ax_const, ax_iload, ax_lload, ax_aload, ax_istore, ax_astore, ax_iinc, ax_i2, ax_i2n, ax_l2, ax_lsh, ax_ii, ax_il, ax_li, ax_pop, ax_dup, ax_dup2, ax_if, ax_cmp, ax_acmp, ax_goto, ax_getI, ax_getR, ax_putI, ax_putR, ax_gets, ax_getsT, ax_aldI, ax_aldR, ax_astI, ax_astR, ax_alen, ax_ret, ax_aret, ax_vret, am_st, am_kl, List.getElem?_cons_zero, List.getElem?_cons_succ, List.set_cons_zero, List.set_cons_succ, Value.category, true_and, and_true, if_true, if_false, reduceCtorEq, Bool.false_eq_true, false_implies, forall_const, Option.some.injEq, exists_eq_left', exists_eq_left, Sum.inl.injEq, Sum.inr.injEq, Prod.mk.injEq, y61]
    refine y_tsg k1 g1.tp g1.us (hI rfl).1 (by decide) (by decide) (by omega) (Nat.le_of_ble_eq_true rfl) (fun c σ2 k2 f2 => ?_) (fun c σ2 k2 f2 => ?_)
    · rw [if_pos c] at en
      have hlt := hEN.lt (a := a) (by rw [c]; decide)
      simp (disch := omega) only [ax_const, ax_iload, ax_lload, ax_aload, ax_istore, ax_astore, ax_iinc, ax_i2, ax_i2n, ax_l2, ax_lsh, ax_ii, ax_il, ax_li, ax_pop, ax_dup, ax_dup2, ax_if, ax_cmp, ax_acmp, ax_goto, ax_getI, ax_getR, ax_putI, ax_putR, ax_gets, ax_getsT, ax_aldI, ax_aldR, ax_astI, ax_astR, ax_alen, ax_ret, ax_aret, ax_vret, am_st, am_kl, List.getElem?_cons_zero, List.getElem?_cons_succ, List.set_cons_zero, List.set_cons_succ, Value.category, true_and, and_true, if_true, if_false, reduceCtorEq, Bool.false_eq_true, false_implies, forall_const, Option.some.injEq, exists_eq_left', exists_eq_left, Sum.inl.injEq, Sum.inr.injEq, Prod.mk.injEq, o1]
      intro _
      rw [en, if_neg Bool.false_ne_true] at hQ
      exact yst_195 (b' := false) hEN hd k2 (r1.f f2) (g1.tr (ye_f.of f2)) h11 hts1 (fun _ => ⟨hlt, Nat.le_succ_of_le (hI rfl).2⟩) hQ
    · rw [if_neg c] at en
      simp (disch := omega) only [ax_const, ax_iload, ax_lload, ax_aload, ax_istore, ax_astore, ax_iinc, ax_i2, ax_i2n, ax_l2, ax_lsh, ax_ii, ax_il, ax_li, ax_pop, ax_dup, ax_dup2, ax_if, ax_cmp, ax_acmp, ax_goto, ax_getI, ax_getR, ax_putI, ax_putR, ax_gets, ax_getsT, ax_aldI, ax_aldR, ax_astI, ax_astR, ax_alen, ax_ret, ax_aret, ax_vret, am_st, am_kl, List.getElem?_cons_zero, List.getElem?_cons_succ, List.set_cons_zero, List.set_cons_succ, Value.category, true_and, and_true, if_true, if_false, reduceCtorEq, Bool.false_eq_true, false_implies, forall_const, Option.some.injEq, exists_eq_left', exists_eq_left, Sum.inl.injEq, Sum.inr.injEq, Prod.mk.injEq]
      exact ⟨lbad σ2 k2 (r1.f f2) (g1.tr (ye_f.of f2)) en, fun z => absurd trivial z⟩
  cases b with
  | true =>
    have e13 : am_i σ m 13 = 1 := hP.2.1
    simp (disch := omega) only [ax_const, ax_iload, ax_lload, ax_aload, ax_istore, ax_astore, ax_iinc, ax_i2, ax_i2n, ax_l2, ax_lsh, ax_ii, ax_il, ax_li, ax_pop, ax_dup, ax_dup2, ax_if, ax_cmp, ax_acmp, ax_goto, ax_getI, ax_getR, ax_putI, ax_putR, ax_gets, ax_getsT, ax_aldI, ax_aldR, ax_astI, ax_astR, ax_alen, ax_ret, ax_aret, ax_vret, am_st, am_kl, List.getElem?_cons_zero, List.getElem?_cons_succ, List.set_cons_zero, List.set_cons_succ, Value.category, true_and, and_true, if_true, if_false, reduceCtorEq, Bool.false_eq_true, false_implies, forall_const, Option.some.injEq, exists_eq_left', exists_eq_left, Sum.inl.injEq, Sum.inr.injEq, Prod.mk.injEq, am_sh_wi, am_r_wi, am_tp_wi, am_us_wi, ym_is, ym_io, ym_ij, hH.1, e13, o1]
    refine fun _ => lbad _ h' r' g' ?_
    rw [Bool.true_or]
    unfold ys_need
    rw [if_pos rfl]
  | false =>
    have e13 : am_i σ m 13 = 0 := hP.2.1
    simp (disch := omega) only [ax_const, ax_iload, ax_lload, ax_aload, ax_istore, ax_astore, ax_iinc, ax_i2, ax_i2n, ax_l2, ax_lsh, ax_ii, ax_il, ax_li, ax_pop, ax_dup, ax_dup2, ax_if, ax_cmp, ax_acmp, ax_goto, ax_getI, ax_getR, ax_putI, ax_putR, ax_gets, ax_getsT, ax_aldI, ax_aldR, ax_astI, ax_astR, ax_alen, ax_ret, ax_aret, ax_vret, am_st, am_kl, List.getElem?_cons_zero, List.getElem?_cons_succ, List.set_cons_zero, List.set_cons_succ, Value.category, true_and, and_true, if_true, if_false, reduceCtorEq, Bool.false_eq_true, false_implies, forall_const, Option.some.injEq, exists_eq_left', exists_eq_left, Sum.inl.injEq, Sum.inr.injEq, Prod.mk.injEq, am_sh_wi, am_r_wi, am_tp_wi, am_us_wi, ym_is, ym_io, ym_ij, hH.1, e13, y22, y23]
    refine ⟨⟨fun c => l181 rfl (by rw [e16.mp c]; rfl) _ h' r' g', fun c => ⟨fun c2 => l181 rfl (by rw [e17.mp c2, Bool.or_true]) _ h' r' g', fun c2 => lbad _ h' r' g' ?_⟩⟩, fun z => absurd trivial z⟩
    have n16 : q16 = false := by
      cases e : q16 with
      | true => exact absurd (e16.mpr e) c
      | false => rfl
    have n17 : q17 = false := by
      cases e : q17 with
      | true => exact absurd (e17.mpr e) c2
      | false => rfl
    rw [n16, n17]
    unfold ys_need
    rw [if_pos (show (a, false || !(false || false), o, T').2.1 = true from rfl)]
    rfl
theorem yst_21 {g : am_G} {l : Launch} {σ : am_S} {m : Nat} {v : Int32} {ts : List (Nat × Int32)} {T : Nat → Nat} {W : List Nat} {ns : Int32} {w : Bool} {Q : Option Value → am_S → Prop} (hEN : xp_EN ts) (h : yZ σ m ts 0 false [] W [] ns 0 w) (hR : yR σ m T) (hT0 : T 0 = 0) (hT4 : T 4 = 0) (h11 : am_i σ m 11 = nI (ts.length - 1)) (hts1 : 1 ≤ ts.length) (hv : ∀ s, s < 4 → (v = yw_c (xt_w s) ↔ xp_hd ts 0 = s))
    (hQ : ∀ σ' W' ns' w', yZR σ' m ts (ys_stm ts T) W' ns' w' → ye_f m (am_wi σ m 24 v) σ' → Q none σ') : am_W g l mX10_statement 9 (am_tp σ, am_us σ) Q 21 [some (.ref m), none] [.int v, .ref m] σ := by
  have o1 : ¬ (1 : Int32) = 0 := by decide
  have e0 : ∀ S, ys_stm ts T = ys_end ts S ↔ ys_end ts (ys_body ts (1, false, [], T)) = ys_end ts S := fun S => Iff.rfl
  have k1 := h.reg (k := 24) (v := v) (by decide)
  have r1 : yR (am_wi σ m 24 v) m T := ⟨by rw [ym_ij (by decide)]; exact hR.1, fun i hi => by rw [ym_io (by omega)]; exact hR.2.1 i hi, by rw [ym_ij (by decide)]; exact hR.2.2.1, by rw [ym_ij (by decide)]; exact hR.2.2.2.1, fun i hi => by rw [ym_io (by omega), ym_io (by omega), ym_io (by omega)]; exact hR.2.2.2.2.1 i hi, by rw [ym_ij (by decide), ym_ij (by decide), ym_ij (by decide), ym_ij (by decide), ym_ij (by decide), ym_ij (by decide), ym_ij (by decide), ym_ij (by decide)]; exact hR.2.2.2.2.2⟩
  have h11' : am_i (am_wi σ m 24 v) m 11 = nI (ts.length - 1) := by rw [ym_ij (by decide)]; exact h11
  have e24 : am_i (am_wi σ m 24 v) m 24 = v := ym_is
  refine kX10_statement_21 ?_
  simp (disch := omega) only [ax_const, ax_iload, ax_lload, ax_aload, ax_istore, ax_astore, ax_iinc, ax_i2, ax_i2n, ax_l2, ax_lsh, ax_ii, ax_il, ax_li, ax_pop, ax_dup, ax_dup2, ax_if, ax_cmp, ax_acmp, ax_goto, ax_getI, ax_getR, ax_putI, ax_putR, ax_gets, ax_getsT, ax_aldI, ax_aldR, ax_astI, ax_astR, ax_alen, ax_ret, ax_aret, ax_vret, am_st, am_kl, List.getElem?_cons_zero, List.getElem?_cons_succ, List.set_cons_zero, List.set_cons_succ, Value.category, true_and, and_true, if_true, if_false, reduceCtorEq, Bool.false_eq_true, false_implies, forall_const, Option.some.injEq, exists_eq_left', exists_eq_left, Sum.inl.injEq, Sum.inr.injEq, Prod.mk.injEq, h.1.1]
  have tp0 : am_tp σ = am_tp (am_wi σ m 24 v) := rfl
  have us0 : am_us σ = am_us (am_wi σ m 24 v) := rfl
  rw [tp0, us0]
  generalize am_wi σ m 24 v = σ0 at *
  clear hR h h11
  have hf1 : yb_f m σ0 (am_wi σ0 m 12 1) := yb_f.rf.wf (by decide) (by decide)
  have k2 : yZ (am_wi σ0 m 12 1) m ts 1 false [] W [] ns 0 w := k1.up hf1 (k1.2.2.1.at 1) k1.2.2.2.1 k1.2.2.2.2
  have r2 := r1.f hf1
  have f2 := ye_f.of hf1
  have e24' : am_i (am_wi σ0 m 12 1) m 24 = v := by rw [ym_ij (by decide)]; exact e24
  simp (disch := omega) only [ax_const, ax_iload, ax_lload, ax_aload, ax_istore, ax_astore, ax_iinc, ax_i2, ax_i2n, ax_l2, ax_lsh, ax_ii, ax_il, ax_li, ax_pop, ax_dup, ax_dup2, ax_if, ax_cmp, ax_acmp, ax_goto, ax_getI, ax_getR, ax_putI, ax_putR, ax_gets, ax_getsT, ax_aldI, ax_aldR, ax_astI, ax_astR, ax_alen, ax_ret, ax_aret, ax_vret, am_st, am_kl, List.getElem?_cons_zero, List.getElem?_cons_succ, List.set_cons_zero, List.set_cons_succ, Value.category, true_and, and_true, if_true, if_false, reduceCtorEq, Bool.false_eq_true, false_implies, forall_const, Option.some.injEq, exists_eq_left', exists_eq_left, Sum.inl.injEq, Sum.inr.injEq, Prod.mk.injEq, k1.1.1, k2.1.1, e24']
  generalize am_wi σ0 m 12 1 = σ1 at *
  have I1 : xp_hd ts 0 < 36 → yI ts (1, false, [], T) := fun q _ => ⟨by have := hEN.lt (a := 0) (by omega); exact this, Nat.le_refl _⟩
  unfold ys_stm ys_body at hQ
  refine am_callK [.int 105, .int 110, .int 115, .int 101, .int 114, .int 116] [.int v] (d' := 0) (lim' := (am_tp σ1, am_us σ1)) rfl (by decide) (Nat.le_of_eq f2.tp) (Nat.le_of_eq f2.us) rfl (Nat.le_of_ble_eq_true rfl) am_stat ?_
  refine c_yword (fun _ _ => ?_)
  rw [yw_insert]
  simp (disch := omega) only [ax_const, ax_iload, ax_lload, ax_aload, ax_istore, ax_astore, ax_iinc, ax_i2, ax_i2n, ax_l2, ax_lsh, ax_ii, ax_il, ax_li, ax_pop, ax_dup, ax_dup2, ax_if, ax_cmp, ax_acmp, ax_goto, ax_getI, ax_getR, ax_putI, ax_putR, ax_gets, ax_getsT, ax_aldI, ax_aldR, ax_astI, ax_astR, ax_alen, ax_ret, ax_aret, ax_vret, am_st, am_kl, List.getElem?_cons_zero, List.getElem?_cons_succ, List.set_cons_zero, List.set_cons_succ, Value.category, true_and, and_true, if_true, if_false, reduceCtorEq, Bool.false_eq_true, false_implies, forall_const, Option.some.injEq, exists_eq_left', exists_eq_left, Sum.inl.injEq, Sum.inr.injEq, Prod.mk.injEq, Option.toList_some, Option.toList_none, List.cons_append, List.nil_append, List.append_nil, hv 0 (by decide), k2.1.1, e24']
  refine ⟨fun c => ?_, fun c => ?_⟩
  · have I1 := I1 (by omega)
    rw [if_pos c] at hQ
    refine am_callK [.ref m] [] (d' := 1) (lim' := (am_tp σ1, am_us σ1)) rfl (by omega) (Nat.le_of_eq f2.tp) (Nat.le_of_eq f2.us) rfl (Nat.le_of_ble_eq_true rfl) (am_recv k2.1.1) ?_
    refine c_yname (S := (1, false, [], T)) ⟨k2, r2⟩ (I1 rfl).1 (by show T 0 < 2; omega) (fun σ3 k3 f3 t3 u3 => ?_)
    simp (disch := omega) only [ax_const, ax_iload, ax_lload, ax_aload, ax_istore, ax_astore, ax_iinc, ax_i2, ax_i2n, ax_l2, ax_lsh, ax_ii, ax_il, ax_li, ax_pop, ax_dup, ax_dup2, ax_if, ax_cmp, ax_acmp, ax_goto, ax_getI, ax_getR, ax_putI, ax_putR, ax_gets, ax_getsT, ax_aldI, ax_aldR, ax_astI, ax_astR, ax_alen, ax_ret, ax_aret, ax_vret, am_st, am_kl, List.getElem?_cons_zero, List.getElem?_cons_succ, List.set_cons_zero, List.set_cons_succ, Value.category, true_and, and_true, if_true, if_false, reduceCtorEq, Bool.false_eq_true, false_implies, forall_const, Option.some.injEq, exists_eq_left', exists_eq_left, Sum.inl.injEq, Sum.inr.injEq, Prod.mk.injEq, Option.toList_some, Option.toList_none, List.cons_append, List.nil_append, List.append_nil]
    exact yst_57 hEN (by decide) h11' hts1 3 0 (ys_name ts (1, false, [], T)) σ3 _ _ _ rfl k3 (f2.tr f3) (I1.name hEN) hQ
  rw [if_neg c] at hQ
  refine am_callK [.int 117, .int 112, .int 100, .int 97, .int 116, .int 101] [.int v] (d' := 0) (lim' := (am_tp σ1, am_us σ1)) rfl (by decide) (Nat.le_of_eq f2.tp) (Nat.le_of_eq f2.us) rfl (Nat.le_of_ble_eq_true rfl) am_stat ?_
  refine c_yword (fun _ _ => ?_)
  rw [yw_update]
  simp (disch := omega) only [ax_const, ax_iload, ax_lload, ax_aload, ax_istore, ax_astore, ax_iinc, ax_i2, ax_i2n, ax_l2, ax_lsh, ax_ii, ax_il, ax_li, ax_pop, ax_dup, ax_dup2, ax_if, ax_cmp, ax_acmp, ax_goto, ax_getI, ax_getR, ax_putI, ax_putR, ax_gets, ax_getsT, ax_aldI, ax_aldR, ax_astI, ax_astR, ax_alen, ax_ret, ax_aret, ax_vret, am_st, am_kl, List.getElem?_cons_zero, List.getElem?_cons_succ, List.set_cons_zero, List.set_cons_succ, Value.category, true_and, and_true, if_true, if_false, reduceCtorEq, Bool.false_eq_true, false_implies, forall_const, Option.some.injEq, exists_eq_left', exists_eq_left, Sum.inl.injEq, Sum.inr.injEq, Prod.mk.injEq, Option.toList_some, Option.toList_none, List.cons_append, List.nil_append, List.append_nil, hv 1 (by decide), k2.1.1, e24']
  refine ⟨fun c => ?_, fun c => ?_⟩
  · have I1 := I1 (by omega)
    rw [if_pos c] at hQ
    refine am_callK [.ref m] [] (d' := 1) (lim' := (am_tp σ1, am_us σ1)) rfl (by omega) (Nat.le_of_eq f2.tp) (Nat.le_of_eq f2.us) rfl (Nat.le_of_ble_eq_true rfl) (am_recv k2.1.1) ?_
    refine c_yname (S := (1, false, [], T)) ⟨k2, r2⟩ (I1 rfl).1 (by show T 0 < 2; omega) (fun σ3 k3 f3 t3 u3 => ?_)
    have I3 := I1.name hEN
    have J3 := ys_name_lt (S := (1, false, [], T)) hEN (I1 rfl).1
    unfold ys_upd at hQ
    generalize ys_name ts (1, false, [], T) = S3 at *
    obtain ⟨a3, b3, o3, T3⟩ := S3
    obtain ⟨k3, r3⟩ := k3
    have k3 : yZ σ3 m ts a3 b3 o3 W [] ns 0 w := k3
    have r3 : yR σ3 m T3 := r3
    have J3 : a3 < ts.length := J3
    have g3 := f2.tr f3
    have hok := k3.2.1.2 a3 J3
    unfold ys_up1 at hQ
    dsimp only at hQ
    have y22 : (22 : Int32) = nI 22 := rfl
    have w16 : yw_c (xt_w 16) = nI 22 := by decide +kernel
    have w17 : yw_c (xt_w 17) = nI 23 := by decide +kernel
    -- after take
    have go : ∀ (σ4 : am_S) (a4 : Nat) (b4 : Bool) (x : Int32), yZ σ4 m ts a4 b4 o3 W [] ns 0 w → yR σ4 m T3 → ye_f m σ0 σ4 → yI ts (a4, b4, o3, T3) → a4 = (if yp_isW (xp_hd ts a3) = true then a3 + 1 else a3) → (b4 || !(decide (xp_hd ts a3 = 16) || decide (xp_hd ts a3 = 17))) = (b3 || !(decide (xp_hd ts a3 = 16) || decide (xp_hd ts a3 = 17))) → (x = nI 22 ↔ xp_hd ts a3 = 16) → (x = nI 23 ↔ xp_hd ts a3 = 17) →
        ∀ v, v = nI (if decide (xp_hd ts a3 = 16) = true then 1 else 2) → am_W g l mX10_statement 9 (am_tp σ0, am_us σ0) Q 158 [some (.ref m), some (.int x)] [.int v, .ref m] σ4 := by
      intro σ4 a4 b4 x k4 r4 g4 I4 ea eb e16 e17 v ev
      rw [← ea, ← eb] at hQ
      refine yst_158 (q16 := decide (xp_hd ts a3 = 16)) (q17 := decide (xp_hd ts a3 = 17)) hEN (by decide) k4 r4 g4 h11' hts1 I4 (e16.trans decide_eq_true_iff.symm) (e17.trans decide_eq_true_iff.symm) ev ?_
      simp only [decide_eq_true_eq]
      exact hQ
    have y1 : (1 : Int32) = nI 1 := rfl
    have y2 : (2 : Int32) = nI 2 := rfl
    simp (disch := omega) only [ax_const, ax_iload, ax_lload, ax_aload, ax_istore, ax_astore, ax_iinc, ax_i2, ax_i2n, ax_l2, ax_lsh, ax_ii, ax_il, ax_li, ax_pop, ax_dup, ax_dup2, ax_if, ax_cmp, ax_acmp, ax_goto, ax_getI, ax_getR, ax_putI, ax_putR, ax_gets, ax_getsT, ax_aldI, ax_aldR, ax_astI, ax_astR, ax_alen, ax_ret, ax_aret, ax_vret, am_st, am_kl, List.getElem?_cons_zero, List.getElem?_cons_succ, List.set_cons_zero, List.set_cons_succ, Value.category, true_and, and_true, if_true, if_false, reduceCtorEq, Bool.false_eq_true, false_implies, forall_const, Option.some.injEq, exists_eq_left', exists_eq_left, Sum.inl.injEq, Sum.inr.injEq, Prod.mk.injEq, Option.toList_some, Option.toList_none, List.cons_append, List.nil_append, List.append_nil]
    refine am_callK [.ref m, .int 1] [] (d' := 0) (lim' := (am_tp σ3, am_us σ3)) rfl (by omega) (Nat.le_of_eq g3.tp) (Nat.le_of_eq g3.us) rfl (Nat.le_of_ble_eq_true rfl) (am_recv k3.1.1) ?_
    refine c_ytake k3 J3 (fun hk σ4 k4 f4 t4 u4 => ?_) (fun hk σ4 k4 f4 t4 u4 => ?_)
    · have hw := hok.isW.mp hk
      have hx16 := hok.word (s := 16) (by decide)
      have hx17 := hok.word (s := 17) (by decide)
      rw [w16] at hx16
      rw [w17] at hx17
      have lt : a3 + 1 < ts.length := hEN.lt (a := a3) (fun e => by rw [e] at hw; cases hw)
      have go := go σ4 (a3 + 1) b3 (am_i σ3 (m + 11) a3) k4 (r3.f f4) (g3.tr (ye_f.of f4)) (fun q => ⟨lt, Nat.le_succ_of_le (I3 q).2⟩) (by rw [if_pos hw]) rfl ⟨fun q => hx16.mp ⟨hk, q⟩, fun q => (hx16.mpr q).2⟩ ⟨fun q => hx17.mp ⟨hk, q⟩, fun q => (hx17.mpr q).2⟩
      simp (disch := omega) only [ax_const, ax_iload, ax_lload, ax_aload, ax_istore, ax_astore, ax_iinc, ax_i2, ax_i2n, ax_l2, ax_lsh, ax_ii, ax_il, ax_li, ax_pop, ax_dup, ax_dup2, ax_if, ax_cmp, ax_acmp, ax_goto, ax_getI, ax_getR, ax_putI, ax_putR, ax_gets, ax_getsT, ax_aldI, ax_aldR, ax_astI, ax_astR, ax_alen, ax_ret, ax_aret, ax_vret, am_st, am_kl, List.getElem?_cons_zero, List.getElem?_cons_succ, List.set_cons_zero, List.set_cons_succ, Value.category, true_and, and_true, if_true, if_false, reduceCtorEq, Bool.false_eq_true, false_implies, forall_const, Option.some.injEq, exists_eq_left', exists_eq_left, Sum.inl.injEq, Sum.inr.injEq, Prod.mk.injEq, Option.toList_some, Option.toList_none, List.cons_append, List.nil_append, List.append_nil]
      refine ⟨fun c => go 1 ?_, fun c => go 2 ?_⟩
      · rw [if_pos (decide_eq_true (hx16.mp ⟨hk, c⟩))]; rfl
      · rw [if_neg (fun q => c (hx16.mpr (of_decide_eq_true q)).2)]; rfl
    · have hw : ¬ yp_isW (xp_hd ts a3) = true := fun q => hk (hok.isW.mpr q)
      have n16 : ¬ xp_hd ts a3 = 16 := fun q => by rw [q] at hw; exact hw rfl
      have n17 : ¬ xp_hd ts a3 = 17 := fun q => by rw [q] at hw; exact hw rfl
      have go := go σ4 a3 true 0 k4 (r3.f f4) (g3.tr (ye_f.of f4)) (fun q => by cases q) (by rw [if_neg hw]) (by rw [decide_eq_false n16, decide_eq_false n17, Bool.true_or]; simp) ⟨fun q => absurd q (by decide), fun q => absurd q n16⟩ ⟨fun q => absurd q (by decide), fun q => absurd q n17⟩
      simp (disch := omega) only [ax_const, ax_iload, ax_lload, ax_aload, ax_istore, ax_astore, ax_iinc, ax_i2, ax_i2n, ax_l2, ax_lsh, ax_ii, ax_il, ax_li, ax_pop, ax_dup, ax_dup2, ax_if, ax_cmp, ax_acmp, ax_goto, ax_getI, ax_getR, ax_putI, ax_putR, ax_gets, ax_getsT, ax_aldI, ax_aldR, ax_astI, ax_astR, ax_alen, ax_ret, ax_aret, ax_vret, am_st, am_kl, List.getElem?_cons_zero, List.getElem?_cons_succ, List.set_cons_zero, List.set_cons_succ, Value.category, true_and, and_true, if_true, if_false, reduceCtorEq, Bool.false_eq_true, false_implies, forall_const, Option.some.injEq, exists_eq_left', exists_eq_left, Sum.inl.injEq, Sum.inr.injEq, Prod.mk.injEq, Option.toList_some, Option.toList_none, List.cons_append, List.nil_append, List.append_nil]
      refine ⟨fun c => absurd c (by decide), fun c => go 2 ?_⟩
      rw [decide_eq_false n16]; rfl
  rw [if_neg c] at hQ
  refine am_callK [.int 100, .int 101, .int 108, .int 101, .int 116, .int 101] [.int v] (d' := 0) (lim' := (am_tp σ1, am_us σ1)) rfl (by decide) (Nat.le_of_eq f2.tp) (Nat.le_of_eq f2.us) rfl (Nat.le_of_ble_eq_true rfl) am_stat ?_
  refine c_yword (fun _ _ => ?_)
  rw [yw_delete]
  simp (disch := omega) only [ax_const, ax_iload, ax_lload, ax_aload, ax_istore, ax_astore, ax_iinc, ax_i2, ax_i2n, ax_l2, ax_lsh, ax_ii, ax_il, ax_li, ax_pop, ax_dup, ax_dup2, ax_if, ax_cmp, ax_acmp, ax_goto, ax_getI, ax_getR, ax_putI, ax_putR, ax_gets, ax_getsT, ax_aldI, ax_aldR, ax_astI, ax_astR, ax_alen, ax_ret, ax_aret, ax_vret, am_st, am_kl, List.getElem?_cons_zero, List.getElem?_cons_succ, List.set_cons_zero, List.set_cons_succ, Value.category, true_and, and_true, if_true, if_false, reduceCtorEq, Bool.false_eq_true, false_implies, forall_const, Option.some.injEq, exists_eq_left', exists_eq_left, Sum.inl.injEq, Sum.inr.injEq, Prod.mk.injEq, Option.toList_some, Option.toList_none, List.cons_append, List.nil_append, List.append_nil, hv 2 (by decide), k2.1.1, e24']
  refine ⟨fun c => ?_, fun c => ?_⟩
  · have I1 := I1 (by omega)
    rw [if_pos c] at hQ
    refine am_callK [.ref m] [] (d' := 1) (lim' := (am_tp σ1, am_us σ1)) rfl (by omega) (Nat.le_of_eq f2.tp) (Nat.le_of_eq f2.us) rfl (Nat.le_of_ble_eq_true rfl) (am_recv k2.1.1) ?_
    refine c_yname (S := (1, false, [], T)) ⟨k2, r2⟩ (I1 rfl).1 (by show T 0 < 2; omega) (fun σ3 k3 f3 t3 u3 => ?_)
    have g3 := f2.tr f3
    simp (disch := omega) only [ax_const, ax_iload, ax_lload, ax_aload, ax_istore, ax_astore, ax_iinc, ax_i2, ax_i2n, ax_l2, ax_lsh, ax_ii, ax_il, ax_li, ax_pop, ax_dup, ax_dup2, ax_if, ax_cmp, ax_acmp, ax_goto, ax_getI, ax_getR, ax_putI, ax_putR, ax_gets, ax_getsT, ax_aldI, ax_aldR, ax_astI, ax_astR, ax_alen, ax_ret, ax_aret, ax_vret, am_st, am_kl, List.getElem?_cons_zero, List.getElem?_cons_succ, List.set_cons_zero, List.set_cons_succ, Value.category, true_and, and_true, if_true, if_false, reduceCtorEq, Bool.false_eq_true, false_implies, forall_const, Option.some.injEq, exists_eq_left', exists_eq_left, Sum.inl.injEq, Sum.inr.injEq, Prod.mk.injEq, Option.toList_some, Option.toList_none, List.cons_append, List.nil_append, List.append_nil]
    refine am_callK [.ref m] [] (d' := 7) (lim' := (am_tp σ3, am_us σ3)) rfl (by omega) (Nat.le_of_eq g3.tp) (Nat.le_of_eq g3.us) rfl (Nat.le_of_ble_eq_true rfl) (am_recv k3.1.1.1) ?_
    have I3 := I1.name hEN
    refine c_ypw hEN k3 (fun q => (I3 q).1) (fun q => (I3 q).2) (fun σ4 W4 ns4 w4 k4 f4 t4 u4 => ?_)
    simp (disch := omega) only [ax_const, ax_iload, ax_lload, ax_aload, ax_istore, ax_astore, ax_iinc, ax_i2, ax_i2n, ax_l2, ax_lsh, ax_ii, ax_il, ax_li, ax_pop, ax_dup, ax_dup2, ax_if, ax_cmp, ax_acmp, ax_goto, ax_getI, ax_getR, ax_putI, ax_putR, ax_gets, ax_getsT, ax_aldI, ax_aldR, ax_astI, ax_astR, ax_alen, ax_ret, ax_aret, ax_vret, am_st, am_kl, List.getElem?_cons_zero, List.getElem?_cons_succ, List.set_cons_zero, List.set_cons_succ, Value.category, true_and, and_true, if_true, if_false, reduceCtorEq, Bool.false_eq_true, false_implies, forall_const, Option.some.injEq, exists_eq_left', exists_eq_left, Sum.inl.injEq, Sum.inr.injEq, Prod.mk.injEq, Option.toList_some, Option.toList_none, List.cons_append, List.nil_append, List.append_nil]
    exact yst_285 k4 (g3.tr f4) h11' hts1 (I3.wh hEN) hQ
  rw [if_neg c] at hQ
  refine am_callK [.int 115, .int 101, .int 108, .int 101, .int 99, .int 116] [.int v] (d' := 0) (lim' := (am_tp σ1, am_us σ1)) rfl (by decide) (Nat.le_of_eq f2.tp) (Nat.le_of_eq f2.us) rfl (Nat.le_of_ble_eq_true rfl) am_stat ?_
  refine c_yword (fun _ _ => ?_)
  rw [yw_select]
  simp (disch := omega) only [ax_const, ax_iload, ax_lload, ax_aload, ax_istore, ax_astore, ax_iinc, ax_i2, ax_i2n, ax_l2, ax_lsh, ax_ii, ax_il, ax_li, ax_pop, ax_dup, ax_dup2, ax_if, ax_cmp, ax_acmp, ax_goto, ax_getI, ax_getR, ax_putI, ax_putR, ax_gets, ax_getsT, ax_aldI, ax_aldR, ax_astI, ax_astR, ax_alen, ax_ret, ax_aret, ax_vret, am_st, am_kl, List.getElem?_cons_zero, List.getElem?_cons_succ, List.set_cons_zero, List.set_cons_succ, Value.category, true_and, and_true, if_true, if_false, reduceCtorEq, Bool.false_eq_true, false_implies, forall_const, Option.some.injEq, exists_eq_left', exists_eq_left, Sum.inl.injEq, Sum.inr.injEq, Prod.mk.injEq, Option.toList_some, Option.toList_none, List.cons_append, List.nil_append, List.append_nil, hv 3 (by decide), k2.1.1, e24']
  refine ⟨fun c => ?_, fun c => ?_⟩
  · have I1 := I1 (by omega)
    rw [if_pos c] at hQ
    refine am_callK [.ref m] [] (d' := 8) (lim' := (am_tp σ1, am_us σ1)) rfl (by omega) (Nat.le_of_eq f2.tp) (Nat.le_of_eq f2.us) rfl (Nat.le_of_ble_eq_true rfl) (am_recv k2.1.1) ?_
    refine c_ysel (S := (1, false, [], T)) hEN ⟨k2, r2⟩ rfl I1 hT0 hT4 (fun σ3 W3 ns3 w3 k3 f3 t3 u3 => ?_)
    simp (disch := omega) only [ax_const, ax_iload, ax_lload, ax_aload, ax_istore, ax_astore, ax_iinc, ax_i2, ax_i2n, ax_l2, ax_lsh, ax_ii, ax_il, ax_li, ax_pop, ax_dup, ax_dup2, ax_if, ax_cmp, ax_acmp, ax_goto, ax_getI, ax_getR, ax_putI, ax_putR, ax_gets, ax_getsT, ax_aldI, ax_aldR, ax_astI, ax_astR, ax_alen, ax_ret, ax_aret, ax_vret, am_st, am_kl, List.getElem?_cons_zero, List.getElem?_cons_succ, List.set_cons_zero, List.set_cons_succ, Value.category, true_and, and_true, if_true, if_false, reduceCtorEq, Bool.false_eq_true, false_implies, forall_const, Option.some.injEq, exists_eq_left', exists_eq_left, Sum.inl.injEq, Sum.inr.injEq, Prod.mk.injEq, Option.toList_some, Option.toList_none, List.cons_append, List.nil_append, List.append_nil]
    exact yst_285 k3 (f2.tr f3) h11' hts1 (I1.sel hEN) hQ
  rw [if_neg c] at hQ
  have hf3 : yb_f m σ1 (am_wi σ1 m 13 1) := yb_f.rf.wf (by decide) (by decide)
  exact ⟨Or.inr trivial, yst_285 (S := (1, true, [], T)) ⟨k2.up hf3 (k2.2.2.1.bd true) k2.2.2.2.1 k2.2.2.2.2, r2.f hf3⟩ (f2.tr (ye_f.of hf3)) h11' hts1 (fun q => by cases q) hQ⟩
theorem c_ystm {g : am_G} {l : Launch} {σ : am_S} {m : Nat} {ts : List (Nat × Int32)} {T : Nat → Nat} {W : List Nat} {ns : Int32} {w : Bool} {Q : Option Value → am_S → Prop} (hEN : xp_EN ts) (h : yZ σ m ts 0 false [] W [] ns 0 w) (hR : yR σ m T) (hT0 : T 0 = 0) (hT4 : T 4 = 0) (h11 : am_i σ m 11 = nI (ts.length - 1)) (hts1 : 1 ≤ ts.length)
    (hQ : ∀ v, (∀ s, s < 4 → (v = yw_c (xt_w s) ↔ xp_hd ts 0 = s)) → ∀ σ' W' ns' w', yZR σ' m ts (ys_stm ts T) W' ns' w' → ye_f m (am_wi σ m 24 v) σ' → Q none σ') : am_C g l mX10_statement 9 (am_tp σ, am_us σ) [.ref m] σ Q := by
  have hok := h.2.1.2 0 hts1
  have n0 : ∀ s, s < 4 → ¬ (0 : Int32) = yw_c (xt_w s) := by decide +kernel
  refine am_C.go [some (.ref m), none] (by decide +kernel) (Nat.le_of_ble_eq_true rfl) rfl (kX10_statement_0 ?_)
  have hH := h.1
  simp (disch := omega) only [ax_const, ax_iload, ax_lload, ax_aload, ax_istore, ax_astore, ax_iinc, ax_i2, ax_i2n, ax_l2, ax_lsh, ax_ii, ax_il, ax_li, ax_pop, ax_dup, ax_dup2, ax_if, ax_cmp, ax_acmp, ax_goto, ax_getI, ax_getR, ax_putI, ax_putR, ax_gets, ax_getsT, ax_aldI, ax_aldR, ax_astI, ax_astR, ax_alen, ax_ret, ax_aret, ax_vret, am_st, am_kl, List.getElem?_cons_zero, List.getElem?_cons_succ, List.set_cons_zero, List.set_cons_succ, Value.category, true_and, and_true, if_true, if_false, reduceCtorEq, Bool.false_eq_true, false_implies, forall_const, Option.some.injEq, exists_eq_left', exists_eq_left, Sum.inl.injEq, Sum.inr.injEq, Prod.mk.injEq, nI_toInt, nI_clamp, am_ix_nI, am_ix_0, am_ix_1, am_ix_2, am_ix_3, am_n0, am_n1, am_n2, am_n3, am_n4, am_t0, am_t1, am_t2, am_t3, am_t4, am_tm1, am_nS, am_nP, am_nM, Int.ofNat_lt, Int.ofNat_le, hH.1, hH.r9, hH.s9, hH.r10, hH.s10]
  refine ⟨by decide, fun c => ⟨by decide, ?_⟩, fun c => ?_⟩
  · exact yst_21 hEN h hR hT0 hT4 h11 hts1 (fun s hs => ⟨fun e => (hok.word (by omega)).mp ⟨c, e⟩, fun e => ((hok.word (by omega)).mpr e).2⟩) (hQ _ (fun s hs => ⟨fun e => (hok.word (by omega)).mp ⟨c, e⟩, fun e => ((hok.word (by omega)).mpr e).2⟩))
  · exact yst_21 hEN h hR hT0 hT4 h11 hts1 (fun s hs => ⟨fun e => absurd e (n0 s hs), fun e => absurd ((hok.word (by omega)).mpr e).1 c⟩) (hQ _ (fun s hs => ⟨fun e => absurd e (n0 s hs), fun e => absurd ((hok.word (by omega)).mpr e).1 c⟩))
