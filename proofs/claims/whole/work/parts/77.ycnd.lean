/-! the reference's parser: nots, single, connect, condition -/
theorem ynots0 {g : am_G} {l : Launch} {m a d tp us : Nat} {ts : List (Nat × Int32)} {b : Bool} {W : List Nat} {ns : Int32} {w : Bool} {Q : Option Value → am_S → Prop} (hd : 2 ≤ d) : ∀ (H : List Nat) (σ : am_S) (ou : Int32) (o : yp_O), yZ σ m ts a b o W H ns ou w → o.length + H.length ≤ 99 → H.length ≤ 82 → am_tp σ = tp → am_us σ = us →
    (∀ σ', yZ σ' m ts a b (yc_nt H ou o).1 W (yc_nt H ou o).2.1 ns (yc_nt H ou o).2.2 w → yb_f m σ σ' → Q none σ') → am_W g l mX10_nots d (tp, us) Q 0 [some (.ref m)] [] σ := by
  intro H
  induction H with
  | nil =>
    intro σ ou o h hl hl2 h1 h2 hQ
    have hH := h.1
    have e20 : am_i σ m 20 = 0 := h.2.2.1.2.2.2.2.1.1
    refine kX10_nots_0 ?_
    simp (disch := omega) only [ax_const, ax_iload, ax_lload, ax_aload, ax_istore, ax_astore, ax_iinc, ax_i2, ax_i2n, ax_l2, ax_lsh, ax_ii, ax_il, ax_li, ax_pop, ax_dup, ax_dup2, ax_if, ax_cmp, ax_acmp, ax_goto, ax_getI, ax_getR, ax_putI, ax_putR, ax_gets, ax_getsT, ax_aldI, ax_aldR, ax_astI, ax_astR, ax_alen, ax_ret, ax_aret, ax_vret, am_st, am_kl, List.getElem?_cons_zero, List.getElem?_cons_succ, List.set_cons_zero, List.set_cons_succ, Value.category, true_and, and_true, if_true, if_false, reduceCtorEq, Bool.false_eq_true, false_implies, forall_const, Option.some.injEq, exists_eq_left', exists_eq_left, Sum.inl.injEq, Sum.inr.injEq, Prod.mk.injEq, hH.1, e20]
    exact ⟨fun z => absurd z (by decide), fun _ => ⟨h1, h2, hQ σ h .rf⟩⟩
  | cons x H ih =>
    intro σ ou o h hl hl2 h1 h2 hQ
    obtain ⟨hH, hT, hP, hW, hHH⟩ := id h
    have hx := hHH x List.mem_cons_self
    rw [List.length_cons] at hl hl2
    have e20 : am_i σ m 20 = nI (H.length + 1) := hP.2.2.2.2.1.1
    have ev : am_i σ (m + 15) H.length = nI x := hP.hpop.2
    rw [yc_nt] at hQ
    refine kX10_nots_0 ?_
    simp (disch := omega) only [ax_const, ax_iload, ax_lload, ax_aload, ax_istore, ax_astore, ax_iinc, ax_i2, ax_i2n, ax_l2, ax_lsh, ax_ii, ax_il, ax_li, ax_pop, ax_dup, ax_dup2, ax_if, ax_cmp, ax_acmp, ax_goto, ax_getI, ax_getR, ax_putI, ax_putR, ax_gets, ax_getsT, ax_aldI, ax_aldR, ax_astI, ax_astR, ax_alen, ax_ret, ax_aret, ax_vret, am_st, am_kl, List.getElem?_cons_zero, List.getElem?_cons_succ, List.set_cons_zero, List.set_cons_succ, Value.category, true_and, and_true, if_true, if_false, reduceCtorEq, Bool.false_eq_true, false_implies, forall_const, Option.some.injEq, exists_eq_left', exists_eq_left, Sum.inl.injEq, Sum.inr.injEq, Prod.mk.injEq, nI_toInt, nI_clamp, am_ix_nI, am_ix_0, am_ix_1, am_ix_2, am_ix_3, am_n0, am_n1, am_n2, am_n3, am_n4, am_t0, am_t1, am_t2, am_t3, am_t4, am_tm1, am_nS, am_nP, am_nM, Int.ofNat_lt, Int.ofNat_le, hH.1, hH.r17, hH.s17, e20, yl_t0, yl_m1, Nat.add_sub_cancel, ev, yl_10, yl_eq]
    refine ⟨fun _ => ⟨by omega, fun c => ?_, fun c => ⟨h1, h2, ?_⟩⟩, fun z => by omega⟩
    · rw [if_pos c] at hQ
      refine am_callK [.ref m] [] (d' := 1) (lim' := (am_tp σ, am_us σ)) rfl (by omega) (by rw [h1]; exact Nat.le_refl _) (by rw [h2]; exact Nat.le_refl _) rfl (by decide) (am_recv hH.1) ?_
      refine c_yunhold h (by omega) (by omega) (fun σ1 k1 f1 t1 u1 => ?_)
      have hH1 := k1.1
      have e22 : am_i σ1 m 22 = ou := k1.2.2.1.2.2.2.2.2.2.1
      simp (disch := omega) only [ax_const, ax_iload, ax_lload, ax_aload, ax_istore, ax_astore, ax_iinc, ax_i2, ax_i2n, ax_l2, ax_lsh, ax_ii, ax_il, ax_li, ax_pop, ax_dup, ax_dup2, ax_if, ax_cmp, ax_acmp, ax_goto, ax_getI, ax_getR, ax_putI, ax_putR, ax_gets, ax_getsT, ax_aldI, ax_aldR, ax_astI, ax_astR, ax_alen, ax_ret, ax_aret, ax_vret, am_st, am_kl, List.getElem?_cons_zero, List.getElem?_cons_succ, List.set_cons_zero, List.set_cons_succ, Value.category, true_and, and_true, if_true, if_false, reduceCtorEq, Bool.false_eq_true, false_implies, forall_const, Option.some.injEq, exists_eq_left', exists_eq_left, Sum.inl.injEq, Sum.inr.injEq, Prod.mk.injEq, Option.toList_some, Option.toList_none, List.cons_append, List.nil_append, List.append_nil, am_sh_wi, am_r_wi, am_tp_wi, am_us_wi, ym_is, ym_io, ym_ij, hH1.1, e22]
      have hf2 : yb_f m σ1 (am_wi σ1 m 22 (ou - 1)) := yb_f.rf.wf (by decide) (by decide)
      rw [c] at k1
      exact ih _ (ou - 1) (o ++ [(10, 0)]) (k1.up hf2 (k1.2.2.1.ouw _) k1.2.2.2.1 k1.2.2.2.2) (by rw [List.length_append]; simp; omega) (by omega) (hf2.tp.trans (t1.trans h1)) (hf2.us.trans (u1.trans h2)) (fun σ3 k3 f3 => hQ σ3 k3 ((f1.tr hf2).tr f3))
    · rw [if_neg c] at hQ
      exact hQ σ h .rf
theorem c_ynots {g : am_G} {l : Launch} {σ : am_S} {m a : Nat} {ts : List (Nat × Int32)} {b : Bool} {o : yp_O} {W H : List Nat} {ns ou : Int32} {w : Bool} {Q : Option Value → am_S → Prop} (h : yZ σ m ts a b o W H ns ou w) (hl : o.length + H.length ≤ 99) (hl2 : H.length ≤ 82)
    (hQ : ∀ σ', yZ σ' m ts a b (yc_nt H ou o).1 W (yc_nt H ou o).2.1 ns (yc_nt H ou o).2.2 w → yb_f m σ σ' → Q none σ') : am_C g l mX10_nots 2 (am_tp σ, am_us σ) [.ref m] σ Q :=
  am_C.go [some (.ref m)] (by decide +kernel) (Nat.le_of_ble_eq_true rfl) rfl (ynots0 (Nat.le_refl _) H σ ou o h hl hl2 rfl rfl hQ)
theorem yp_go_I {ts : List (Nat × Int32)} {ou : Int32} {h : Nat} (hEN : xp_EN ts) : ∀ n S, yp_I ts S h → yp_I ts (yp_go ts ou n S) h
  | 0, S, hI => hI
  | n + 1, S, hI => by
    rw [yp_go]
    cases hb : S.2.1 with
    | true => rw [if_pos rfl]; exact hI
    | false =>
      rw [if_neg (by decide)]
      split
      · exact yp_go_I hEN n _ (yp_rand_I hEN hI hb)
      · split
        · exact yp_go_I hEN n _ (yp_rtor_I hEN hI)
        · exact hI
theorem yp_ex_I {ts : List (Nat × Int32)} {ou : Int32} {a h : Nat} {o : yp_O} (hEN : xp_EN ts) (ha : a < ts.length) (hI : o.length + h + 1 ≤ a) : (yp_ex ts ou a o).1 < ts.length ∧ (yp_ex ts ou a o).2.2.length + h + 1 ≤ (yp_ex ts ou a o).1 + (if (yp_ex ts ou a o).2.1 = true then 1 else 0) := by
  have := yp_go_I (ou := ou) (h := h) hEN (yp_mu ts (a, false, o, [], 0, true) + 1) (a, false, o, [], 0, true) ⟨ha, by show o.length + 0 + h + 1 ≤ a + 0; omega⟩
  obtain ⟨h1, h2⟩ := this
  refine ⟨h1, ?_⟩
  unfold yp_ex yp_fin yp_R
  dsimp only
  rw [List.length_append, List.length_map]
  have : (if (yp_go ts ou (yp_mu ts (a, false, o, [], 0, true) + 1) (a, false, o, [], 0, true)).2.1 = true then 1 else 0) ≤ (if ((yp_go ts ou (yp_mu ts (a, false, o, [], 0, true) + 1) (a, false, o, [], 0, true)).2.1 || decide (13 ∈ (yp_go ts ou (yp_mu ts (a, false, o, [], 0, true) + 1) (a, false, o, [], 0, true)).2.2.2.1)) = true then 1 else 0) := by
    cases (yp_go ts ou (yp_mu ts (a, false, o, [], 0, true) + 1) (a, false, o, [], 0, true)).2.1 with
    | true => simp
    | false => simp
  omega
def yc_I (ts : List (Nat × Int32)) (S : yc_S) : Prop := (S.2.1 = false → S.1 < ts.length) ∧ S.1 ≤ ts.length ∧ S.2.2.1.length + S.2.2.2.2.1.length + 1 ≤ S.1 + (if S.2.1 = true then 1 else 0)
theorem yc_nt_len : ∀ (W : List Nat) (n : Int32) (o : yp_O), (yc_nt W n o).1.length + (yc_nt W n o).2.1.length = o.length + W.length
  | [], n, o => rfl
  | w :: W, n, o => by
    rw [yc_nt]
    split
    · rw [yc_nt_len W _ _, List.length_append]
      simp only [List.length_cons, List.length_nil]
      omega
    · rfl
theorem yc_nts_I {ts : List (Nat × Int32)} {S : yc_S} (hI : yc_I ts S) : yc_I ts (yc_nts S) := by
  have := yc_nt_len S.2.2.2.2.1 S.2.2.2.1 S.2.2.1
  obtain ⟨h1, h2, h3⟩ := hI
  exact ⟨h1, h2, by show (yc_nt S.2.2.2.2.1 S.2.2.2.1 S.2.2.1).1.length + (yc_nt S.2.2.2.2.1 S.2.2.2.1 S.2.2.1).2.1.length + 1 ≤ S.1 + (if S.2.1 = true then 1 else 0); omega⟩
/-- behind both expressions of a comparison -/
theorem yc_e2_I {ts : List (Nat × Int32)} {ou : Int32} {a h : Nat} {o : yp_O} (hEN : xp_EN ts) (ha : a < ts.length) (hI : o.length + h + 1 ≤ a) : ((yc_e2 ts ou (yp_ex ts ou a o)).2.1 = false → (yc_e2 ts ou (yp_ex ts ou a o)).1 < ts.length) ∧ (yc_e2 ts ou (yp_ex ts ou a o)).1 ≤ ts.length ∧ (yc_e2 ts ou (yp_ex ts ou a o)).2.2.length + 1 + h + 1 ≤ (yc_e2 ts ou (yp_ex ts ou a o)).1 + (if (yc_e2 ts ou (yp_ex ts ou a o)).2.1 = true then 1 else 0) := by
  obtain ⟨e1, e2⟩ := yp_ex_I (ou := ou) hEN ha hI
  have hge := yp_ex_ge ts ou a o
  generalize yp_ex ts ou a o = E at *
  unfold yc_e2
  cases hb : (E.2.1 || decide (yc_wh (xp_hd ts E.1) = 0)) with
  | true =>
    rw [if_pos rfl]
    have : (if E.2.1 = true then 1 else 0) ≤ 1 := by split <;> omega
    exact ⟨(fun q => by cases q), e1, by show E.2.2.length + 1 + h + 1 ≤ E.1 + 1 + 1; omega⟩
  | false =>
    rw [if_neg (by decide)]
    rw [Bool.or_eq_false_iff] at hb
    rw [hb.1, if_neg (by decide)] at e2
    have hlt := hEN.lt (a := E.1) (fun e => by
      have := hb.2
      rw [e] at this
      cases this)
    obtain ⟨f1, f2⟩ := yp_ex_I (ou := ou) (a := E.1 + 1) (o := E.2.2) (h := h + 1) hEN hlt (by omega)
    exact ⟨fun _ => f1, Nat.le_of_lt f1, by omega⟩
theorem yc_single_I {ts : List (Nat × Int32)} {S : yc_S} (hEN : xp_EN ts) (hI : yc_I ts S) (hb : S.2.1 = false) : yc_I ts (yc_single ts S) := by
  obtain ⟨h1, h2, h3⟩ := hI
  have h1 := h1 hb
  rw [hb, if_neg (by decide)] at h3
  unfold yc_single
  split
  · rename_i q
    have hlt := hEN.lt (a := S.1) (by omega)
    refine ⟨fun _ => hlt, Nat.le_of_lt hlt, ?_⟩
    show S.2.2.1.length + (_ :: S.2.2.2.2.1).length + 1 ≤ S.1 + 1 + _
    rw [List.length_cons]
    omega
  · obtain ⟨e1, e2, e3⟩ := yc_e2_I (ou := S.2.2.2.1) (h := S.2.2.2.2.1.length) hEN h1 (by omega)
    refine yc_nts_I ⟨e1, e2, ?_⟩
    dsimp only
    rw [List.length_append]
    simp only [List.length_cons, List.length_nil]
    omega
theorem yc_cp_len (and : Bool) : ∀ (W : List Nat) (o : yp_O), (yc_cp and W o).1.length + (yc_cp and W o).2.length = o.length + W.length
  | [], o => rfl
  | w :: W, o => by
    rw [yc_cp]
    split
    · rw [yc_cp_len and W _, List.length_append]
      simp only [List.length_cons, List.length_nil]
      omega
    · rfl
theorem yc_conn_I {ts : List (Nat × Int32)} {S : yc_S} (hEN : xp_EN ts) (hI : yc_I ts S) (hb : S.2.1 = false) : yc_I ts (yc_conn ts S) := by
  obtain ⟨h1, h2, h3⟩ := id hI
  have h1 := h1 hb
  rw [hb, if_neg (by decide)] at h3
  unfold yc_conn
  split
  · rename_i q
    have hlt := hEN.lt (a := S.1) (by omega)
    have := yc_cp_len (decide (xp_hd ts S.1 = 12)) S.2.2.2.2.1 S.2.2.1
    refine ⟨fun _ => hlt, Nat.le_of_lt hlt, ?_⟩
    dsimp only
    rw [List.length_cons]
    omega
  · split
    · rename_i q
      have hlt := hEN.lt (a := S.1) (by rw [q.2]; decide)
      have := yp_po_len S.2.2.2.2.1 S.2.2.1
      refine yc_nts_I ⟨fun _ => hlt, Nat.le_of_lt hlt, ?_⟩
      dsimp only
      omega
    · exact hI
def yZC (σ : am_S) (m : Nat) (ts : List (Nat × Int32)) (S : yc_S) (W : List Nat) (ns : Int32) (w : Bool) : Prop := yZ σ m ts S.1 S.2.1 S.2.2.1 W S.2.2.2.2.1 ns S.2.2.2.1 w
theorem ysi_170 {g : am_G} {l : Launch} {σ : am_S} {m a d x : Nat} {ts : List (Nat × Int32)} {b : Bool} {o : yp_O} {W H : List Nat} {ns ou : Int32} {w : Bool} {z : Value} {Q : Option Value → am_S → Prop} (hd : 3 ≤ d) (h : yZ σ m ts a b o W H ns ou w) (hl : o.length + 1 + H.length ≤ 99) (hl2 : H.length ≤ 82) (hx : x ≠ 2 ∧ x < 100)
    (hQ : ∀ σ', yZ σ' m ts a b (yc_nt H ou (o ++ [(x, 0)])).1 W (yc_nt H ou (o ++ [(x, 0)])).2.1 ns (yc_nt H ou (o ++ [(x, 0)])).2.2 w → yb_f m σ σ' → Q (some (.int 1)) σ') : am_W g l mX10_single d (am_tp σ, am_us σ) Q 170 [some (.ref m), some z, some (.int (nI x))] [] σ := by
  refine kX10_single_170 ?_
  simp (disch := omega) only [ax_const, ax_iload, ax_lload, ax_aload, ax_istore, ax_astore, ax_iinc, ax_i2, ax_i2n, ax_l2, ax_lsh, ax_ii, ax_il, ax_li, ax_pop, ax_dup, ax_dup2, ax_if, ax_cmp, ax_acmp, ax_goto, ax_getI, ax_getR, ax_putI, ax_putR, ax_gets, ax_getsT, ax_aldI, ax_aldR, ax_astI, ax_astR, ax_alen, ax_ret, ax_aret, ax_vret, am_st, am_kl, List.getElem?_cons_zero, List.getElem?_cons_succ, List.set_cons_zero, List.set_cons_succ, Value.category, true_and, and_true, if_true, if_false, reduceCtorEq, Bool.false_eq_true, false_implies, forall_const, Option.some.injEq, exists_eq_left', exists_eq_left, Sum.inl.injEq, Sum.inr.injEq, Prod.mk.injEq]
  refine am_callK [.ref m, .int (nI x), .int (yκ (x, 0))] [] (d' := 0) (lim' := (am_tp σ, am_us σ)) (by rw [yκ_op hx.1]; rfl) (by omega) (Nat.le_refl _) (Nat.le_refl _) rfl (Nat.le_of_ble_eq_true rfl) (am_recv h.1.1) ?_
  refine c_yemit (q := (x, 0)) h (by omega) hx.2 (fun σ1 k1 f1 t1 u1 => ?_)
  simp (disch := omega) only [ax_const, ax_iload, ax_lload, ax_aload, ax_istore, ax_astore, ax_iinc, ax_i2, ax_i2n, ax_l2, ax_lsh, ax_ii, ax_il, ax_li, ax_pop, ax_dup, ax_dup2, ax_if, ax_cmp, ax_acmp, ax_goto, ax_getI, ax_getR, ax_putI, ax_putR, ax_gets, ax_getsT, ax_aldI, ax_aldR, ax_astI, ax_astR, ax_alen, ax_ret, ax_aret, ax_vret, am_st, am_kl, List.getElem?_cons_zero, List.getElem?_cons_succ, List.set_cons_zero, List.set_cons_succ, Value.category, true_and, and_true, if_true, if_false, reduceCtorEq, Bool.false_eq_true, false_implies, forall_const, Option.some.injEq, exists_eq_left', exists_eq_left, Sum.inl.injEq, Sum.inr.injEq, Prod.mk.injEq, Option.toList_some, Option.toList_none, List.cons_append, List.nil_append, List.append_nil]
  refine am_callK [.ref m] [] (d' := 2) (lim' := (am_tp σ1, am_us σ1)) rfl (by omega) (by rw [t1]; exact Nat.le_refl _) (by rw [u1]; exact Nat.le_refl _) rfl (by decide) (am_recv k1.1.1) ?_
  refine c_ynots k1 (by rw [List.length_append]; simp; omega) hl2 (fun σ2 k2 f2 t2 u2 => ?_)
  simp (disch := omega) only [ax_const, ax_iload, ax_lload, ax_aload, ax_istore, ax_astore, ax_iinc, ax_i2, ax_i2n, ax_l2, ax_lsh, ax_ii, ax_il, ax_li, ax_pop, ax_dup, ax_dup2, ax_if, ax_cmp, ax_acmp, ax_goto, ax_getI, ax_getR, ax_putI, ax_putR, ax_gets, ax_getsT, ax_aldI, ax_aldR, ax_astI, ax_astR, ax_alen, ax_ret, ax_aret, ax_vret, am_st, am_kl, List.getElem?_cons_zero, List.getElem?_cons_succ, List.set_cons_zero, List.set_cons_succ, Value.category, true_and, and_true, if_true, if_false, reduceCtorEq, Bool.false_eq_true, false_implies, forall_const, Option.some.injEq, exists_eq_left', exists_eq_left, Sum.inl.injEq, Sum.inr.injEq, Prod.mk.injEq, Option.toList_some, Option.toList_none, List.cons_append, List.nil_append, List.append_nil]
  exact ⟨Or.inr trivial, t2.trans t1, u2.trans u1, hQ σ2 k2 (f1.tr f2)⟩
theorem yc_wh_ne (h : Nat) : yc_wh h ≠ 2 ∧ yc_wh h < 100 := by
  unfold yc_wh
  split
  · omega
  · split
    · omega
    · split <;> omega
theorem ysi_128 {g : am_G} {l : Launch} {σ : am_S} {m a d h0 : Nat} {ts : List (Nat × Int32)} {b : Bool} {o : yp_O} {W H : List Nat} {ns ou : Int32} {w : Bool} {z : Int32} {Q : Option Value → am_S → Prop} (hEN : xp_EN ts) (hd : 5 ≤ d) (h : yZ σ m ts a b o W H ns ou w) (ha : a < ts.length) (hl : o.length + H.length + 1 ≤ a + (if b = true then 1 else 0)) (hl2 : H.length ≤ 82) (hh : h0 = xp_hd ts a)
    (hQ : ∀ σ' W' ns' w', yZ σ' m ts (yc_e2 ts ou (a, b, o)).1 (yc_e2 ts ou (a, b, o)).2.1 (yc_nt H ou ((yc_e2 ts ou (a, b, o)).2.2 ++ [(yc_wh h0, 0)])).1 W' (yc_nt H ou ((yc_e2 ts ou (a, b, o)).2.2 ++ [(yc_wh h0, 0)])).2.1 ns' (yc_nt H ou ((yc_e2 ts ou (a, b, o)).2.2 ++ [(yc_wh h0, 0)])).2.2 w' → yb_f m σ σ' → Q (some (.int 1)) σ') :
    am_W g l mX10_single d (am_tp σ, am_us σ) Q 128 [some (.ref m), some (.int z), none] [.int (nI (yc_wh h0))] σ := by
  obtain ⟨hH, hT, hP, hW, hHH⟩ := id h
  obtain ⟨hx2, hx100⟩ := yc_wh_ne h0
  have hts := hT.1
  have l146 : ∀ b', b' = (b || decide (yc_wh h0 = 0)) → am_W g l mX10_single d (am_tp σ, am_us σ) Q 146 [some (.ref m), some (.int z), some (.int (nI (yc_wh h0)))] [.int (yb b'), .ref m] σ := by
    intro b' hb'
    have hb01 : yb b' = 0 ∨ yb b' = 1 := by cases b' <;> decide
    have hf : yb_f m σ (am_wi (am_wi σ m 13 (yb b')) m 12 (nI (a + 1))) := (yb_f.rf.wf (by decide) (by decide)).wf (by decide) (by decide)
    have h' : yZ (am_wi (am_wi σ m 13 (yb b')) m 12 (nI (a + 1))) m ts (a + 1) b' o W H ns ou w := h.up hf ((hP.bd b').at (a + 1)) hW hHH
    have e12 : am_i σ m 12 = nI a := hP.1
    have t1 := hf.tp
    have u1 := hf.us
    refine kX10_single_146 ?_
    simp (disch := omega) only [ax_const, ax_iload, ax_lload, ax_aload, ax_istore, ax_astore, ax_iinc, ax_i2, ax_i2n, ax_l2, ax_lsh, ax_ii, ax_il, ax_li, ax_pop, ax_dup, ax_dup2, ax_if, ax_cmp, ax_acmp, ax_goto, ax_getI, ax_getR, ax_putI, ax_putR, ax_gets, ax_getsT, ax_aldI, ax_aldR, ax_astI, ax_astR, ax_alen, ax_ret, ax_aret, ax_vret, am_st, am_kl, List.getElem?_cons_zero, List.getElem?_cons_succ, List.set_cons_zero, List.set_cons_succ, Value.category, true_and, and_true, if_true, if_false, reduceCtorEq, Bool.false_eq_true, false_implies, forall_const, Option.some.injEq, exists_eq_left', exists_eq_left, Sum.inl.injEq, Sum.inr.injEq, Prod.mk.injEq, nI_toInt, nI_clamp, am_ix_nI, am_ix_0, am_ix_1, am_ix_2, am_ix_3, am_n0, am_n1, am_n2, am_n3, am_n4, am_t0, am_t1, am_t2, am_t3, am_t4, am_tm1, am_nS, am_nP, am_nM, Int.ofNat_lt, Int.ofNat_le, am_sh_wi, am_r_wi, am_tp_wi, am_us_wi, ym_is, ym_io, ym_ij, hH.1, e12]
    refine ⟨hb01, ?_⟩
    generalize am_wi (am_wi σ m 13 (yb b')) m 12 (nI (a + 1)) = σ1 at *
    have e2 : yc_e2 ts ou (a, b, o) = if b' = true then (a + 1, true, o) else yp_ex ts ou (a + 1) o := by
      unfold yc_e2
      dsimp only
      rw [← hh, ← hb']
    rw [e2] at hQ
    cases hbb : b' with
    | true =>
      rw [hbb, if_pos rfl] at hQ
      have e13 : yb true = 1 := rfl
      have o1 : ¬ (1 : Int32) = 0 := by decide
      rw [e13]
      refine ⟨fun z => absurd z o1, fun _ => ?_⟩
      rw [hbb] at h'
      have hif : (if b = true then 1 else 0) ≤ 1 := by split <;> omega
      have := ysi_170 (g := g) (l := l) (d := d) (z := .int z) (Q := Q) (by omega) h' (by omega) hl2 ⟨hx2, hx100⟩ (fun σ' k f => hQ σ' W ns w k (hf.tr f))
      rw [t1, u1] at this
      exact this
    | false =>
      rw [hbb, if_neg (by decide)] at hQ
      have hbf : b = false ∧ decide (yc_wh h0 = 0) = false := by
        rw [hbb] at hb'
        exact Bool.or_eq_false_iff.mp hb'.symm
      rw [hbf.1, if_neg (by decide)] at hl
      have hlt := hEN.lt (a := a) (fun e => by
        have := hbf.2
        rw [hh, e] at this
        cases this)
      have e13 : yb false = 0 := rfl
      rw [e13]
      refine ⟨fun _ => ?_, fun z => absurd rfl z⟩
      rw [hbb] at h'
      refine am_callK [.ref m] [] (d' := 4) (lim' := (am_tp σ1, am_us σ1)) rfl (by omega) (by rw [t1]; exact Nat.le_refl _) (by rw [u1]; exact Nat.le_refl _) rfl (by decide) (am_recv h'.1.1) ?_
      obtain ⟨f1, f2⟩ := yp_ex_I (ou := ou) (a := a + 1) (o := o) (h := H.length + 1) hEN hlt (by omega)
      have hif : (if (yp_ex ts ou (a + 1) o).2.1 = true then 1 else 0) ≤ 1 := by split <;> omega
      refine c_yexpr hEN h' hlt (by omega) (fun σ2 ns2 w2 k2 f2' t2 u2 => ?_)
      simp (disch := omega) only [ax_const, ax_iload, ax_lload, ax_aload, ax_istore, ax_astore, ax_iinc, ax_i2, ax_i2n, ax_l2, ax_lsh, ax_ii, ax_il, ax_li, ax_pop, ax_dup, ax_dup2, ax_if, ax_cmp, ax_acmp, ax_goto, ax_getI, ax_getR, ax_putI, ax_putR, ax_gets, ax_getsT, ax_aldI, ax_aldR, ax_astI, ax_astR, ax_alen, ax_ret, ax_aret, ax_vret, am_st, am_kl, List.getElem?_cons_zero, List.getElem?_cons_succ, List.set_cons_zero, List.set_cons_succ, Value.category, true_and, and_true, if_true, if_false, reduceCtorEq, Bool.false_eq_true, false_implies, forall_const, Option.some.injEq, exists_eq_left', exists_eq_left, Sum.inl.injEq, Sum.inr.injEq, Prod.mk.injEq, Option.toList_some, Option.toList_none, List.cons_append, List.nil_append, List.append_nil]
      have := ysi_170 (g := g) (l := l) (d := d) (z := .int z) (Q := Q) (by omega) k2 (by omega) hl2 ⟨hx2, hx100⟩ (fun σ' k f => hQ σ' [] ns2 w2 k ((hf.tr f2').tr f))
      rw [t2, u2, t1, u1] at this
      exact this
  refine kX10_single_128 ?_
  cases b with
  | true =>
    have e13 : am_i σ m 13 = 1 := hP.2.1
    have o1 : ¬ (1 : Int32) = 0 := by decide
    simp (disch := omega) only [ax_const, ax_iload, ax_lload, ax_aload, ax_istore, ax_astore, ax_iinc, ax_i2, ax_i2n, ax_l2, ax_lsh, ax_ii, ax_il, ax_li, ax_pop, ax_dup, ax_dup2, ax_if, ax_cmp, ax_acmp, ax_goto, ax_getI, ax_getR, ax_putI, ax_putR, ax_gets, ax_getsT, ax_aldI, ax_aldR, ax_astI, ax_astR, ax_alen, ax_ret, ax_aret, ax_vret, am_st, am_kl, List.getElem?_cons_zero, List.getElem?_cons_succ, List.set_cons_zero, List.set_cons_succ, Value.category, true_and, and_true, if_true, if_false, reduceCtorEq, Bool.false_eq_true, false_implies, forall_const, Option.some.injEq, exists_eq_left', exists_eq_left, Sum.inl.injEq, Sum.inr.injEq, Prod.mk.injEq, hH.1, e13, o1]
    exact fun _ => l146 true (by rw [Bool.true_or])
  | false =>
    have e13 : am_i σ m 13 = 0 := hP.2.1
    simp (disch := omega) only [ax_const, ax_iload, ax_lload, ax_aload, ax_istore, ax_astore, ax_iinc, ax_i2, ax_i2n, ax_l2, ax_lsh, ax_ii, ax_il, ax_li, ax_pop, ax_dup, ax_dup2, ax_if, ax_cmp, ax_acmp, ax_goto, ax_getI, ax_getR, ax_putI, ax_putR, ax_gets, ax_getsT, ax_aldI, ax_aldR, ax_astI, ax_astR, ax_alen, ax_ret, ax_aret, ax_vret, am_st, am_kl, List.getElem?_cons_zero, List.getElem?_cons_succ, List.set_cons_zero, List.set_cons_succ, Value.category, true_and, and_true, if_true, if_false, reduceCtorEq, Bool.false_eq_true, false_implies, forall_const, Option.some.injEq, exists_eq_left', exists_eq_left, Sum.inl.injEq, Sum.inr.injEq, Prod.mk.injEq, hH.1, e13]
    refine ⟨⟨fun c => l146 true ?_, fun c => l146 false ?_⟩, fun z => absurd trivial z⟩
    · rw [decide_eq_true ((nI_inj (b := 0) (by omega) (by omega)).mp c)]; rfl
    · rw [decide_eq_false (fun e => c (by rw [e]; rfl))]; rfl
theorem ysi_30 {g : am_G} {l : Launch} {σ : am_S} {m a d : Nat} {ts : List (Nat × Int32)} {o : yp_O} {W H : List Nat} {ns ou : Int32} {w n : Bool} {Q : Option Value → am_S → Prop} (hd : 1 ≤ d) (h : yZ σ m ts a false o W H ns ou w) (hl2 : H.length < 82)
    (hQ : ∀ σ', yZ σ' m ts a (decide (5 < ou.toInt)) o W ((if n = true then 10 else 13) :: H) ns (ou + 1) w → yb_f m σ σ' → Q (some (.int 0)) σ') :
    am_W g l mX10_single d (am_tp σ, am_us σ) Q 30 [some (.ref m), some (.int (yb n)), none] [] σ := by
  obtain ⟨hH, hT, hP, hW, hHH⟩ := id h
  have e13 : am_i σ m 13 = 0 := hP.2.1
  have e22 : am_i σ m 22 = ou := hP.2.2.2.2.2.2.1
  have e5 : Int32.toInt 5 = 5 := rfl
  have l51 : ∀ b', b' = decide (5 < ou.toInt) → am_W g l mX10_single d (am_tp σ, am_us σ) Q 51 [some (.ref m), some (.int (yb n)), none] [.int (yb b'), .ref m] σ := by
    intro b' hb'
    rw [← hb'] at hQ
    have hb01 : yb b' = 0 ∨ yb b' = 1 := by cases b' <;> decide
    have hf : yb_f m σ (am_wi σ m 13 (yb b')) := yb_f.rf.wf (by decide) (by decide)
    have h' : yZ (am_wi σ m 13 (yb b')) m ts a b' o W H ns ou w := h.up hf (hP.bd b') hW hHH
    have t1 := hf.tp
    have u1 := hf.us
    have l66 : ∀ x, x = (if n = true then 10 else 13) → am_W g l mX10_single d (am_tp σ, am_us σ) Q 66 [some (.ref m), some (.int (yb n)), none] [.int (nI x), .ref m] (am_wi σ m 13 (yb b')) := by
      intro x hx
      rw [← hx] at hQ
      have hx13 : 3 ≤ x ∧ x ≤ 13 := by rw [hx]; split <;> omega
      refine kX10_single_66 ?_
      generalize am_wi σ m 13 (yb b') = σ1 at *
      refine am_callK [.ref m, .int (nI x)] [] (d' := 0) (lim' := (am_tp σ1, am_us σ1)) rfl (by omega) (by rw [t1]; exact Nat.le_refl _) (by rw [u1]; exact Nat.le_refl _) rfl (by decide) (am_recv h'.1.1) ?_
      refine c_ykeep h' hl2 hx13 (fun σ2 k2 f2 t2 u2 => ?_)
      have e22' : am_i σ2 m 22 = ou := k2.2.2.1.2.2.2.2.2.2.1
      simp (disch := omega) only [ax_const, ax_iload, ax_lload, ax_aload, ax_istore, ax_astore, ax_iinc, ax_i2, ax_i2n, ax_l2, ax_lsh, ax_ii, ax_il, ax_li, ax_pop, ax_dup, ax_dup2, ax_if, ax_cmp, ax_acmp, ax_goto, ax_getI, ax_getR, ax_putI, ax_putR, ax_gets, ax_getsT, ax_aldI, ax_aldR, ax_astI, ax_astR, ax_alen, ax_ret, ax_aret, ax_vret, am_st, am_kl, List.getElem?_cons_zero, List.getElem?_cons_succ, List.set_cons_zero, List.set_cons_succ, Value.category, true_and, and_true, if_true, if_false, reduceCtorEq, Bool.false_eq_true, false_implies, forall_const, Option.some.injEq, exists_eq_left', exists_eq_left, Sum.inl.injEq, Sum.inr.injEq, Prod.mk.injEq, Option.toList_some, Option.toList_none, List.cons_append, List.nil_append, List.append_nil, am_sh_wi, am_r_wi, am_tp_wi, am_us_wi, ym_is, ym_io, ym_ij, k2.1.1, e22']
      have hf3 : yb_f m σ2 (am_wi σ2 m 22 (ou + 1)) := yb_f.rf.wf (by decide) (by decide)
      exact ⟨Or.inl trivial, t2.trans t1, u2.trans u1, hQ _ (k2.up hf3 (k2.2.2.1.ouw _) k2.2.2.2.1 k2.2.2.2.2) ((hf.tr f2).tr hf3)⟩
    refine kX10_single_51 ?_
    cases n with
    | true =>
      have e1 : yb true = 1 := rfl
      have o1 : ¬ (1 : Int32) = 0 := by decide
      rw [e1] at l66 ⊢
      simp (disch := omega) only [ax_const, ax_iload, ax_lload, ax_aload, ax_istore, ax_astore, ax_iinc, ax_i2, ax_i2n, ax_l2, ax_lsh, ax_ii, ax_il, ax_li, ax_pop, ax_dup, ax_dup2, ax_if, ax_cmp, ax_acmp, ax_goto, ax_getI, ax_getR, ax_putI, ax_putR, ax_gets, ax_getsT, ax_aldI, ax_aldR, ax_astI, ax_astR, ax_alen, ax_ret, ax_aret, ax_vret, am_st, am_kl, List.getElem?_cons_zero, List.getElem?_cons_succ, List.set_cons_zero, List.set_cons_succ, Value.category, true_and, and_true, if_true, if_false, reduceCtorEq, Bool.false_eq_true, false_implies, forall_const, Option.some.injEq, exists_eq_left', exists_eq_left, Sum.inl.injEq, Sum.inr.injEq, Prod.mk.injEq, hH.1, o1]
      exact ⟨hb01, fun _ => l66 10 rfl⟩
    | false =>
      have e1 : yb false = 0 := rfl
      rw [e1] at l66 ⊢
      simp (disch := omega) only [ax_const, ax_iload, ax_lload, ax_aload, ax_istore, ax_astore, ax_iinc, ax_i2, ax_i2n, ax_l2, ax_lsh, ax_ii, ax_il, ax_li, ax_pop, ax_dup, ax_dup2, ax_if, ax_cmp, ax_acmp, ax_goto, ax_getI, ax_getR, ax_putI, ax_putR, ax_gets, ax_getsT, ax_aldI, ax_aldR, ax_astI, ax_astR, ax_alen, ax_ret, ax_aret, ax_vret, am_st, am_kl, List.getElem?_cons_zero, List.getElem?_cons_succ, List.set_cons_zero, List.set_cons_succ, Value.category, true_and, and_true, if_true, if_false, reduceCtorEq, Bool.false_eq_true, false_implies, forall_const, Option.some.injEq, exists_eq_left', exists_eq_left, Sum.inl.injEq, Sum.inr.injEq, Prod.mk.injEq, hH.1]
      exact ⟨hb01, l66 13 rfl, fun z => absurd trivial z⟩
  refine kX10_single_30 ?_
  simp (disch := omega) only [ax_const, ax_iload, ax_lload, ax_aload, ax_istore, ax_astore, ax_iinc, ax_i2, ax_i2n, ax_l2, ax_lsh, ax_ii, ax_il, ax_li, ax_pop, ax_dup, ax_dup2, ax_if, ax_cmp, ax_acmp, ax_goto, ax_getI, ax_getR, ax_putI, ax_putR, ax_gets, ax_getsT, ax_aldI, ax_aldR, ax_astI, ax_astR, ax_alen, ax_ret, ax_aret, ax_vret, am_st, am_kl, List.getElem?_cons_zero, List.getElem?_cons_succ, List.set_cons_zero, List.set_cons_succ, Value.category, true_and, and_true, if_true, if_false, reduceCtorEq, Bool.false_eq_true, false_implies, forall_const, Option.some.injEq, exists_eq_left', exists_eq_left, Sum.inl.injEq, Sum.inr.injEq, Prod.mk.injEq, hH.1, e13, e22, e5]
  exact ⟨⟨fun c => l51 true (by rw [decide_eq_true c]), fun c => l51 false (by rw [decide_eq_false c])⟩, fun z => absurd trivial z⟩
theorem c_ysingle {g : am_G} {l : Launch} {σ : am_S} {m : Nat} {ts : List (Nat × Int32)} {S : yc_S} {W : List Nat} {ns : Int32} {w : Bool} {Q : Option Value → am_S → Prop} (hEN : xp_EN ts) (h : yZC σ m ts S W ns w) (hI : yc_I ts S) (hb : S.2.1 = false)
    (hQ : ∀ σ' W' ns' w', yZC σ' m ts (yc_single ts S) W' ns' w' → yb_f m σ σ' → Q (some (.int (yb (decide ((yc_single ts S).2.2.2.2.2 = 1))))) σ') : am_C g l mX10_single 5 (am_tp σ, am_us σ) [.ref m] σ Q := by
  obtain ⟨a, b, o, ou, H, st⟩ := S
  have hb : b = false := hb
  subst hb
  have h : yZ σ m ts a false o W H ns ou w := h
  obtain ⟨hI1, hI2, hI3⟩ := hI
  have ha : a < ts.length := hI1 rfl
  have hI3 : o.length + H.length + 1 ≤ a + (if false = true then 1 else 0) := hI3
  rw [if_neg (by decide)] at hI3
  obtain ⟨hH, hT, hP, hW, hHH⟩ := id h
  have hts := hT.1
  have o1 : ¬ (1 : Int32) = 0 := by decide
  unfold yc_single at hQ
  dsimp only at hQ
  have ew : yw_f 110 111 116 0 0 0 = yw_c (xt_w 14) := by decide +kernel
  refine am_C.go [some (.ref m), none, none] (by decide +kernel) (Nat.le_of_ble_eq_true rfl) rfl (kX10_single_0 ?_)
  simp (disch := omega) only [ax_const, ax_iload, ax_lload, ax_aload, ax_istore, ax_astore, ax_iinc, ax_i2, ax_i2n, ax_l2, ax_lsh, ax_ii, ax_il, ax_li, ax_pop, ax_dup, ax_dup2, ax_if, ax_cmp, ax_acmp, ax_goto, ax_getI, ax_getR, ax_putI, ax_putR, ax_gets, ax_getsT, ax_aldI, ax_aldR, ax_astI, ax_astR, ax_alen, ax_ret, ax_aret, ax_vret, am_st, am_kl, List.getElem?_cons_zero, List.getElem?_cons_succ, List.set_cons_zero, List.set_cons_succ, Value.category, true_and, and_true, if_true, if_false, reduceCtorEq, Bool.false_eq_true, false_implies, forall_const, Option.some.injEq, exists_eq_left', exists_eq_left, Sum.inl.injEq, Sum.inr.injEq, Prod.mk.injEq]
  refine am_callK [.int 110, .int 111, .int 116, .int 0, .int 0, .int 0] [.ref m] (d' := 0) (lim' := (am_tp σ, am_us σ)) rfl (by decide) (Nat.le_refl _) (Nat.le_refl _) rfl (Nat.le_of_ble_eq_true rfl) am_stat ?_
  refine c_yword (fun _ _ => ?_)
  rw [ew]
  simp (disch := omega) only [Option.toList_some, Option.toList_none, List.cons_append, List.nil_append, List.append_nil]
  refine am_callK [.ref m, .int (yw_c (xt_w 14))] [] (d' := 0) (lim' := (am_tp σ, am_us σ)) rfl (by decide) (Nat.le_refl _) (Nat.le_refl _) rfl (Nat.le_of_ble_eq_true rfl) (am_recv hH.1) ?_
  refine c_ytword h ha (by decide) (fun c σ1 k1 f1 t1 u1 => ?_) (fun c σ1 k1 f1 t1 u1 => ?_)
  · rw [if_pos (Or.inl c), if_pos c] at hQ
    simp (disch := omega) only [ax_const, ax_iload, ax_lload, ax_aload, ax_istore, ax_astore, ax_iinc, ax_i2, ax_i2n, ax_l2, ax_lsh, ax_ii, ax_il, ax_li, ax_pop, ax_dup, ax_dup2, ax_if, ax_cmp, ax_acmp, ax_goto, ax_getI, ax_getR, ax_putI, ax_putR, ax_gets, ax_getsT, ax_aldI, ax_aldR, ax_astI, ax_astR, ax_alen, ax_ret, ax_aret, ax_vret, am_st, am_kl, List.getElem?_cons_zero, List.getElem?_cons_succ, List.set_cons_zero, List.set_cons_succ, Value.category, true_and, and_true, if_true, if_false, reduceCtorEq, Bool.false_eq_true, false_implies, forall_const, Option.some.injEq, exists_eq_left', exists_eq_left, Sum.inl.injEq, Sum.inr.injEq, Prod.mk.injEq, Option.toList_some, Option.toList_none, List.cons_append, List.nil_append, List.append_nil, o1]
    intro _
    have := ysi_30 (g := g) (l := l) (d := 5) (n := true) (Q := Q) (by decide) k1 (by omega) (fun σ' k f => hQ σ' W ns w k (f1.tr f))
    rw [t1, u1] at this
    exact this
  · simp (disch := omega) only [ax_const, ax_iload, ax_lload, ax_aload, ax_istore, ax_astore, ax_iinc, ax_i2, ax_i2n, ax_l2, ax_lsh, ax_ii, ax_il, ax_li, ax_pop, ax_dup, ax_dup2, ax_if, ax_cmp, ax_acmp, ax_goto, ax_getI, ax_getR, ax_putI, ax_putR, ax_gets, ax_getsT, ax_aldI, ax_aldR, ax_astI, ax_astR, ax_alen, ax_ret, ax_aret, ax_vret, am_st, am_kl, List.getElem?_cons_zero, List.getElem?_cons_succ, List.set_cons_zero, List.set_cons_succ, Value.category, true_and, and_true, if_true, if_false, reduceCtorEq, Bool.false_eq_true, false_implies, forall_const, Option.some.injEq, exists_eq_left', exists_eq_left, Sum.inl.injEq, Sum.inr.injEq, Prod.mk.injEq, Option.toList_some, Option.toList_none, List.cons_append, List.nil_append, List.append_nil]
    refine ⟨?_, fun z => absurd trivial z⟩
    refine am_callK [.ref m, .int (nI (yw_s 25))] [] (d' := 1) (lim' := (am_tp σ1, am_us σ1)) rfl (by decide) (by rw [t1]; exact Nat.le_refl _) (by rw [u1]; exact Nat.le_refl _) rfl (by decide) (am_recv k1.1.1) ?_
    refine c_ytsign k1 ha (by decide) (by decide) (fun c2 σ2 k2 f2 t2 u2 => ?_) (fun c2 σ2 k2 f2 t2 u2 => ?_)
    · rw [if_pos (Or.inr c2), if_neg c] at hQ
      simp (disch := omega) only [ax_const, ax_iload, ax_lload, ax_aload, ax_istore, ax_astore, ax_iinc, ax_i2, ax_i2n, ax_l2, ax_lsh, ax_ii, ax_il, ax_li, ax_pop, ax_dup, ax_dup2, ax_if, ax_cmp, ax_acmp, ax_goto, ax_getI, ax_getR, ax_putI, ax_putR, ax_gets, ax_getsT, ax_aldI, ax_aldR, ax_astI, ax_astR, ax_alen, ax_ret, ax_aret, ax_vret, am_st, am_kl, List.getElem?_cons_zero, List.getElem?_cons_succ, List.set_cons_zero, List.set_cons_succ, Value.category, true_and, and_true, if_true, if_false, reduceCtorEq, Bool.false_eq_true, false_implies, forall_const, Option.some.injEq, exists_eq_left', exists_eq_left, Sum.inl.injEq, Sum.inr.injEq, Prod.mk.injEq, Option.toList_some, Option.toList_none, List.cons_append, List.nil_append, List.append_nil, o1]
      intro _
      have := ysi_30 (g := g) (l := l) (d := 5) (n := false) (Q := Q) (by decide) k2 (by omega) (fun σ' k f => hQ σ' W ns w k ((f1.tr f2).tr f))
      rw [t2, u2, t1, u1] at this
      exact this
    · rw [if_neg (fun e => e.elim c c2)] at hQ
      simp (disch := omega) only [ax_const, ax_iload, ax_lload, ax_aload, ax_istore, ax_astore, ax_iinc, ax_i2, ax_i2n, ax_l2, ax_lsh, ax_ii, ax_il, ax_li, ax_pop, ax_dup, ax_dup2, ax_if, ax_cmp, ax_acmp, ax_goto, ax_getI, ax_getR, ax_putI, ax_putR, ax_gets, ax_getsT, ax_aldI, ax_aldR, ax_astI, ax_astR, ax_alen, ax_ret, ax_aret, ax_vret, am_st, am_kl, List.getElem?_cons_zero, List.getElem?_cons_succ, List.set_cons_zero, List.set_cons_succ, Value.category, true_and, and_true, if_true, if_false, reduceCtorEq, Bool.false_eq_true, false_implies, forall_const, Option.some.injEq, exists_eq_left', exists_eq_left, Sum.inl.injEq, Sum.inr.injEq, Prod.mk.injEq, Option.toList_some, Option.toList_none, List.cons_append, List.nil_append, List.append_nil]
      refine ⟨?_, fun z => absurd trivial z⟩
      have t2' := t2.trans t1
      have u2' := u2.trans u1
      refine am_callK [.ref m] [] (d' := 4) (lim' := (am_tp σ2, am_us σ2)) rfl (by decide) (by rw [t2']; exact Nat.le_refl _) (by rw [u2']; exact Nat.le_refl _) rfl (by decide) (am_recv k2.1.1) ?_
      obtain ⟨g1, g2⟩ := yp_ex_I (ou := ou) (a := a) (o := o) (h := H.length) hEN ha (by omega)
      refine c_yexpr hEN k2 ha (by omega) (fun σ3 ns3 w3 k3 f3 t3 u3 => ?_)
      have t3' := t3.trans t2'
      have u3' := u3.trans u2'
      have fin : ∀ (h0 : Nat), h0 = xp_hd ts (yp_ex ts ou a o).1 → am_W g l mX10_single 5 (am_tp σ, am_us σ) Q 128 [some (.ref m), some (.int 0), none] [.int (nI (yc_wh h0))] σ3 := by
        intro h0 hh0
        have := ysi_128 (g := g) (l := l) (d := 5) (z := 0) (Q := Q) hEN (by decide) k3 g1 g2 (by omega) hh0 (fun σ' W' ns' w' k f => by
          refine hQ σ' W' ns' w' ?_ (((f1.tr f2).tr f3).tr f)
          rw [← hh0]
          exact k)
        rw [t3', u3'] at this
        exact this
      simp (disch := omega) only [ax_const, ax_iload, ax_lload, ax_aload, ax_istore, ax_astore, ax_iinc, ax_i2, ax_i2n, ax_l2, ax_lsh, ax_ii, ax_il, ax_li, ax_pop, ax_dup, ax_dup2, ax_if, ax_cmp, ax_acmp, ax_goto, ax_getI, ax_getR, ax_putI, ax_putR, ax_gets, ax_getsT, ax_aldI, ax_aldR, ax_astI, ax_astR, ax_alen, ax_ret, ax_aret, ax_vret, am_st, am_kl, List.getElem?_cons_zero, List.getElem?_cons_succ, List.set_cons_zero, List.set_cons_succ, Value.category, true_and, and_true, if_true, if_false, reduceCtorEq, Bool.false_eq_true, false_implies, forall_const, Option.some.injEq, exists_eq_left', exists_eq_left, Sum.inl.injEq, Sum.inr.injEq, Prod.mk.injEq, Option.toList_some, Option.toList_none, List.cons_append, List.nil_append, List.append_nil]
      refine am_callK [.ref m, .int (nI (yw_s 30))] [] (d' := 0) (lim' := (am_tp σ3, am_us σ3)) rfl (by decide) (by rw [t3']; exact Nat.le_refl _) (by rw [u3']; exact Nat.le_refl _) rfl (by decide) (am_recv k3.1.1) ?_
      refine c_ysign k3 g1 (by decide) (by decide) (fun _ _ => ?_)
      by_cases c30 : xp_hd ts (yp_ex ts ou a o).1 = 30
      · rw [if_pos c30]
        simp (disch := omega) only [ax_const, ax_iload, ax_lload, ax_aload, ax_istore, ax_astore, ax_iinc, ax_i2, ax_i2n, ax_l2, ax_lsh, ax_ii, ax_il, ax_li, ax_pop, ax_dup, ax_dup2, ax_if, ax_cmp, ax_acmp, ax_goto, ax_getI, ax_getR, ax_putI, ax_putR, ax_gets, ax_getsT, ax_aldI, ax_aldR, ax_astI, ax_astR, ax_alen, ax_ret, ax_aret, ax_vret, am_st, am_kl, List.getElem?_cons_zero, List.getElem?_cons_succ, List.set_cons_zero, List.set_cons_succ, Value.category, true_and, and_true, if_true, if_false, reduceCtorEq, Bool.false_eq_true, false_implies, forall_const, Option.some.injEq, exists_eq_left', exists_eq_left, Sum.inl.injEq, Sum.inr.injEq, Prod.mk.injEq, Option.toList_some, Option.toList_none, List.cons_append, List.nil_append, List.append_nil, o1]
        exact fun _ => fin 30 c30.symm
      · rw [if_neg c30]
        simp (disch := omega) only [ax_const, ax_iload, ax_lload, ax_aload, ax_istore, ax_astore, ax_iinc, ax_i2, ax_i2n, ax_l2, ax_lsh, ax_ii, ax_il, ax_li, ax_pop, ax_dup, ax_dup2, ax_if, ax_cmp, ax_acmp, ax_goto, ax_getI, ax_getR, ax_putI, ax_putR, ax_gets, ax_getsT, ax_aldI, ax_aldR, ax_astI, ax_astR, ax_alen, ax_ret, ax_aret, ax_vret, am_st, am_kl, List.getElem?_cons_zero, List.getElem?_cons_succ, List.set_cons_zero, List.set_cons_succ, Value.category, true_and, and_true, if_true, if_false, reduceCtorEq, Bool.false_eq_true, false_implies, forall_const, Option.some.injEq, exists_eq_left', exists_eq_left, Sum.inl.injEq, Sum.inr.injEq, Prod.mk.injEq, Option.toList_some, Option.toList_none, List.cons_append, List.nil_append, List.append_nil]
        refine ⟨?_, fun z => absurd trivial z⟩
        refine am_callK [.ref m, .int (nI (yw_s 31))] [] (d' := 0) (lim' := (am_tp σ3, am_us σ3)) rfl (by decide) (by rw [t3']; exact Nat.le_refl _) (by rw [u3']; exact Nat.le_refl _) rfl (by decide) (am_recv k3.1.1) ?_
        refine c_ysign k3 g1 (by decide) (by decide) (fun _ _ => ?_)
        by_cases c31 : xp_hd ts (yp_ex ts ou a o).1 = 31
        · rw [if_pos c31]
          simp (disch := omega) only [ax_const, ax_iload, ax_lload, ax_aload, ax_istore, ax_astore, ax_iinc, ax_i2, ax_i2n, ax_l2, ax_lsh, ax_ii, ax_il, ax_li, ax_pop, ax_dup, ax_dup2, ax_if, ax_cmp, ax_acmp, ax_goto, ax_getI, ax_getR, ax_putI, ax_putR, ax_gets, ax_getsT, ax_aldI, ax_aldR, ax_astI, ax_astR, ax_alen, ax_ret, ax_aret, ax_vret, am_st, am_kl, List.getElem?_cons_zero, List.getElem?_cons_succ, List.set_cons_zero, List.set_cons_succ, Value.category, true_and, and_true, if_true, if_false, reduceCtorEq, Bool.false_eq_true, false_implies, forall_const, Option.some.injEq, exists_eq_left', exists_eq_left, Sum.inl.injEq, Sum.inr.injEq, Prod.mk.injEq, Option.toList_some, Option.toList_none, List.cons_append, List.nil_append, List.append_nil, o1]
          exact fun _ => fin 31 c31.symm
        · rw [if_neg c31]
          simp (disch := omega) only [ax_const, ax_iload, ax_lload, ax_aload, ax_istore, ax_astore, ax_iinc, ax_i2, ax_i2n, ax_l2, ax_lsh, ax_ii, ax_il, ax_li, ax_pop, ax_dup, ax_dup2, ax_if, ax_cmp, ax_acmp, ax_goto, ax_getI, ax_getR, ax_putI, ax_putR, ax_gets, ax_getsT, ax_aldI, ax_aldR, ax_astI, ax_astR, ax_alen, ax_ret, ax_aret, ax_vret, am_st, am_kl, List.getElem?_cons_zero, List.getElem?_cons_succ, List.set_cons_zero, List.set_cons_succ, Value.category, true_and, and_true, if_true, if_false, reduceCtorEq, Bool.false_eq_true, false_implies, forall_const, Option.some.injEq, exists_eq_left', exists_eq_left, Sum.inl.injEq, Sum.inr.injEq, Prod.mk.injEq, Option.toList_some, Option.toList_none, List.cons_append, List.nil_append, List.append_nil]
          refine ⟨?_, fun z => absurd trivial z⟩
          refine am_callK [.ref m, .int (nI (yw_s 32))] [] (d' := 0) (lim' := (am_tp σ3, am_us σ3)) rfl (by decide) (by rw [t3']; exact Nat.le_refl _) (by rw [u3']; exact Nat.le_refl _) rfl (by decide) (am_recv k3.1.1) ?_
          refine c_ysign k3 g1 (by decide) (by decide) (fun _ _ => ?_)
          by_cases c32 : xp_hd ts (yp_ex ts ou a o).1 = 32
          · rw [if_pos c32]
            simp (disch := omega) only [ax_const, ax_iload, ax_lload, ax_aload, ax_istore, ax_astore, ax_iinc, ax_i2, ax_i2n, ax_l2, ax_lsh, ax_ii, ax_il, ax_li, ax_pop, ax_dup, ax_dup2, ax_if, ax_cmp, ax_acmp, ax_goto, ax_getI, ax_getR, ax_putI, ax_putR, ax_gets, ax_getsT, ax_aldI, ax_aldR, ax_astI, ax_astR, ax_alen, ax_ret, ax_aret, ax_vret, am_st, am_kl, List.getElem?_cons_zero, List.getElem?_cons_succ, List.set_cons_zero, List.set_cons_succ, Value.category, true_and, and_true, if_true, if_false, reduceCtorEq, Bool.false_eq_true, false_implies, forall_const, Option.some.injEq, exists_eq_left', exists_eq_left, Sum.inl.injEq, Sum.inr.injEq, Prod.mk.injEq, Option.toList_some, Option.toList_none, List.cons_append, List.nil_append, List.append_nil, o1]
            exact fun _ => fin 32 c32.symm
          · rw [if_neg c32]
            simp (disch := omega) only [ax_const, ax_iload, ax_lload, ax_aload, ax_istore, ax_astore, ax_iinc, ax_i2, ax_i2n, ax_l2, ax_lsh, ax_ii, ax_il, ax_li, ax_pop, ax_dup, ax_dup2, ax_if, ax_cmp, ax_acmp, ax_goto, ax_getI, ax_getR, ax_putI, ax_putR, ax_gets, ax_getsT, ax_aldI, ax_aldR, ax_astI, ax_astR, ax_alen, ax_ret, ax_aret, ax_vret, am_st, am_kl, List.getElem?_cons_zero, List.getElem?_cons_succ, List.set_cons_zero, List.set_cons_succ, Value.category, true_and, and_true, if_true, if_false, reduceCtorEq, Bool.false_eq_true, false_implies, forall_const, Option.some.injEq, exists_eq_left', exists_eq_left, Sum.inl.injEq, Sum.inr.injEq, Prod.mk.injEq, Option.toList_some, Option.toList_none, List.cons_append, List.nil_append, List.append_nil]
            refine ⟨?_, fun z => absurd trivial z⟩
            have := fin (xp_hd ts (yp_ex ts ou a o).1) rfl
            have e0 : yc_wh (xp_hd ts (yp_ex ts ou a o).1) = 0 := by unfold yc_wh; rw [if_neg c30, if_neg c31, if_neg c32]
            rw [e0] at this
            exact this
