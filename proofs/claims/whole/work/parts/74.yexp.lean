/-! the reference's parser: word, col, operand, operator -/
def yw_f (a b c d e f : Int32) : Int32 :=
  let v := 32 * (a - 96) + b - 96
  let v := if c = 0 then v else 32 * v + c - 96
  let v := if d = 0 then v else 32 * v + d - 96
  let v := if e = 0 then v else 32 * v + e - 96
  if f = 0 then v else 32 * v + f - 96
theorem c_yword {g : am_G} {l : Launch} {σ : am_S} {a b c d e f : Int32} {Q : Option Value → am_S → Prop} (hQ : Q (some (.int (yw_f a b c d e f))) σ) : am_C g l mX10_word 0 (am_tp σ, am_us σ) [.int a, .int b, .int c, .int d, .int e, .int f] σ Q := by
  refine am_C.go [some (.int a), some (.int b), some (.int c), some (.int d), some (.int e), some (.int f), none] (by decide +kernel) (Nat.le_of_ble_eq_true rfl) rfl (kX10_word_0 ?_)
  have k77 : ∀ (z : Option Value) (v : Int32), v = (let v := 32 * (a - 96) + b - 96
  let v := if c = 0 then v else 32 * v + c - 96
  let v := if d = 0 then v else 32 * v + d - 96
  if e = 0 then v else 32 * v + e - 96) → am_W g l mX10_word 0 (am_tp σ, am_us σ) Q 77 [some (.int a), some (.int b), some (.int c), some (.int d), some (.int e), some (.int f), z] [.int v] σ := by
    intro z v hv
    refine kX10_word_77 ?_
    unfold yw_f at hQ
    dsimp only at hQ hv
    rw [← hv] at hQ
    cases z with
    | none =>
      simp (disch := omega) only [ax_const, ax_iload, ax_lload, ax_aload, ax_istore, ax_astore, ax_iinc, ax_i2, ax_i2n, ax_l2, ax_lsh, ax_ii, ax_il, ax_li, ax_pop, ax_dup, ax_dup2, ax_if, ax_cmp, ax_acmp, ax_goto, ax_getI, ax_getR, ax_putI, ax_putR, ax_gets, ax_getsT, ax_aldI, ax_aldR, ax_astI, ax_astR, ax_alen, ax_ret, ax_aret, ax_vret, am_st, am_kl, List.getElem?_cons_zero, List.getElem?_cons_succ, List.set_cons_zero, List.set_cons_succ, Value.category, true_and, and_true, if_true, if_false, reduceCtorEq, Bool.false_eq_true, false_implies, forall_const, Option.some.injEq, exists_eq_left', exists_eq_left, Sum.inl.injEq, Sum.inr.injEq, Prod.mk.injEq]
      refine ⟨fun q => ?_, fun q => ?_⟩
      · rwa [if_pos q] at hQ
      · rwa [if_neg q] at hQ
    | some z =>
      simp (disch := omega) only [ax_const, ax_iload, ax_lload, ax_aload, ax_istore, ax_astore, ax_iinc, ax_i2, ax_i2n, ax_l2, ax_lsh, ax_ii, ax_il, ax_li, ax_pop, ax_dup, ax_dup2, ax_if, ax_cmp, ax_acmp, ax_goto, ax_getI, ax_getR, ax_putI, ax_putR, ax_gets, ax_getsT, ax_aldI, ax_aldR, ax_astI, ax_astR, ax_alen, ax_ret, ax_aret, ax_vret, am_st, am_kl, List.getElem?_cons_zero, List.getElem?_cons_succ, List.set_cons_zero, List.set_cons_succ, Value.category, true_and, and_true, if_true, if_false, reduceCtorEq, Bool.false_eq_true, false_implies, forall_const, Option.some.injEq, exists_eq_left', exists_eq_left, Sum.inl.injEq, Sum.inr.injEq, Prod.mk.injEq]
      refine ⟨fun q => ?_, fun q => ?_⟩
      · rwa [if_pos q] at hQ
      · rwa [if_neg q] at hQ
  have k54 : ∀ (z : Option Value) (v : Int32), v = (let v := 32 * (a - 96) + b - 96
  let v := if c = 0 then v else 32 * v + c - 96
  if d = 0 then v else 32 * v + d - 96) → am_W g l mX10_word 0 (am_tp σ, am_us σ) Q 54 [some (.int a), some (.int b), some (.int c), some (.int d), some (.int e), some (.int f), z] [.int v] σ := by
    intro z v hv
    refine kX10_word_54 ?_
    dsimp only at hv
    simp (disch := omega) only [ax_const, ax_iload, ax_lload, ax_aload, ax_istore, ax_astore, ax_iinc, ax_i2, ax_i2n, ax_l2, ax_lsh, ax_ii, ax_il, ax_li, ax_pop, ax_dup, ax_dup2, ax_if, ax_cmp, ax_acmp, ax_goto, ax_getI, ax_getR, ax_putI, ax_putR, ax_gets, ax_getsT, ax_aldI, ax_aldR, ax_astI, ax_astR, ax_alen, ax_ret, ax_aret, ax_vret, am_st, am_kl, List.getElem?_cons_zero, List.getElem?_cons_succ, List.set_cons_zero, List.set_cons_succ, Value.category, true_and, and_true, if_true, if_false, reduceCtorEq, Bool.false_eq_true, false_implies, forall_const, Option.some.injEq, exists_eq_left', exists_eq_left, Sum.inl.injEq, Sum.inr.injEq, Prod.mk.injEq]
    refine ⟨fun q => k77 _ _ ?_, fun q => k77 _ _ ?_⟩
    · dsimp only
      rw [if_pos q, hv]
    · dsimp only
      rw [if_neg q, hv]
  have k33 : ∀ (z : Option Value) (v : Int32), v = (let v := 32 * (a - 96) + b - 96
  if c = 0 then v else 32 * v + c - 96) → am_W g l mX10_word 0 (am_tp σ, am_us σ) Q 33 [some (.int a), some (.int b), some (.int c), some (.int d), some (.int e), some (.int f), z] [.int v] σ := by
    intro z v hv
    refine kX10_word_33 ?_
    dsimp only at hv
    simp (disch := omega) only [ax_const, ax_iload, ax_lload, ax_aload, ax_istore, ax_astore, ax_iinc, ax_i2, ax_i2n, ax_l2, ax_lsh, ax_ii, ax_il, ax_li, ax_pop, ax_dup, ax_dup2, ax_if, ax_cmp, ax_acmp, ax_goto, ax_getI, ax_getR, ax_putI, ax_putR, ax_gets, ax_getsT, ax_aldI, ax_aldR, ax_astI, ax_astR, ax_alen, ax_ret, ax_aret, ax_vret, am_st, am_kl, List.getElem?_cons_zero, List.getElem?_cons_succ, List.set_cons_zero, List.set_cons_succ, Value.category, true_and, and_true, if_true, if_false, reduceCtorEq, Bool.false_eq_true, false_implies, forall_const, Option.some.injEq, exists_eq_left', exists_eq_left, Sum.inl.injEq, Sum.inr.injEq, Prod.mk.injEq]
    refine ⟨fun q => k54 _ _ ?_, fun q => k54 _ _ ?_⟩
    · dsimp only
      rw [if_pos q, hv]
    · dsimp only
      rw [if_neg q, hv]
  simp (disch := omega) only [ax_const, ax_iload, ax_lload, ax_aload, ax_istore, ax_astore, ax_iinc, ax_i2, ax_i2n, ax_l2, ax_lsh, ax_ii, ax_il, ax_li, ax_pop, ax_dup, ax_dup2, ax_if, ax_cmp, ax_acmp, ax_goto, ax_getI, ax_getR, ax_putI, ax_putR, ax_gets, ax_getsT, ax_aldI, ax_aldR, ax_astI, ax_astR, ax_alen, ax_ret, ax_aret, ax_vret, am_st, am_kl, List.getElem?_cons_zero, List.getElem?_cons_succ, List.set_cons_zero, List.set_cons_succ, Value.category, true_and, and_true, if_true, if_false, reduceCtorEq, Bool.false_eq_true, false_implies, forall_const, Option.some.injEq, exists_eq_left', exists_eq_left, Sum.inl.injEq, Sum.inr.injEq, Prod.mk.injEq]
  refine ⟨fun q => k33 _ _ ?_, fun q => k33 _ _ ?_⟩
  · dsimp only
    rw [if_pos q]
  · dsimp only
    rw [if_neg q]
theorem ycol_99 {g : am_G} {l : Launch} {σ : am_S} {m a c d : Nat} {ts : List (Nat × Int32)} {b : Bool} {o : yp_O} {W H : List Nat} {ns ou n1 tv v : Int32} {w : Bool} {z : Option Value} {Q : Option Value → am_S → Prop} (hd : 1 ≤ d) (h : yZ σ m ts a b o W H ns ou w) (hc : c < 4)
    (hQ : ∀ σ', yZ σ' m ts a (b || (decide (c = 3) && !decide (v = yw_c (xt_w 18)))) o W H ns ou w → yb_f m σ σ' → Q (some (.int (4 * tv + 4 + nI c))) σ') : am_W g l mX10_col d (am_tp σ, am_us σ) Q 99 [some (.ref m), some (.int n1), some (.int tv), some (.int v), z] [.int (nI c)] σ := by
  obtain ⟨hH, hT, hP, hW, hHH⟩ := id h
  have last : ∀ b', b' = (b || (decide (c = 3) && !decide (v = yw_c (xt_w 18)))) → am_W g l mX10_col d (am_tp σ, am_us σ) Q 136 [some (.ref m), some (.int n1), some (.int tv), some (.int v), some (.int (nI c))] [.int (yb b'), .ref m] σ := by
    intro b' hb'
    have hb01 : yb b' = 0 ∨ yb b' = 1 := by cases b' <;> decide
    have hf : yb_f m σ (am_wi σ m 13 (yb b')) := yb_f.rf.wf (by decide) (by decide)
    rw [← hb'] at hQ
    refine kX10_col_136 ?_
    simp (disch := omega) only [ax_const, ax_iload, ax_lload, ax_aload, ax_istore, ax_astore, ax_iinc, ax_i2, ax_i2n, ax_l2, ax_lsh, ax_ii, ax_il, ax_li, ax_pop, ax_dup, ax_dup2, ax_if, ax_cmp, ax_acmp, ax_goto, ax_getI, ax_getR, ax_putI, ax_putR, ax_gets, ax_getsT, ax_aldI, ax_aldR, ax_astI, ax_astR, ax_alen, ax_ret, ax_aret, ax_vret, am_st, am_kl, List.getElem?_cons_zero, List.getElem?_cons_succ, List.set_cons_zero, List.set_cons_succ, Value.category, true_and, and_true, if_true, if_false, reduceCtorEq, Bool.false_eq_true, false_implies, forall_const, Option.some.injEq, exists_eq_left', exists_eq_left, Sum.inl.injEq, Sum.inr.injEq, Prod.mk.injEq, am_sh_wi, am_r_wi, am_tp_wi, am_us_wi, ym_is, ym_io, ym_ij, hH.1]
    exact ⟨hb01, hQ _ (h.up hf (hP.bd b') hW hHH) hf⟩
  have e3 : (3 : Int32) = nI 3 := rfl
  refine kX10_col_99 ?_
  cases b with
  | true =>
    have e : am_i σ m 13 = 1 := hP.2.1
    have o1 : ¬ (1 : Int32) = 0 := by decide
    simp (disch := omega) only [ax_const, ax_iload, ax_lload, ax_aload, ax_istore, ax_astore, ax_iinc, ax_i2, ax_i2n, ax_l2, ax_lsh, ax_ii, ax_il, ax_li, ax_pop, ax_dup, ax_dup2, ax_if, ax_cmp, ax_acmp, ax_goto, ax_getI, ax_getR, ax_putI, ax_putR, ax_gets, ax_getsT, ax_aldI, ax_aldR, ax_astI, ax_astR, ax_alen, ax_ret, ax_aret, ax_vret, am_st, am_kl, List.getElem?_cons_zero, List.getElem?_cons_succ, List.set_cons_zero, List.set_cons_succ, Value.category, true_and, and_true, if_true, if_false, reduceCtorEq, Bool.false_eq_true, false_implies, forall_const, Option.some.injEq, exists_eq_left', exists_eq_left, Sum.inl.injEq, Sum.inr.injEq, Prod.mk.injEq, e, o1, hH.1]
    exact fun _ => last true (by rw [Bool.true_or])
  | false =>
    have e : am_i σ m 13 = 0 := hP.2.1
    simp (disch := omega) only [ax_const, ax_iload, ax_lload, ax_aload, ax_istore, ax_astore, ax_iinc, ax_i2, ax_i2n, ax_l2, ax_lsh, ax_ii, ax_il, ax_li, ax_pop, ax_dup, ax_dup2, ax_if, ax_cmp, ax_acmp, ax_goto, ax_getI, ax_getR, ax_putI, ax_putR, ax_gets, ax_getsT, ax_aldI, ax_aldR, ax_astI, ax_astR, ax_alen, ax_ret, ax_aret, ax_vret, am_st, am_kl, List.getElem?_cons_zero, List.getElem?_cons_succ, List.set_cons_zero, List.set_cons_succ, Value.category, true_and, and_true, if_true, if_false, reduceCtorEq, Bool.false_eq_true, false_implies, forall_const, Option.some.injEq, exists_eq_left', exists_eq_left, Sum.inl.injEq, Sum.inr.injEq, Prod.mk.injEq, e, hH.1, e3, yl_eq]
    refine ⟨⟨fun q => ?_, fun q => last false (by rw [decide_eq_false q]; rfl)⟩, fun z => absurd trivial z⟩
    refine am_callK [.int 108, .int 97, .int 98, .int 0, .int 0, .int 0] [.int v, .ref m] (d' := 0) (lim' := (am_tp σ, am_us σ)) rfl (by omega) (Nat.le_refl _) (Nat.le_refl _) rfl (Nat.le_of_ble_eq_true rfl) am_stat ?_
    refine c_yword (fun _ _ => ?_)
    have ew : yw_f 108 97 98 0 0 0 = yw_c (xt_w 18) := by decide +kernel
    rw [ew]
    simp (disch := omega) only [ax_const, ax_iload, ax_lload, ax_aload, ax_istore, ax_astore, ax_iinc, ax_i2, ax_i2n, ax_l2, ax_lsh, ax_ii, ax_il, ax_li, ax_pop, ax_dup, ax_dup2, ax_if, ax_cmp, ax_acmp, ax_goto, ax_getI, ax_getR, ax_putI, ax_putR, ax_gets, ax_getsT, ax_aldI, ax_aldR, ax_astI, ax_astR, ax_alen, ax_ret, ax_aret, ax_vret, am_st, am_kl, List.getElem?_cons_zero, List.getElem?_cons_succ, List.set_cons_zero, List.set_cons_succ, Value.category, true_and, and_true, if_true, if_false, reduceCtorEq, Bool.false_eq_true, false_implies, forall_const, Option.some.injEq, exists_eq_left', exists_eq_left, Sum.inl.injEq, Sum.inr.injEq, Prod.mk.injEq, Option.toList_some, Option.toList_none, List.cons_append, List.nil_append, List.append_nil]
    exact ⟨fun p => last false (by rw [decide_eq_true q, decide_eq_true p]; rfl), fun p => last true (by rw [decide_eq_true q, decide_eq_false p]; rfl)⟩
theorem ycol_59 {g : am_G} {l : Launch} {σ : am_S} {m a d : Nat} {ts : List (Nat × Int32)} {b b1 : Bool} {o : yp_O} {W H : List Nat} {ns ou n1 tv : Int32} {w : Bool} {z1 z2 : Option Value} {Q : Option Value → am_S → Prop} (hd : 1 ≤ d) (h : yZ σ m ts a b o W H ns ou w) (ha : a < ts.length)
    (hQ : ∀ σ', yZ σ' m ts (if yp_isW (xp_hd ts a) = true then a + 1 else a) (b1 || !(decide (15 ≤ xp_hd ts a) && decide (xp_hd ts a ≤ 18))) o W H ns ou w → yb_f m σ σ' → Q (some (.int (4 * tv + 4 + nI (yp_cc (xp_hd ts a))))) σ') : am_W g l mX10_col d (am_tp σ, am_us σ) Q 59 [some (.ref m), some (.int n1), some (.int tv), z1, z2] [.int (yb b1), .ref m] σ := by
  obtain ⟨hH, hT, hP, hW, hHH⟩ := id h
  have hok := hT.2 a ha
  have hb01 : yb b1 = 0 ∨ yb b1 = 1 := by cases b1 <;> decide
  have hf1 : yb_f m σ (am_wi σ m 13 (yb b1)) := yb_f.rf.wf (by decide) (by decide)
  have h1 : yZ (am_wi σ m 13 (yb b1)) m ts a b1 o W H ns ou w := h.up hf1 (hP.bd b1) hW hHH
  have k10 : am_i (am_wi σ m 13 (yb b1)) (m + 10) a = am_i σ (m + 10) a := ym_io (by omega)
  have k11 : am_i (am_wi σ m 13 (yb b1)) (m + 11) a = am_i σ (m + 11) a := ym_io (by omega)
  have t1 := hf1.tp
  have u1 := hf1.us
  refine kX10_col_59 ?_
  simp (disch := omega) only [ax_const, ax_iload, ax_lload, ax_aload, ax_istore, ax_astore, ax_iinc, ax_i2, ax_i2n, ax_l2, ax_lsh, ax_ii, ax_il, ax_li, ax_pop, ax_dup, ax_dup2, ax_if, ax_cmp, ax_acmp, ax_goto, ax_getI, ax_getR, ax_putI, ax_putR, ax_gets, ax_getsT, ax_aldI, ax_aldR, ax_astI, ax_astR, ax_alen, ax_ret, ax_aret, ax_vret, am_st, am_kl, List.getElem?_cons_zero, List.getElem?_cons_succ, List.set_cons_zero, List.set_cons_succ, Value.category, true_and, and_true, if_true, if_false, reduceCtorEq, Bool.false_eq_true, false_implies, forall_const, Option.some.injEq, exists_eq_left', exists_eq_left, Sum.inl.injEq, Sum.inr.injEq, Prod.mk.injEq, am_sh_wi, am_r_wi, am_tp_wi, am_us_wi, ym_is, ym_io, ym_ij, hH.1]
  refine ⟨hb01, ?_⟩
  generalize am_wi σ m 13 (yb b1) = σ1 at *
  refine am_callK [.ref m, .int 1] [] (d' := 0) (lim' := (am_tp σ1, am_us σ1)) rfl (by omega) (by rw [t1]; exact Nat.le_refl _) (by rw [u1]; exact Nat.le_refl _) rfl (by decide) (am_recv h1.1.1) ?_
  have go : ∀ (σ2 : am_S) (p c : Nat) (b2 : Bool) (v : Int32), yZ σ2 m ts p b2 o W H ns ou w → yb_f m σ1 σ2 → p = (if yp_isW (xp_hd ts a) = true then a + 1 else a) → c = yp_cc (xp_hd ts a) → (b2 || (decide (c = 3) && !decide (v = yw_c (xt_w 18)))) = (b1 || !(decide (15 ≤ xp_hd ts a) && decide (xp_hd ts a ≤ 18))) → am_W g l mX10_col d (am_tp σ, am_us σ) Q 99 [some (.ref m), some (.int n1), some (.int tv), some (.int v), z2] [.int (nI c)] σ2 := by
    intro σ2 p c b2 v hz2 hf2 hp hc hb
    have hcc := yp_cc_lt (xp_hd ts a)
    have := ycol_99 (g := g) (l := l) (n1 := n1) (tv := tv) (v := v) (z := z2) (Q := Q) hd hz2 (show c < 4 by omega) (fun σ3 k3 f3 => by
      rw [hc]
      exact hQ σ3 (by rw [← hp, ← hb]; exact k3) ((hf1.tr hf2).tr f3))
    rw [hf2.tp, hf2.us, t1, u1] at this
    exact this
  refine c_ytake h1 ha (fun hk σ2 k2 f2 t2 u2 => ?_) (fun hk σ2 k2 f2 t2 u2 => ?_)
  · rw [k10] at hk
    rw [k11]
    have hW1 : yp_isW (xp_hd ts a) = true := hok.isW.mp hk
    have e15 := hok.word (s := 15) (by decide)
    have e16 := hok.word (s := 16) (by decide)
    have e17 := hok.word (s := 17) (by decide)
    have e18 := hok.word (s := 18) (by decide)
    have c15 : yw_c (xt_w 15) = 11 := by decide +kernel
    have c16 : yw_c (xt_w 16) = 22 := by decide +kernel
    have c17 : yw_c (xt_w 17) = 23 := by decide +kernel
    rw [c15] at e15
    rw [c16] at e16
    rw [c17] at e17
    have hpp : a + 1 = if yp_isW (xp_hd ts a) = true then a + 1 else a := by rw [if_pos hW1]
    generalize am_i σ (m + 11) a = v at *
    simp (disch := omega) only [ax_const, ax_iload, ax_lload, ax_aload, ax_istore, ax_astore, ax_iinc, ax_i2, ax_i2n, ax_l2, ax_lsh, ax_ii, ax_il, ax_li, ax_pop, ax_dup, ax_dup2, ax_if, ax_cmp, ax_acmp, ax_goto, ax_getI, ax_getR, ax_putI, ax_putR, ax_gets, ax_getsT, ax_aldI, ax_aldR, ax_astI, ax_astR, ax_alen, ax_ret, ax_aret, ax_vret, am_st, am_kl, List.getElem?_cons_zero, List.getElem?_cons_succ, List.set_cons_zero, List.set_cons_succ, Value.category, true_and, and_true, if_true, if_false, reduceCtorEq, Bool.false_eq_true, false_implies, forall_const, Option.some.injEq, exists_eq_left', exists_eq_left, Sum.inl.injEq, Sum.inr.injEq, Prod.mk.injEq, Option.toList_some, Option.toList_none, List.cons_append, List.nil_append, List.append_nil]
    refine ⟨fun q => ?_, fun q => ⟨fun q2 => ?_, fun q2 => ⟨fun q3 => ?_, fun q3 => ?_⟩⟩⟩
    · have hh := e15.mp ⟨hk, q⟩
      refine go σ2 _ 0 b1 v k2 f2 hpp (by rw [hh]; rfl) ?_
      rw [hh]
      simp
    · have hh := e16.mp ⟨hk, q2⟩
      refine go σ2 _ 1 b1 v k2 f2 hpp (by rw [hh]; rfl) ?_
      rw [hh]
      simp
    · have hh := e17.mp ⟨hk, q3⟩
      refine go σ2 _ 2 b1 v k2 f2 hpp (by rw [hh]; rfl) ?_
      rw [hh]
      simp
    · have n15 : xp_hd ts a ≠ 15 := fun e => q (e15.mpr e).2
      have n16 : xp_hd ts a ≠ 16 := fun e => q2 (e16.mpr e).2
      have n17 : xp_hd ts a ≠ 17 := fun e => q3 (e17.mpr e).2
      refine go σ2 _ 3 b1 v k2 f2 hpp (by unfold yp_cc; rw [if_neg n15, if_neg n16, if_neg n17]) ?_
      by_cases hh : xp_hd ts a = 18
      · rw [hh, decide_eq_true (e18.mpr hh).2]
        simp
      · have : ¬ v = yw_c (xt_w 18) := fun e => hh (e18.mp ⟨hk, e⟩)
        rw [decide_eq_false this]
        have hn : (decide (15 ≤ xp_hd ts a) && decide (xp_hd ts a ≤ 18)) = false := by
          simp only [Bool.and_eq_false_iff, decide_eq_false_iff_not]
          omega
        rw [hn]
        rfl
  · rw [k10] at hk
    have hW0 : yp_isW (xp_hd ts a) = false := by
      cases e : yp_isW (xp_hd ts a) with
      | true => exact absurd (hok.isW.mpr e) hk
      | false => rfl
    have hn : ¬ (xp_hd ts a < 19) := fun e => by unfold yp_isW at hW0; rw [decide_eq_true e] at hW0; cases hW0
    simp (disch := omega) only [ax_const, ax_iload, ax_lload, ax_aload, ax_istore, ax_astore, ax_iinc, ax_i2, ax_i2n, ax_l2, ax_lsh, ax_ii, ax_il, ax_li, ax_pop, ax_dup, ax_dup2, ax_if, ax_cmp, ax_acmp, ax_goto, ax_getI, ax_getR, ax_putI, ax_putR, ax_gets, ax_getsT, ax_aldI, ax_aldR, ax_astI, ax_astR, ax_alen, ax_ret, ax_aret, ax_vret, am_st, am_kl, List.getElem?_cons_zero, List.getElem?_cons_succ, List.set_cons_zero, List.set_cons_succ, Value.category, true_and, and_true, if_true, if_false, reduceCtorEq, Bool.false_eq_true, false_implies, forall_const, Option.some.injEq, exists_eq_left', exists_eq_left, Sum.inl.injEq, Sum.inr.injEq, Prod.mk.injEq, Option.toList_some, Option.toList_none, List.cons_append, List.nil_append, List.append_nil]
    refine ⟨fun q => absurd q (by decide), fun _ => ⟨fun q => absurd q (by decide), fun _ => ⟨fun q => absurd q (by decide), fun _ => ?_⟩⟩⟩
    refine go σ2 a 3 true 0 k2 f2 (by rw [hW0]; rfl) (by unfold yp_cc; rw [if_neg (by omega), if_neg (by omega), if_neg (by omega)]) ?_
    have hn2 : (decide (15 ≤ xp_hd ts a) && decide (xp_hd ts a ≤ 18)) = false := by
      simp only [Bool.and_eq_false_iff, decide_eq_false_iff_not]
      omega
    rw [hn2]
    simp
theorem yκ_col {t c : Nat} (ht : t < 3) (hc : c < 4) : yκ (2, nI (4 * t + c)) = if t = 2 then 4 * (-1) + 4 + nI c else 4 * nI t + 4 + nI c := by
  have key : ∀ t, t < 3 → ∀ c, c < 4 → yκ (2, nI (4 * t + c)) = if t = 2 then 4 * (-1) + 4 + nI c else 4 * nI t + 4 + nI c := by decide +kernel
  exact key t ht c hc
theorem c_ycol {g : am_G} {l : Launch} {σ : am_S} {m a : Nat} {ts : List (Nat × Int32)} {o : yp_O} {W H : List Nat} {ns ou : Int32} {w : Bool} {Q : Option Value → am_S → Prop} (hEN : xp_EN ts) (h : yZ σ m ts a false o W H ns ou w) (ha : a < ts.length)
    (hQ : ∀ σ', yZ σ' m ts (yp_ca ts a) (yp_cx ts a) o W H ns ou w → yb_f m σ σ' → Q (some (.int (yκ (2, nI (yp_co ts a))))) σ') : am_C g l mX10_col 2 (am_tp σ, am_us σ) [.ref m] σ Q := by
  obtain ⟨hH, hT, hP, hW, hHH⟩ := id h
  have hok := hT.2 a ha
  have hl := hT.1
  have o1 : ¬ (1 : Int32) = 0 := by decide
  have hcc := yp_cc_lt (xp_hd ts (yp_c1 ts a))
  have hct := yp_ct_lt ts a
  unfold yp_co at hQ
  rw [yκ_col hct hcc] at hQ
  refine am_C.go [some (.ref m), none, none, none, none] (by decide +kernel) (Nat.le_of_ble_eq_true rfl) rfl (kX10_col_0 ?_)
  simp (disch := omega) only [ax_const, ax_iload, ax_lload, ax_aload, ax_istore, ax_astore, ax_iinc, ax_i2, ax_i2n, ax_l2, ax_lsh, ax_ii, ax_il, ax_li, ax_pop, ax_dup, ax_dup2, ax_if, ax_cmp, ax_acmp, ax_goto, ax_getI, ax_getR, ax_putI, ax_putR, ax_gets, ax_getsT, ax_aldI, ax_aldR, ax_astI, ax_astR, ax_alen, ax_ret, ax_aret, ax_vret, am_st, am_kl, List.getElem?_cons_zero, List.getElem?_cons_succ, List.set_cons_zero, List.set_cons_succ, Value.category, true_and, and_true, if_true, if_false, reduceCtorEq, Bool.false_eq_true, false_implies, forall_const, Option.some.injEq, exists_eq_left', exists_eq_left, Sum.inl.injEq, Sum.inr.injEq, Prod.mk.injEq, nI_toInt, nI_clamp, am_ix_nI, am_ix_0, am_ix_1, am_ix_2, am_ix_3, am_n0, am_n1, am_n2, am_n3, am_n4, am_t0, am_t1, am_t2, am_t3, am_t4, am_tm1, am_nS, am_nP, am_nM, Int.ofNat_lt, Int.ofNat_le, hH.1, hH.r9, hH.s9, hP.1]
  refine ⟨by omega, fun c => kX10_col_18 ?_, fun c => kX10_col_18 ?_⟩
  · have hn : xp_hd ts a = 19 ∨ xp_hd ts a = 20 := hok.name.mp c
    have hwn := hok.wn hn
    have hlt := hEN.lt (a := a) (by omega)
    simp (disch := omega) only [ax_const, ax_iload, ax_lload, ax_aload, ax_istore, ax_astore, ax_iinc, ax_i2, ax_i2n, ax_l2, ax_lsh, ax_ii, ax_il, ax_li, ax_pop, ax_dup, ax_dup2, ax_if, ax_cmp, ax_acmp, ax_goto, ax_getI, ax_getR, ax_putI, ax_putR, ax_gets, ax_getsT, ax_aldI, ax_aldR, ax_astI, ax_astR, ax_alen, ax_ret, ax_aret, ax_vret, am_st, am_kl, List.getElem?_cons_zero, List.getElem?_cons_succ, List.set_cons_zero, List.set_cons_succ, Value.category, true_and, and_true, if_true, if_false, reduceCtorEq, Bool.false_eq_true, false_implies, forall_const, Option.some.injEq, exists_eq_left', exists_eq_left, Sum.inl.injEq, Sum.inr.injEq, Prod.mk.injEq, o1]
    intro _
    refine am_callK [.ref m, .int 2] [] (d' := 0) (lim' := (am_tp σ, am_us σ)) rfl (by decide) (Nat.le_refl _) (Nat.le_refl _) rfl (Nat.le_of_ble_eq_true rfl) (am_recv hH.1) ?_
    refine c_ytake h ha (fun hk σ1 k1 f1 t1 u1 => ?_) (fun hk => absurd c hk)
    rw [hwn]
    have e13 : am_i σ1 m 13 = 0 := k1.2.2.1.2.1
    simp (disch := omega) only [ax_const, ax_iload, ax_lload, ax_aload, ax_istore, ax_astore, ax_iinc, ax_i2, ax_i2n, ax_l2, ax_lsh, ax_ii, ax_il, ax_li, ax_pop, ax_dup, ax_dup2, ax_if, ax_cmp, ax_acmp, ax_goto, ax_getI, ax_getR, ax_putI, ax_putR, ax_gets, ax_getsT, ax_aldI, ax_aldR, ax_astI, ax_astR, ax_alen, ax_ret, ax_aret, ax_vret, am_st, am_kl, List.getElem?_cons_zero, List.getElem?_cons_succ, List.set_cons_zero, List.set_cons_succ, Value.category, true_and, and_true, if_true, if_false, reduceCtorEq, Bool.false_eq_true, false_implies, forall_const, Option.some.injEq, exists_eq_left', exists_eq_left, Sum.inl.injEq, Sum.inr.injEq, Prod.mk.injEq, Option.toList_some, Option.toList_none, List.cons_append, List.nil_append, List.append_nil]
    refine kX10_col_32 ?_
    simp (disch := omega) only [ax_const, ax_iload, ax_lload, ax_aload, ax_istore, ax_astore, ax_iinc, ax_i2, ax_i2n, ax_l2, ax_lsh, ax_ii, ax_il, ax_li, ax_pop, ax_dup, ax_dup2, ax_if, ax_cmp, ax_acmp, ax_goto, ax_getI, ax_getR, ax_putI, ax_putR, ax_gets, ax_getsT, ax_aldI, ax_aldR, ax_astI, ax_astR, ax_alen, ax_ret, ax_aret, ax_vret, am_st, am_kl, List.getElem?_cons_zero, List.getElem?_cons_succ, List.set_cons_zero, List.set_cons_succ, Value.category, true_and, and_true, if_true, if_false, reduceCtorEq, Bool.false_eq_true, false_implies, forall_const, Option.some.injEq, exists_eq_left', exists_eq_left, Sum.inl.injEq, Sum.inr.injEq, Prod.mk.injEq, k1.1.1, e13, o1]
    refine ⟨fun _ => ?_, fun z => absurd trivial z⟩
    have ect : yp_ct ts a = xp_hd ts a - 19 := by
      unfold yp_ct
      rcases hn with e | e
      · rw [if_pos e, e]
      · rw [if_neg (by omega), if_pos e, e]
    have ect2 : ¬ xp_hd ts a - 19 = 2 := by omega
    rw [ect, if_neg ect2] at hQ
    have ebn : decide (xp_hd ts a = 19 ∨ xp_hd ts a = 20) = true := decide_eq_true hn
    refine am_callK [.ref m, .int (nI (yw_s 21))] [.ref m] (d' := 1) (lim' := (am_tp σ1, am_us σ1)) rfl (by decide) (by rw [t1]; exact Nat.le_refl _) (by rw [u1]; exact Nat.le_refl _) rfl (Nat.le_of_ble_eq_true rfl) (am_recv k1.1.1) ?_
    refine c_ytsign k1 hlt (by decide) (by decide) (fun hc1 σ2 k2 f2 t2 u2 => ?_) (fun hc1 σ2 k2 f2 t2 u2 => ?_)
    · have hlt2 := hEN.lt (a := a + 1) (by rw [hc1]; decide)
      have ec1 : yp_c1 ts a = a + 2 := by unfold yp_c1; rw [if_pos hn, if_pos hc1]
      have ecb : yp_cb ts a = false := by unfold yp_cb; rw [ebn, decide_eq_true hc1]; rfl
      simp (disch := omega) only [ax_const, ax_iload, ax_lload, ax_aload, ax_istore, ax_astore, ax_iinc, ax_i2, ax_i2n, ax_l2, ax_lsh, ax_ii, ax_il, ax_li, ax_pop, ax_dup, ax_dup2, ax_if, ax_cmp, ax_acmp, ax_goto, ax_getI, ax_getR, ax_putI, ax_putR, ax_gets, ax_getsT, ax_aldI, ax_aldR, ax_astI, ax_astR, ax_alen, ax_ret, ax_aret, ax_vret, am_st, am_kl, List.getElem?_cons_zero, List.getElem?_cons_succ, List.set_cons_zero, List.set_cons_succ, Value.category, true_and, and_true, if_true, if_false, reduceCtorEq, Bool.false_eq_true, false_implies, forall_const, Option.some.injEq, exists_eq_left', exists_eq_left, Sum.inl.injEq, Sum.inr.injEq, Prod.mk.injEq, Option.toList_some, Option.toList_none, List.cons_append, List.nil_append, List.append_nil, o1]
      intro _
      have := ycol_59 (g := g) (l := l) (d := 2) (b1 := false) (n1 := 1) (tv := nI (xp_hd ts a - 19)) (z1 := none) (z2 := none) (Q := Q) (by decide) k2 hlt2 (fun σ3 k3 f3 => by
        rw [show a + 1 + 1 = a + 2 by omega, ← ec1] at k3 ⊢
        exact hQ σ3 (by unfold yp_ca yp_cx; rw [ecb]; exact k3) ((f1.tr f2).tr f3))
      rw [t2, u2, t1, u1] at this
      exact this
    · have ec1 : yp_c1 ts a = a + 1 := by unfold yp_c1; rw [if_pos hn, if_neg hc1]
      have ecb : yp_cb ts a = true := by unfold yp_cb; rw [ebn, decide_eq_false hc1]; rfl
      simp (disch := omega) only [ax_const, ax_iload, ax_lload, ax_aload, ax_istore, ax_astore, ax_iinc, ax_i2, ax_i2n, ax_l2, ax_lsh, ax_ii, ax_il, ax_li, ax_pop, ax_dup, ax_dup2, ax_if, ax_cmp, ax_acmp, ax_goto, ax_getI, ax_getR, ax_putI, ax_putR, ax_gets, ax_getsT, ax_aldI, ax_aldR, ax_astI, ax_astR, ax_alen, ax_ret, ax_aret, ax_vret, am_st, am_kl, List.getElem?_cons_zero, List.getElem?_cons_succ, List.set_cons_zero, List.set_cons_succ, Value.category, true_and, and_true, if_true, if_false, reduceCtorEq, Bool.false_eq_true, false_implies, forall_const, Option.some.injEq, exists_eq_left', exists_eq_left, Sum.inl.injEq, Sum.inr.injEq, Prod.mk.injEq, Option.toList_some, Option.toList_none, List.cons_append, List.nil_append, List.append_nil]
      refine ⟨?_, fun z => absurd trivial z⟩
      have := ycol_59 (g := g) (l := l) (d := 2) (b1 := true) (n1 := 1) (tv := nI (xp_hd ts a - 19)) (z1 := none) (z2 := none) (Q := Q) (by decide) k2 hlt (fun σ3 k3 f3 => by
        rw [← ec1] at k3 ⊢
        exact hQ σ3 (by unfold yp_ca yp_cx; rw [ecb]; exact k3) ((f1.tr f2).tr f3))
      rw [t2, u2, t1, u1] at this
      exact this
  · have hn : ¬ (xp_hd ts a = 19 ∨ xp_hd ts a = 20) := fun e => c (hok.name.mpr e)
    have ect : yp_ct ts a = 2 := by unfold yp_ct; rw [if_neg (fun e => hn (Or.inl e)), if_neg (fun e => hn (Or.inr e))]
    have ec1 : yp_c1 ts a = a := by unfold yp_c1; rw [if_neg hn]
    have ecb : yp_cb ts a = false := by unfold yp_cb; rw [decide_eq_false hn]; rfl
    have e13 : am_i σ m 13 = 0 := hP.2.1
    rw [ect, if_pos rfl] at hQ
    simp (disch := omega) only [ax_const, ax_iload, ax_lload, ax_aload, ax_istore, ax_astore, ax_iinc, ax_i2, ax_i2n, ax_l2, ax_lsh, ax_ii, ax_il, ax_li, ax_pop, ax_dup, ax_dup2, ax_if, ax_cmp, ax_acmp, ax_goto, ax_getI, ax_getR, ax_putI, ax_putR, ax_gets, ax_getsT, ax_aldI, ax_aldR, ax_astI, ax_astR, ax_alen, ax_ret, ax_aret, ax_vret, am_st, am_kl, List.getElem?_cons_zero, List.getElem?_cons_succ, List.set_cons_zero, List.set_cons_succ, Value.category, true_and, and_true, if_true, if_false, reduceCtorEq, Bool.false_eq_true, false_implies, forall_const, Option.some.injEq, exists_eq_left', exists_eq_left, Sum.inl.injEq, Sum.inr.injEq, Prod.mk.injEq]
    refine ⟨kX10_col_32 ?_, fun z => absurd trivial z⟩
    simp (disch := omega) only [ax_const, ax_iload, ax_lload, ax_aload, ax_istore, ax_astore, ax_iinc, ax_i2, ax_i2n, ax_l2, ax_lsh, ax_ii, ax_il, ax_li, ax_pop, ax_dup, ax_dup2, ax_if, ax_cmp, ax_acmp, ax_goto, ax_getI, ax_getR, ax_putI, ax_putR, ax_gets, ax_getsT, ax_aldI, ax_aldR, ax_astI, ax_astR, ax_alen, ax_ret, ax_aret, ax_vret, am_st, am_kl, List.getElem?_cons_zero, List.getElem?_cons_succ, List.set_cons_zero, List.set_cons_succ, Value.category, true_and, and_true, if_true, if_false, reduceCtorEq, Bool.false_eq_true, false_implies, forall_const, Option.some.injEq, exists_eq_left', exists_eq_left, Sum.inl.injEq, Sum.inr.injEq, Prod.mk.injEq, hH.1, e13]
    refine ⟨⟨?_, fun z => absurd trivial z⟩, fun z => absurd trivial z⟩
    exact ycol_59 (d := 2) (b1 := false) (tv := -1) (by decide) h ha (fun σ3 k3 f3 => by
      rw [← ec1] at k3 ⊢
      refine hQ σ3 ?_ f3
      unfold yp_ca yp_cx
      rw [ecb]
      exact k3)
