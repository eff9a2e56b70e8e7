/-! the reference's parser: operand, operator -/
theorem yp_ca_lt2 {ts : List (Nat × Int32)} (hEN : xp_EN ts) {a : Nat} (ha : a < ts.length) : yp_ca ts a < ts.length := by
  have h1 : yp_c1 ts a < ts.length := by
    unfold yp_c1
    split
    · rename_i h
      have h2 := hEN.lt (a := a) (by omega)
      split
      · rename_i h3
        exact hEN.lt (a := a + 1) (by rw [h3]; decide)
      · exact h2
    · exact ha
  unfold yp_ca
  split
  · rename_i h
    refine hEN.lt (a := yp_c1 ts a) (fun e => ?_)
    rw [e] at h
    cases h
  · exact h1
/-- with a place within, and room -/
def yp_I (ts : List (Nat × Int32)) (S : yp_S) (h : Nat) : Prop := S.1 < ts.length ∧ S.2.2.1.length + S.2.2.2.1.length + h + 1 ≤ S.1 + (if S.2.1 = true then 1 else 0)
theorem yp_sgs_I {ts : List (Nat × Int32)} {S : yp_S} {h : Nat} (hI : yp_I ts S h) : yp_I ts (yp_sgs S) h := by
  have := ysg_len S.2.2.2.1 S.2.2.2.2.1 S.2.2.1
  obtain ⟨h1, h2⟩ := hI
  exact ⟨h1, by show (yp_sg S.2.2.2.1 S.2.2.2.2.1 S.2.2.1).1.length + (yp_sg S.2.2.2.1 S.2.2.2.2.1 S.2.2.1).2.1.length + h + 1 ≤ S.1 + (if S.2.1 = true then 1 else 0); omega⟩
theorem yp_rand_I {ts : List (Nat × Int32)} {ou : Int32} {S : yp_S} {h : Nat} (hEN : xp_EN ts) (hI : yp_I ts S h) (hb : S.2.1 = false) : yp_I ts (yp_rand ts ou S) h := by
  obtain ⟨h1, h2⟩ := hI
  rw [hb, if_neg (by decide)] at h2
  unfold yp_rand
  split
  · rename_i q
    refine ⟨hEN.lt (a := S.1) (by omega), ?_⟩
    show S.2.2.1.length + (_ :: S.2.2.2.1).length + h + 1 ≤ S.1 + 1 + _
    rw [List.length_cons]
    omega
  · split
    · rename_i q
      refine yp_sgs_I ⟨hEN.lt (a := S.1) (by omega), ?_⟩
      show (S.2.2.1 ++ [(1, xp_nm ts S.1)]).length + S.2.2.2.1.length + h + 1 ≤ S.1 + 1 + _
      rw [List.length_append]
      simp only [List.length_cons, List.length_nil]
      omega
    · refine yp_sgs_I ⟨yp_ca_lt2 hEN h1, ?_⟩
      show (S.2.2.1 ++ [(2, nI (yp_co ts S.1))]).length + S.2.2.2.1.length + h + 1 ≤ yp_ca ts S.1 + (if (S.2.1 || yp_cx ts S.1) = true then 1 else 0)
      have := yp_ca_ge ts S.1
      rw [List.length_append, hb, Bool.false_or]
      simp only [List.length_cons, List.length_nil]
      cases hcx : yp_cx ts S.1 with
      | true => rw [if_pos rfl]; omega
      | false =>
        have h3 : yp_isW (xp_hd ts (yp_c1 ts S.1)) = true := by
          unfold yp_cx at hcx
          rw [Bool.or_eq_false_iff] at hcx
          have : 15 ≤ xp_hd ts (yp_c1 ts S.1) ∧ xp_hd ts (yp_c1 ts S.1) ≤ 18 := by simpa using hcx.2
          unfold yp_isW
          rw [decide_eq_true (show xp_hd ts (yp_c1 ts S.1) < 19 by omega)]
          rfl
        have h4 : yp_ca ts S.1 = yp_c1 ts S.1 + 1 := by unfold yp_ca; rw [if_pos h3]
        have h5 := yp_c1_ge ts S.1
        rw [if_neg (by decide)]
        omega
theorem yp_pp_len (what : Nat) : ∀ (W : List Nat) (o : yp_O), (yp_pp what W o).1.length + (yp_pp what W o).2.length = o.length + W.length
  | [], o => rfl
  | w :: W, o => by
    rw [yp_pp]
    split
    · rw [yp_pp_len what W _, List.length_append]
      simp only [List.length_cons, List.length_nil]
      omega
    · rfl
theorem yp_po_len : ∀ (W : List Nat) (o : yp_O), (yp_po W o).1.length + (yp_po W o).2.length ≤ o.length + W.length
  | [], o => Nat.le_refl _
  | w :: W, o => by
    rw [yp_po]
    split
    · simp only [List.length_cons]
      omega
    · have := yp_po_len W (o ++ [(w, 0)])
      rw [List.length_append] at this
      simp only [List.length_cons, List.length_nil] at this ⊢
      omega
theorem yp_rtor_I {ts : List (Nat × Int32)} {S : yp_S} {h : Nat} (hEN : xp_EN ts) (hI : yp_I ts S h) : yp_I ts (yp_rtor ts S).2 h := by
  obtain ⟨h1, h2⟩ := hI
  unfold yp_rtor
  by_cases c : yp_wh (xp_hd ts S.1) ≠ 0
  · rw [if_pos c]
    have := yp_pp_len (yp_wh (xp_hd ts S.1)) S.2.2.2.1 S.2.2.1
    refine ⟨hEN.lt (a := S.1) (fun e => by rw [e] at c; exact c rfl), ?_⟩
    show (yp_pp (yp_wh (xp_hd ts S.1)) S.2.2.2.1 S.2.2.1).1.length + (_ :: (yp_pp (yp_wh (xp_hd ts S.1)) S.2.2.2.1 S.2.2.1).2).length + h + 1 ≤ S.1 + 1 + (if S.2.1 = true then 1 else 0)
    rw [List.length_cons]
    omega
  · rw [if_neg c]
    by_cases c2 : 13 ∈ S.2.2.2.1 ∧ xp_hd ts S.1 = 24
    · rw [if_pos c2]
      have := yp_po_len S.2.2.2.1 S.2.2.1
      refine yp_sgs_I ⟨hEN.lt (a := S.1) (by rw [c2.2]; decide), ?_⟩
      show (yp_po S.2.2.2.1 S.2.2.1).1.length + (yp_po S.2.2.2.1 S.2.2.1).2.length + h + 1 ≤ S.1 + 1 + (if S.2.1 = true then 1 else 0)
      omega
    · rw [if_neg c2]
      exact ⟨h1, h2⟩
/-- the picture, of a state -/
def yZS (σ : am_S) (m : Nat) (ts : List (Nat × Int32)) (S : yp_S) (H : List Nat) (ou : Int32) : Prop := yZ σ m ts S.1 S.2.1 S.2.2.1 S.2.2.2.1 H S.2.2.2.2.1 ou S.2.2.2.2.2
theorem yop_147 {g : am_G} {l : Launch} {σ : am_S} {m a d : Nat} {ts : List (Nat × Int32)} {b : Bool} {o : yp_O} {W H : List Nat} {ns ou : Int32} {w : Bool} {z : Option Value} {Q : Option Value → am_S → Prop} (hd : 2 ≤ d) (h : yZ σ m ts a b o W H ns ou w) (hl : o.length + W.length ≤ 99) (hl2 : W.length ≤ 82)
    (hQ : ∀ σ', yZS σ' m ts (yp_sgs (a, b, o, W, ns, w)) H ou → yb_f m σ σ' → Q none σ') : am_W g l mX10_operand d (am_tp σ, am_us σ) Q 147 [some (.ref m), z] [] σ := by
  refine kX10_operand_147 ?_
  simp (disch := omega) only [ax_const, ax_iload, ax_lload, ax_aload, ax_istore, ax_astore, ax_iinc, ax_i2, ax_i2n, ax_l2, ax_lsh, ax_ii, ax_il, ax_li, ax_pop, ax_dup, ax_dup2, ax_if, ax_cmp, ax_acmp, ax_goto, ax_getI, ax_getR, ax_putI, ax_putR, ax_gets, ax_getsT, ax_aldI, ax_aldR, ax_astI, ax_astR, ax_alen, ax_ret, ax_aret, ax_vret, am_st, am_kl, List.getElem?_cons_zero, List.getElem?_cons_succ, List.set_cons_zero, List.set_cons_succ, Value.category, true_and, and_true, if_true, if_false, reduceCtorEq, Bool.false_eq_true, false_implies, forall_const, Option.some.injEq, exists_eq_left', exists_eq_left, Sum.inl.injEq, Sum.inr.injEq, Prod.mk.injEq]
  refine am_callK [.ref m] [] (d' := 1) (lim' := (am_tp σ, am_us σ)) rfl (by omega) (Nat.le_refl _) (Nat.le_refl _) rfl (Nat.le_of_ble_eq_true rfl) (am_recv h.1.1) ?_
  refine c_ysigns h hl hl2 (fun σ' k f t u => ?_)
  simp (disch := omega) only [ax_const, ax_iload, ax_lload, ax_aload, ax_istore, ax_astore, ax_iinc, ax_i2, ax_i2n, ax_l2, ax_lsh, ax_ii, ax_il, ax_li, ax_pop, ax_dup, ax_dup2, ax_if, ax_cmp, ax_acmp, ax_goto, ax_getI, ax_getR, ax_putI, ax_putR, ax_gets, ax_getsT, ax_aldI, ax_aldR, ax_astI, ax_astR, ax_alen, ax_ret, ax_aret, ax_vret, am_st, am_kl, List.getElem?_cons_zero, List.getElem?_cons_succ, List.set_cons_zero, List.set_cons_succ, Value.category, true_and, and_true, if_true, if_false, reduceCtorEq, Bool.false_eq_true, false_implies, forall_const, Option.some.injEq, exists_eq_left', exists_eq_left, Sum.inl.injEq, Sum.inr.injEq, Prod.mk.injEq, Option.toList_some, Option.toList_none, List.cons_append, List.nil_append, List.append_nil]
  exact ⟨t, u, hQ σ' k f⟩
theorem yop_44 {g : am_G} {l : Launch} {σ : am_S} {m a d : Nat} {ts : List (Nat × Int32)} {b b' : Bool} {o : yp_O} {W H : List Nat} {ns ou : Int32} {w : Bool} {z : Option Value} {Q : Option Value → am_S → Prop} (hd : 1 ≤ d) (h : yZ σ m ts a b o W H ns ou w) (ha : a < ts.length) (hl2 : W.length < 82)
    (hQ : ∀ σ', yZ σ' m ts (a + 1) b' o ((if xp_hd ts a = 23 then 13 else 6) :: W) H (ns + 1) ou w → yb_f m σ σ' → Q none σ') : am_W g l mX10_operand d (am_tp σ, am_us σ) Q 44 [some (.ref m), z] [.int (yb b'), .ref m] σ := by
  obtain ⟨hH, hT, hP, hW, hHH⟩ := id h
  have hb01 : yb b' = 0 ∨ yb b' = 1 := by cases b' <;> decide
  have hf1 : yb_f m σ (am_wi σ m 13 (yb b')) := yb_f.rf.wf (by decide) (by decide)
  have h1 : yZ (am_wi σ m 13 (yb b')) m ts a b' o W H ns ou w := h.up hf1 (hP.bd b') hW hHH
  have t1 := hf1.tp
  have u1 := hf1.us
  have e19 : am_i (am_wi σ m 13 (yb b')) m 19 = nI W.length := h1.2.2.1.2.2.2.1.1
  refine kX10_operand_44 ?_
  simp (disch := omega) only [ax_const, ax_iload, ax_lload, ax_aload, ax_istore, ax_astore, ax_iinc, ax_i2, ax_i2n, ax_l2, ax_lsh, ax_ii, ax_il, ax_li, ax_pop, ax_dup, ax_dup2, ax_if, ax_cmp, ax_acmp, ax_goto, ax_getI, ax_getR, ax_putI, ax_putR, ax_gets, ax_getsT, ax_aldI, ax_aldR, ax_astI, ax_astR, ax_alen, ax_ret, ax_aret, ax_vret, am_st, am_kl, List.getElem?_cons_zero, List.getElem?_cons_succ, List.set_cons_zero, List.set_cons_succ, Value.category, true_and, and_true, if_true, if_false, reduceCtorEq, Bool.false_eq_true, false_implies, forall_const, Option.some.injEq, exists_eq_left', exists_eq_left, Sum.inl.injEq, Sum.inr.injEq, Prod.mk.injEq, hH.1, hH.r16, hH.s16, am_sh_wi, am_r_wi, e19]
  refine ⟨hb01, ?_⟩
  generalize am_wi σ m 13 (yb b') = σ1 at *
  have h71 : ∀ x, 3 ≤ x ∧ x ≤ 13 → x = (if xp_hd ts a = 23 then 13 else 6) → am_W g l mX10_operand d (am_tp σ, am_us σ) Q 71 [some (.ref m), z] [.int (nI x), .int (nI W.length), .ref (m + 14)] σ1 := by
    intro x hx ex
    obtain ⟨hH1, hT1, hP1, hW1, hHH1⟩ := id h1
    have e21 : am_i σ1 m 21 = ns := hP1.2.2.2.2.2.1
    have e12 : am_i σ1 m 12 = nI a := hP1.1
    refine kX10_operand_71 ?_
    simp (disch := omega) only [ax_const, ax_iload, ax_lload, ax_aload, ax_istore, ax_astore, ax_iinc, ax_i2, ax_i2n, ax_l2, ax_lsh, ax_ii, ax_il, ax_li, ax_pop, ax_dup, ax_dup2, ax_if, ax_cmp, ax_acmp, ax_goto, ax_getI, ax_getR, ax_putI, ax_putR, ax_gets, ax_getsT, ax_aldI, ax_aldR, ax_astI, ax_astR, ax_alen, ax_ret, ax_aret, ax_vret, am_st, am_kl, List.getElem?_cons_zero, List.getElem?_cons_succ, List.set_cons_zero, List.set_cons_succ, Value.category, true_and, and_true, if_true, if_false, reduceCtorEq, Bool.false_eq_true, false_implies, forall_const, Option.some.injEq, exists_eq_left', exists_eq_left, Sum.inl.injEq, Sum.inr.injEq, Prod.mk.injEq, nI_toInt, nI_clamp, am_ix_nI, am_ix_0, am_ix_1, am_ix_2, am_ix_3, am_n0, am_n1, am_n2, am_n3, am_n4, am_t0, am_t1, am_t2, am_t3, am_t4, am_tm1, am_nS, am_nP, am_nM, Int.ofNat_lt, Int.ofNat_le, am_sh_wi, am_r_wi, am_tp_wi, am_us_wi, ym_is, ym_io, ym_ij, hH1.1, hH1.r16, hH1.s16, e19, e21, e12]
    have hf2 : yb_f m σ1 (am_wi (am_wi (am_wi (am_wi σ1 (m + 14) W.length (nI x)) m 19 (nI (W.length + 1))) m 21 (ns + 1)) m 12 (nI (a + 1))) := (((yb_f.rf.wa (by omega) (by omega)).wf (by decide) (by decide)).wf (by decide) (by decide)).wf (by decide) (by decide)
    refine ⟨hl2, t1, u1, hQ _ ?_ (hf1.tr hf2)⟩
    rw [← ex]
    exact h1.up hf2 (((hP1.push).nsw (ns + 1)).at (a + 1)) (fun y hy => (List.mem_cons.mp hy).elim (fun e => by rw [e]; exact hx) (hW y)) hHH
  refine am_callK [.ref m, .int (nI (yw_s 23))] [.int (nI W.length), .ref (m + 14)] (d' := 0) (lim' := (am_tp σ1, am_us σ1)) rfl (by omega) (by rw [t1]; exact Nat.le_refl _) (by rw [u1]; exact Nat.le_refl _) rfl (Nat.le_of_ble_eq_true rfl) (am_recv h1.1.1) ?_
  refine c_ysign h1 ha (by decide) (by decide) (fun _ _ => ?_)
  by_cases c : xp_hd ts a = 23
  · rw [if_pos c]
    have o1 : ¬ (1 : Int32) = 0 := by decide
    simp (disch := omega) only [ax_const, ax_iload, ax_lload, ax_aload, ax_istore, ax_astore, ax_iinc, ax_i2, ax_i2n, ax_l2, ax_lsh, ax_ii, ax_il, ax_li, ax_pop, ax_dup, ax_dup2, ax_if, ax_cmp, ax_acmp, ax_goto, ax_getI, ax_getR, ax_putI, ax_putR, ax_gets, ax_getsT, ax_aldI, ax_aldR, ax_astI, ax_astR, ax_alen, ax_ret, ax_aret, ax_vret, am_st, am_kl, List.getElem?_cons_zero, List.getElem?_cons_succ, List.set_cons_zero, List.set_cons_succ, Value.category, true_and, and_true, if_true, if_false, reduceCtorEq, Bool.false_eq_true, false_implies, forall_const, Option.some.injEq, exists_eq_left', exists_eq_left, Sum.inl.injEq, Sum.inr.injEq, Prod.mk.injEq, Option.toList_some, Option.toList_none, List.cons_append, List.nil_append, List.append_nil, o1]
    exact fun _ => h71 13 (by decide) (by rw [if_pos c])
  · rw [if_neg c]
    simp (disch := omega) only [ax_const, ax_iload, ax_lload, ax_aload, ax_istore, ax_astore, ax_iinc, ax_i2, ax_i2n, ax_l2, ax_lsh, ax_ii, ax_il, ax_li, ax_pop, ax_dup, ax_dup2, ax_if, ax_cmp, ax_acmp, ax_goto, ax_getI, ax_getR, ax_putI, ax_putR, ax_gets, ax_getsT, ax_aldI, ax_aldR, ax_astI, ax_astR, ax_alen, ax_ret, ax_aret, ax_vret, am_st, am_kl, List.getElem?_cons_zero, List.getElem?_cons_succ, List.set_cons_zero, List.set_cons_succ, Value.category, true_and, and_true, if_true, if_false, reduceCtorEq, Bool.false_eq_true, false_implies, forall_const, Option.some.injEq, exists_eq_left', exists_eq_left, Sum.inl.injEq, Sum.inr.injEq, Prod.mk.injEq, Option.toList_some, Option.toList_none, List.cons_append, List.nil_append, List.append_nil]
    exact ⟨h71 6 (by decide) (by rw [if_neg c]), fun z => absurd trivial z⟩
theorem yop_18 {g : am_G} {l : Launch} {σ : am_S} {m a d : Nat} {ts : List (Nat × Int32)} {o : yp_O} {W H : List Nat} {ns ou : Int32} {w : Bool} {z : Option Value} {Q : Option Value → am_S → Prop} (hd : 1 ≤ d) (h : yZ σ m ts a false o W H ns ou w) (ha : a < ts.length) (hl2 : W.length < 82)
    (hQ : ∀ σ', yZ σ' m ts (a + 1) (decide (5 < (ns + ou).toInt)) o ((if xp_hd ts a = 23 then 13 else 6) :: W) H (ns + 1) ou w → yb_f m σ σ' → Q none σ') : am_W g l mX10_operand d (am_tp σ, am_us σ) Q 18 [some (.ref m), z] [] σ := by
  obtain ⟨hH, hT, hP, hW, hHH⟩ := id h
  have e13 : am_i σ m 13 = 0 := hP.2.1
  have e21 : am_i σ m 21 = ns := hP.2.2.2.2.2.1
  have e22 : am_i σ m 22 = ou := hP.2.2.2.2.2.2.1
  have e5 : Int32.toInt 5 = 5 := rfl
  refine kX10_operand_18 ?_
  simp (disch := omega) only [ax_const, ax_iload, ax_lload, ax_aload, ax_istore, ax_astore, ax_iinc, ax_i2, ax_i2n, ax_l2, ax_lsh, ax_ii, ax_il, ax_li, ax_pop, ax_dup, ax_dup2, ax_if, ax_cmp, ax_acmp, ax_goto, ax_getI, ax_getR, ax_putI, ax_putR, ax_gets, ax_getsT, ax_aldI, ax_aldR, ax_astI, ax_astR, ax_alen, ax_ret, ax_aret, ax_vret, am_st, am_kl, List.getElem?_cons_zero, List.getElem?_cons_succ, List.set_cons_zero, List.set_cons_succ, Value.category, true_and, and_true, if_true, if_false, reduceCtorEq, Bool.false_eq_true, false_implies, forall_const, Option.some.injEq, exists_eq_left', exists_eq_left, Sum.inl.injEq, Sum.inr.injEq, Prod.mk.injEq, hH.1, e13, e21, e22, e5]
  refine ⟨⟨fun c => yop_44 (b' := true) hd h ha hl2 ?_, fun c => yop_44 (b' := false) hd h ha hl2 ?_⟩, fun z => absurd trivial z⟩
  · rwa [decide_eq_true c] at hQ
  · rwa [decide_eq_false c] at hQ
theorem c_yoperand {g : am_G} {l : Launch} {σ : am_S} {m : Nat} {ts : List (Nat × Int32)} {S : yp_S} {H : List Nat} {ou : Int32} {Q : Option Value → am_S → Prop} (hEN : xp_EN ts) (h : yZS σ m ts S H ou) (hI : yp_I ts S H.length) (hb : S.2.1 = false) (hw : S.2.2.2.2.2 = true)
    (hQ : ∀ σ', yZS σ' m ts (yp_rand ts ou S) H ou → yb_f m σ σ' → Q none σ') : am_C g l mX10_operand 3 (am_tp σ, am_us σ) [.ref m] σ Q := by
  obtain ⟨a, b, o, W, ns, w⟩ := S
  have hb : b = false := hb
  have hw : w = true := hw
  subst hb
  subst hw
  have h : yZ σ m ts a false o W H ns ou true := h
  obtain ⟨ha, hI2⟩ := hI
  have ha : a < ts.length := ha
  have hI2 : o.length + W.length + H.length + 1 ≤ a + (if false = true then 1 else 0) := hI2
  rw [if_neg (by decide)] at hI2
  obtain ⟨hH, hT, hP, hW, hHH⟩ := id h
  have hl := hT.1
  have hok := hT.2 a ha
  have o1 : ¬ (1 : Int32) = 0 := by decide
  unfold yp_rand at hQ
  dsimp only at hQ
  refine am_C.go [some (.ref m), none] (by decide +kernel) (Nat.le_of_ble_eq_true rfl) rfl (kX10_operand_0 ?_)
  simp (disch := omega) only [ax_const, ax_iload, ax_lload, ax_aload, ax_istore, ax_astore, ax_iinc, ax_i2, ax_i2n, ax_l2, ax_lsh, ax_ii, ax_il, ax_li, ax_pop, ax_dup, ax_dup2, ax_if, ax_cmp, ax_acmp, ax_goto, ax_getI, ax_getR, ax_putI, ax_putR, ax_gets, ax_getsT, ax_aldI, ax_aldR, ax_astI, ax_astR, ax_alen, ax_ret, ax_aret, ax_vret, am_st, am_kl, List.getElem?_cons_zero, List.getElem?_cons_succ, List.set_cons_zero, List.set_cons_succ, Value.category, true_and, and_true, if_true, if_false, reduceCtorEq, Bool.false_eq_true, false_implies, forall_const, Option.some.injEq, exists_eq_left', exists_eq_left, Sum.inl.injEq, Sum.inr.injEq, Prod.mk.injEq]
  refine am_callK [.ref m, .int (nI (yw_s 23))] [] (d' := 0) (lim' := (am_tp σ, am_us σ)) rfl (by decide) (Nat.le_refl _) (Nat.le_refl _) rfl (Nat.le_of_ble_eq_true rfl) (am_recv hH.1) ?_
  refine c_ysign h ha (by decide) (by decide) (fun _ _ => ?_)
  by_cases c23 : xp_hd ts a = 23
  · rw [if_pos (Or.inl c23)] at hQ
    rw [if_pos c23]
    simp (disch := omega) only [ax_const, ax_iload, ax_lload, ax_aload, ax_istore, ax_astore, ax_iinc, ax_i2, ax_i2n, ax_l2, ax_lsh, ax_ii, ax_il, ax_li, ax_pop, ax_dup, ax_dup2, ax_if, ax_cmp, ax_acmp, ax_goto, ax_getI, ax_getR, ax_putI, ax_putR, ax_gets, ax_getsT, ax_aldI, ax_aldR, ax_astI, ax_astR, ax_alen, ax_ret, ax_aret, ax_vret, am_st, am_kl, List.getElem?_cons_zero, List.getElem?_cons_succ, List.set_cons_zero, List.set_cons_succ, Value.category, true_and, and_true, if_true, if_false, reduceCtorEq, Bool.false_eq_true, false_implies, forall_const, Option.some.injEq, exists_eq_left', exists_eq_left, Sum.inl.injEq, Sum.inr.injEq, Prod.mk.injEq, Option.toList_some, Option.toList_none, List.cons_append, List.nil_append, List.append_nil, o1]
    exact fun _ => yop_18 (by decide) h ha (by omega) hQ
  · rw [if_neg c23]
    simp (disch := omega) only [ax_const, ax_iload, ax_lload, ax_aload, ax_istore, ax_astore, ax_iinc, ax_i2, ax_i2n, ax_l2, ax_lsh, ax_ii, ax_il, ax_li, ax_pop, ax_dup, ax_dup2, ax_if, ax_cmp, ax_acmp, ax_goto, ax_getI, ax_getR, ax_putI, ax_putR, ax_gets, ax_getsT, ax_aldI, ax_aldR, ax_astI, ax_astR, ax_alen, ax_ret, ax_aret, ax_vret, am_st, am_kl, List.getElem?_cons_zero, List.getElem?_cons_succ, List.set_cons_zero, List.set_cons_succ, Value.category, true_and, and_true, if_true, if_false, reduceCtorEq, Bool.false_eq_true, false_implies, forall_const, Option.some.injEq, exists_eq_left', exists_eq_left, Sum.inl.injEq, Sum.inr.injEq, Prod.mk.injEq, Option.toList_some, Option.toList_none, List.cons_append, List.nil_append, List.append_nil]
    refine ⟨?_, fun z => absurd trivial z⟩
    refine am_callK [.ref m, .int (nI (yw_s 28))] [] (d' := 0) (lim' := (am_tp σ, am_us σ)) rfl (by decide) (Nat.le_refl _) (Nat.le_refl _) rfl (Nat.le_of_ble_eq_true rfl) (am_recv hH.1) ?_
    refine c_ysign h ha (by decide) (by decide) (fun _ _ => ?_)
    by_cases c28 : xp_hd ts a = 28
    · rw [if_pos (Or.inr c28)] at hQ
      rw [if_pos c28]
      simp (disch := omega) only [ax_const, ax_iload, ax_lload, ax_aload, ax_istore, ax_astore, ax_iinc, ax_i2, ax_i2n, ax_l2, ax_lsh, ax_ii, ax_il, ax_li, ax_pop, ax_dup, ax_dup2, ax_if, ax_cmp, ax_acmp, ax_goto, ax_getI, ax_getR, ax_putI, ax_putR, ax_gets, ax_getsT, ax_aldI, ax_aldR, ax_astI, ax_astR, ax_alen, ax_ret, ax_aret, ax_vret, am_st, am_kl, List.getElem?_cons_zero, List.getElem?_cons_succ, List.set_cons_zero, List.set_cons_succ, Value.category, true_and, and_true, if_true, if_false, reduceCtorEq, Bool.false_eq_true, false_implies, forall_const, Option.some.injEq, exists_eq_left', exists_eq_left, Sum.inl.injEq, Sum.inr.injEq, Prod.mk.injEq, Option.toList_some, Option.toList_none, List.cons_append, List.nil_append, List.append_nil, o1]
      exact fun _ => yop_18 (by decide) h ha (by omega) hQ
    · rw [if_neg (fun e => e.elim c23 c28)] at hQ
      rw [if_neg c28]
      have hf1 : yb_f m σ (am_wi σ m 23 (yb false)) := yb_f.rf.wf (by decide) (by decide)
      have h1 : yZ (am_wi σ m 23 (yb false)) m ts a false o W H ns ou false := h.up hf1 (hP.wt false) hW hHH
      have t1 := hf1.tp
      have u1 := hf1.us
      have e9 : am_i (am_wi σ m 23 (yb false)) (m + 10) a = am_i σ (m + 10) a := ym_io (by omega)
      have e11 : am_i (am_wi σ m 23 (yb false)) (m + 11) a = am_i σ (m + 11) a := ym_io (by omega)
      have e12 : am_i (am_wi σ m 23 (yb false)) m 12 = nI a := h1.2.2.1.1
      have y0 : (0 : Int32) = yb false := rfl
      simp (disch := omega) only [ax_const, ax_iload, ax_lload, ax_aload, ax_istore, ax_astore, ax_iinc, ax_i2, ax_i2n, ax_l2, ax_lsh, ax_ii, ax_il, ax_li, ax_pop, ax_dup, ax_dup2, ax_if, ax_cmp, ax_acmp, ax_goto, ax_getI, ax_getR, ax_putI, ax_putR, ax_gets, ax_getsT, ax_aldI, ax_aldR, ax_astI, ax_astR, ax_alen, ax_ret, ax_aret, ax_vret, am_st, am_kl, List.getElem?_cons_zero, List.getElem?_cons_succ, List.set_cons_zero, List.set_cons_succ, Value.category, true_and, and_true, if_true, if_false, reduceCtorEq, Bool.false_eq_true, false_implies, forall_const, Option.some.injEq, exists_eq_left', exists_eq_left, Sum.inl.injEq, Sum.inr.injEq, Prod.mk.injEq, Option.toList_some, Option.toList_none, List.cons_append, List.nil_append, List.append_nil]
      rw [y0]
      refine ⟨⟨hH.1, Or.inl trivial, ?_⟩, fun z => absurd trivial z⟩
      generalize am_wi σ m 23 (yb false) = σ1 at *
      have hH1 := h1.1
      simp (disch := omega) only [ax_const, ax_iload, ax_lload, ax_aload, ax_istore, ax_astore, ax_iinc, ax_i2, ax_i2n, ax_l2, ax_lsh, ax_ii, ax_il, ax_li, ax_pop, ax_dup, ax_dup2, ax_if, ax_cmp, ax_acmp, ax_goto, ax_getI, ax_getR, ax_putI, ax_putR, ax_gets, ax_getsT, ax_aldI, ax_aldR, ax_astI, ax_astR, ax_alen, ax_ret, ax_aret, ax_vret, am_st, am_kl, List.getElem?_cons_zero, List.getElem?_cons_succ, List.set_cons_zero, List.set_cons_succ, Value.category, true_and, and_true, if_true, if_false, reduceCtorEq, Bool.false_eq_true, false_implies, forall_const, Option.some.injEq, exists_eq_left', exists_eq_left, Sum.inl.injEq, Sum.inr.injEq, Prod.mk.injEq, nI_toInt, nI_clamp, am_ix_nI, am_ix_0, am_ix_1, am_ix_2, am_ix_3, am_n0, am_n1, am_n2, am_n3, am_n4, am_t0, am_t1, am_t2, am_t3, am_t4, am_tm1, am_nS, am_nP, am_nM, Int.ofNat_lt, Int.ofNat_le, hH1.1, hH1.r9, hH1.s9, e12, e9]
      refine ⟨by omega, fun k3 => ?_, fun k3 => ?_⟩
      · have h33 := hok.num.mp k3
        rw [if_pos h33] at hQ
        refine am_callK [.ref m, .int 3] [] (d' := 0) (lim' := (am_tp σ1, am_us σ1)) rfl (by decide) (by rw [t1]; exact Nat.le_refl _) (by rw [u1]; exact Nat.le_refl _) rfl (by decide) (am_recv hH1.1) ?_
        refine c_ytake h1 ha (fun _ σ2 k2 f2 t2 u2 => ?_) (fun hk => absurd (e9.trans k3) hk)
        rw [e11, hok.wi h33]
        simp (disch := omega) only [ax_const, ax_iload, ax_lload, ax_aload, ax_istore, ax_astore, ax_iinc, ax_i2, ax_i2n, ax_l2, ax_lsh, ax_ii, ax_il, ax_li, ax_pop, ax_dup, ax_dup2, ax_if, ax_cmp, ax_acmp, ax_goto, ax_getI, ax_getR, ax_putI, ax_putR, ax_gets, ax_getsT, ax_aldI, ax_aldR, ax_astI, ax_astR, ax_alen, ax_ret, ax_aret, ax_vret, am_st, am_kl, List.getElem?_cons_zero, List.getElem?_cons_succ, List.set_cons_zero, List.set_cons_succ, Value.category, true_and, and_true, if_true, if_false, reduceCtorEq, Bool.false_eq_true, false_implies, forall_const, Option.some.injEq, exists_eq_left', exists_eq_left, Sum.inl.injEq, Sum.inr.injEq, Prod.mk.injEq, Option.toList_some, Option.toList_none, List.cons_append, List.nil_append, List.append_nil]
        have t2' := t2.trans t1
        have u2' := u2.trans u1
        refine am_callK [.ref m, .int (nI 1), .int (yκ (1, xp_nm ts a))] [] (d' := 0) (lim' := (am_tp σ2, am_us σ2)) rfl (by decide) (by rw [t2']; exact Nat.le_refl _) (by rw [u2']; exact Nat.le_refl _) rfl (by decide) (am_recv k2.1.1) ?_
        refine c_yemit (q := (1, xp_nm ts a)) k2 (by omega) (show (1 : Nat) < 100 by decide) (fun σ3 k3 f3 t3 u3 => ?_)
        simp (disch := omega) only [ax_const, ax_iload, ax_lload, ax_aload, ax_istore, ax_astore, ax_iinc, ax_i2, ax_i2n, ax_l2, ax_lsh, ax_ii, ax_il, ax_li, ax_pop, ax_dup, ax_dup2, ax_if, ax_cmp, ax_acmp, ax_goto, ax_getI, ax_getR, ax_putI, ax_putR, ax_gets, ax_getsT, ax_aldI, ax_aldR, ax_astI, ax_astR, ax_alen, ax_ret, ax_aret, ax_vret, am_st, am_kl, List.getElem?_cons_zero, List.getElem?_cons_succ, List.set_cons_zero, List.set_cons_succ, Value.category, true_and, and_true, if_true, if_false, reduceCtorEq, Bool.false_eq_true, false_implies, forall_const, Option.some.injEq, exists_eq_left', exists_eq_left, Sum.inl.injEq, Sum.inr.injEq, Prod.mk.injEq, Option.toList_some, Option.toList_none, List.cons_append, List.nil_append, List.append_nil]
        have := yop_147 (g := g) (l := l) (d := 3) (z := some (.int (xp_nm ts a))) (Q := Q) (by decide) k3 (by rw [List.length_append]; simp; omega) (by omega) (fun σ4 k4 f4 => hQ σ4 k4 (((hf1.tr f2).tr f3).tr f4))
        rw [t3, u3, t2', u2'] at this
        exact this
      · have h33 : xp_hd ts a ≠ 33 := fun e => k3 (hok.num.mpr e)
        rw [if_neg h33] at hQ
        refine am_callK [.ref m] [] (d' := 2) (lim' := (am_tp σ1, am_us σ1)) rfl (by decide) (by rw [t1]; exact Nat.le_refl _) (by rw [u1]; exact Nat.le_refl _) rfl (by decide) (am_recv hH1.1) ?_
        refine c_ycol hEN h1 ha (fun σ2 k2 f2 t2 u2 => ?_)
        simp (disch := omega) only [ax_const, ax_iload, ax_lload, ax_aload, ax_istore, ax_astore, ax_iinc, ax_i2, ax_i2n, ax_l2, ax_lsh, ax_ii, ax_il, ax_li, ax_pop, ax_dup, ax_dup2, ax_if, ax_cmp, ax_acmp, ax_goto, ax_getI, ax_getR, ax_putI, ax_putR, ax_gets, ax_getsT, ax_aldI, ax_aldR, ax_astI, ax_astR, ax_alen, ax_ret, ax_aret, ax_vret, am_st, am_kl, List.getElem?_cons_zero, List.getElem?_cons_succ, List.set_cons_zero, List.set_cons_succ, Value.category, true_and, and_true, if_true, if_false, reduceCtorEq, Bool.false_eq_true, false_implies, forall_const, Option.some.injEq, exists_eq_left', exists_eq_left, Sum.inl.injEq, Sum.inr.injEq, Prod.mk.injEq, Option.toList_some, Option.toList_none, List.cons_append, List.nil_append, List.append_nil]
        have t2' := t2.trans t1
        have u2' := u2.trans u1
        refine am_callK [.ref m, .int (nI 2), .int (yκ (2, nI (yp_co ts a)))] [] (d' := 0) (lim' := (am_tp σ2, am_us σ2)) rfl (by decide) (by rw [t2']; exact Nat.le_refl _) (by rw [u2']; exact Nat.le_refl _) rfl (by decide) (am_recv k2.1.1) ?_
        refine c_yemit (q := (2, nI (yp_co ts a))) k2 (by omega) (show (2 : Nat) < 100 by decide) (fun σ3 k3 f3 t3 u3 => ?_)
        simp (disch := omega) only [ax_const, ax_iload, ax_lload, ax_aload, ax_istore, ax_astore, ax_iinc, ax_i2, ax_i2n, ax_l2, ax_lsh, ax_ii, ax_il, ax_li, ax_pop, ax_dup, ax_dup2, ax_if, ax_cmp, ax_acmp, ax_goto, ax_getI, ax_getR, ax_putI, ax_putR, ax_gets, ax_getsT, ax_aldI, ax_aldR, ax_astI, ax_astR, ax_alen, ax_ret, ax_aret, ax_vret, am_st, am_kl, List.getElem?_cons_zero, List.getElem?_cons_succ, List.set_cons_zero, List.set_cons_succ, Value.category, true_and, and_true, if_true, if_false, reduceCtorEq, Bool.false_eq_true, false_implies, forall_const, Option.some.injEq, exists_eq_left', exists_eq_left, Sum.inl.injEq, Sum.inr.injEq, Prod.mk.injEq, Option.toList_some, Option.toList_none, List.cons_append, List.nil_append, List.append_nil]
        have := yop_147 (g := g) (l := l) (d := 3) (z := some (.int (yκ (2, nI (yp_co ts a))))) (Q := Q) (by decide) k3 (by rw [List.length_append]; simp; omega) (by omega) (fun σ4 k4 f4 => hQ σ4 (by rw [Bool.false_or]; exact k4) (((hf1.tr f2).tr f3).tr f4))
        rw [t3, u3, t2', u2'] at this
        exact this
