/-! x: the rows that a select looks at, and the select -/
theorem c_xlks {g : am_G} {l : Launch} {σ : am_S} {X f s lab : Nat} {two : Bool} {D : xx_D} {Q : Option Value → am_S → Prop} (h : xx_O g σ X D) (h3 : am_i σ (X + 54) 3 = nI f) (h4 : am_i σ (X + 54) 4 = if two = true then nI s else -1) (hf : f < 2) (hs : s < 2) (hlab : lab < 8)
    (hQ : ∀ σ', xx_O g σ' X D → (∃ p, xr_R σ' (X + 89) 48 p (xx_V D lab f)) → (two = true → ∃ p, xr_R σ' (X + 139) 48 p (xx_V D lab s)) → am_fm (fun b => X + 89 ≤ b ∧ b < X + 189) σ σ' → Q none σ') : am_C g l mX9_lookForSelection 4 (am_tp σ, am_us σ) [.ref X, .int (nI lab)] σ Q := by
  obtain ⟨⟨a1, a2, a3, a4, a5, a6, a7, a8, a9⟩, hst, hse, hT, hp, -, hl, ⟨p2, L2, hR2⟩, p3, L3, hR3⟩ := id h
  have s1 : am_sh σ (X + 54) = some (.inl 6) := hp.2.2.2.2.1.1
  refine am_C.go [some (.ref X), some (.int (nI lab))] (by decide +kernel) (Nat.le_of_ble_eq_true rfl) rfl (kX9_lookForSelection_0 ?_)
  simp (disch := omega) only [ax_const, ax_iload, ax_lload, ax_aload, ax_istore, ax_astore, ax_iinc, ax_i2, ax_i2n, ax_l2, ax_lsh, ax_ii, ax_il, ax_li, ax_pop, ax_dup, ax_dup2, ax_if, ax_cmp, ax_acmp, ax_goto, ax_getI, ax_getR, ax_putI, ax_putR, ax_gets, ax_getsT, ax_aldI, ax_aldR, ax_astI, ax_astR, ax_alen, ax_ret, ax_aret, ax_vret, am_st, am_kl, List.getElem?_cons_zero, List.getElem?_cons_succ, List.set_cons_zero, List.set_cons_succ, Value.category, true_and, and_true, if_true, if_false, reduceCtorEq, Bool.false_eq_true, false_implies, forall_const, Option.some.injEq, exists_eq_left', exists_eq_left, Sum.inl.injEq, Sum.inr.injEq, Prod.mk.injEq, a1, a5, a6, hp.1, hp.2.1, s1, h3, hl.1, hl.2.1]
  refine am_callK [.ref X, .int (nI lab), .int (nI f), .ref (X + 89)] [] (d' := 3) (lim' := (am_tp σ, am_us σ)) rfl (by decide) (Nat.le_refl _) (Nat.le_refl _) rfl (Nat.le_of_ble_eq_true rfl) (am_recv a1) ?_
  refine c_xlook h (by omega) (by omega) hlab hf hR2 (fun σ1 p1 hR1 f1 t1 u1 => ?_)
  have hO1 : xx_O g σ1 X D := h.look (Or.inr (Or.inl rfl)) f1 ⟨p1, _, hR1⟩
  obtain ⟨⟨b1, b2, b3, b4, b5, b6, b7, b8, b9⟩, hst1, hse1, hT1, hp1, -, hl1, -, p31, L31, hR31⟩ := id hO1
  have h41 : am_i σ1 (X + 54) 4 = if two = true then nI s else -1 := by rw [(f1.2.2.2 (X + 54) (by omega)).1]; exact h4
  simp (disch := omega) only [ax_const, ax_iload, ax_lload, ax_aload, ax_istore, ax_astore, ax_iinc, ax_i2, ax_i2n, ax_l2, ax_lsh, ax_ii, ax_il, ax_li, ax_pop, ax_dup, ax_dup2, ax_if, ax_cmp, ax_acmp, ax_goto, ax_getI, ax_getR, ax_putI, ax_putR, ax_gets, ax_getsT, ax_aldI, ax_aldR, ax_astI, ax_astR, ax_alen, ax_ret, ax_aret, ax_vret, am_st, am_kl, List.getElem?_cons_zero, List.getElem?_cons_succ, List.set_cons_zero, List.set_cons_succ, Value.category, true_and, and_true, if_true, if_false, reduceCtorEq, Bool.false_eq_true, false_implies, forall_const, Option.some.injEq, exists_eq_left', exists_eq_left, Sum.inl.injEq, Sum.inr.injEq, Prod.mk.injEq, Option.toList_some, Option.toList_none, List.cons_append, List.nil_append, List.append_nil, b1, b5, hp1.1, hp1.2.1]
  refine am_callK [.ref (X + 54)] [] (d' := 0) (lim' := (am_tp σ1, am_us σ1)) rfl (by decide) (Nat.le_of_eq t1) (Nat.le_of_eq u1) rfl (Nat.le_of_ble_eq_true rfl) (am_recv hp1.2.2.2.2.1.1) ?_
  refine c_stwo hp1.2.2.2.2.1 (fun _ _ => ?_)
  cases two with
  | false =>
    rw [h41, if_neg Bool.false_ne_true, if_pos rfl]
    simp (disch := omega) only [ax_const, ax_iload, ax_lload, ax_aload, ax_istore, ax_astore, ax_iinc, ax_i2, ax_i2n, ax_l2, ax_lsh, ax_ii, ax_il, ax_li, ax_pop, ax_dup, ax_dup2, ax_if, ax_cmp, ax_acmp, ax_goto, ax_getI, ax_getR, ax_putI, ax_putR, ax_gets, ax_getsT, ax_aldI, ax_aldR, ax_astI, ax_astR, ax_alen, ax_ret, ax_aret, ax_vret, am_st, am_kl, List.getElem?_cons_zero, List.getElem?_cons_succ, List.set_cons_zero, List.set_cons_succ, Value.category, true_and, and_true, if_true, if_false, reduceCtorEq, Bool.false_eq_true, false_implies, forall_const, Option.some.injEq, exists_eq_left', exists_eq_left, Sum.inl.injEq, Sum.inr.injEq, Prod.mk.injEq, Option.toList_some, Option.toList_none, List.cons_append, List.nil_append, List.append_nil]
    exact ⟨⟨t1, u1, hQ σ1 hO1 ⟨p1, hR1⟩ (fun z => by cases z) (f1.mono (fun b x => by omega))⟩, fun z => absurd trivial z⟩
  | true =>
    have o1 : ¬ (1 : Int32) = 0 := by decide
    rw [if_pos rfl] at h41
    have s11 : am_sh σ1 (X + 54) = some (.inl 6) := hp1.2.2.2.2.1.1
    rw [h41, if_neg (nI_m1 (by omega))]
    simp (disch := omega) only [ax_const, ax_iload, ax_lload, ax_aload, ax_istore, ax_astore, ax_iinc, ax_i2, ax_i2n, ax_l2, ax_lsh, ax_ii, ax_il, ax_li, ax_pop, ax_dup, ax_dup2, ax_if, ax_cmp, ax_acmp, ax_goto, ax_getI, ax_getR, ax_putI, ax_putR, ax_gets, ax_getsT, ax_aldI, ax_aldR, ax_astI, ax_astR, ax_alen, ax_ret, ax_aret, ax_vret, am_st, am_kl, List.getElem?_cons_zero, List.getElem?_cons_succ, List.set_cons_zero, List.set_cons_succ, Value.category, true_and, and_true, if_true, if_false, reduceCtorEq, Bool.false_eq_true, false_implies, forall_const, Option.some.injEq, exists_eq_left', exists_eq_left, Sum.inl.injEq, Sum.inr.injEq, Prod.mk.injEq, Option.toList_some, Option.toList_none, List.cons_append, List.nil_append, List.append_nil, o1, b1, b5, b6, hp1.1, hp1.2.1, s11, h41, hl1.1, hl1.2.2.1]
    intro _
    refine am_callK [.ref X, .int (nI lab), .int (nI s), .ref (X + 139)] [] (d' := 3) (lim' := (am_tp σ1, am_us σ1)) rfl (by decide) (Nat.le_of_eq t1) (Nat.le_of_eq u1) rfl (Nat.le_of_ble_eq_true rfl) (am_recv b1) ?_
    refine c_xlook hO1 (by omega) (by omega) hlab hs hR31 (fun σ2 p4 hR4 f2 t2 u2 => ?_)
    have hO2 : xx_O g σ2 X D := hO1.look (Or.inr (Or.inr rfl)) f2 ⟨p4, _, hR4⟩
    simp (disch := omega) only [ax_const, ax_iload, ax_lload, ax_aload, ax_istore, ax_astore, ax_iinc, ax_i2, ax_i2n, ax_l2, ax_lsh, ax_ii, ax_il, ax_li, ax_pop, ax_dup, ax_dup2, ax_if, ax_cmp, ax_acmp, ax_goto, ax_getI, ax_getR, ax_putI, ax_putR, ax_gets, ax_getsT, ax_aldI, ax_aldR, ax_astI, ax_astR, ax_alen, ax_ret, ax_aret, ax_vret, am_st, am_kl, List.getElem?_cons_zero, List.getElem?_cons_succ, List.set_cons_zero, List.set_cons_succ, Value.category, true_and, and_true, if_true, if_false, reduceCtorEq, Bool.false_eq_true, false_implies, forall_const, Option.some.injEq, exists_eq_left', exists_eq_left, Sum.inl.injEq, Sum.inr.injEq, Prod.mk.injEq, Option.toList_some, Option.toList_none, List.cons_append, List.nil_append, List.append_nil]
    exact ⟨t2.trans t1, u2.trans u1, hQ σ2 hO2 ⟨p1, hR1.fm f2 (fun b x y => by omega)⟩ (fun _ => ⟨p4, hR4⟩) (am_fm.tr (P := fun b => X + 89 ≤ b ∧ b < X + 189) (f1.mono (fun b x => by omega)) (f2.mono (fun b x => by omega)))⟩
theorem xx_O.sel {g : am_G} {σ σ' : am_S} {X i rr rc f s : Nat} {D : xx_D} {dr : List Nat} {rv : Nat → Nat → Int32} {k : Nat → Nat} {ss : Nat → List (Nat × Int32)} {two top : Bool} {M1 M2 : List xr_E} (h : xx_O g σ X D) (hi : i < 4) (hf : am_fm (xl_Ps (X + 54) (X + 88) (xx_se X i)) σ σ') (hJ : xl_J g σ' (X + 88) (X + 54) k ss f s two top M1 M2) (hs : xe_S σ' (xx_se X i) (xx_st X (D.1 i)) dr rr rc rv) : xx_O g σ' X (xx_es D i dr rr rc rv) := by
  obtain ⟨⟨a1, a2, a3, a4, a5, a6, a7, a8, a9⟩, hst, hse, hT, ⟨g1, g2, g3, g4, g5, g6, g7⟩, ⟨p1, L1, h1⟩, hl, ⟨p2, L2, h2⟩, p3, L3, h3⟩ := h
  have hf : am_fm (fun b => (b = X + 59 ∨ b = X + 63 ∨ b = X + 67 ∨ b = X + 69 ∨ b = X + 76 ∨ b = X + 80 ∨ b = X + 84 ∨ b = X + 88 ∨ (X + 189 ≤ b ∧ b < X + 195)) ∨ (X + 547 + 43 * i ≤ b ∧ b < X + 547 + 43 * i + 43)) σ σ' := hf.mono (fun b x => by unfold xl_Ps xl_P xx_se at x; omega)
  unfold xx_se at hs
  obtain ⟨j1, j2, ⟨p, j3⟩, j4, j5, j6, -⟩ := hJ
  refine ⟨?_, fun q hq => ?_, fun q hq => ?_, hT.fm hf (fun b x => by omega), ⟨by rw [hf.1]; exact g1, by rw [(hf.2.2.2 (X + 53) (by omega)).2]; exact g2, by rw [(hf.2.2.2 (X + 53) (by omega)).2]; exact g3, g4.fm hf (by omega), j5, ⟨k, ss, j6⟩, g7⟩, ⟨p1, L1, h1.fm hf (fun b x y => by omega)⟩, j2, ⟨p, _, j3⟩, p3, L3, h3.fm hf (fun b x y => by omega)⟩
  · rw [hf.1, (hf.2.2.2 X (by omega)).2]
    exact ⟨a1, a2, a3, a4, a5, a6, a7, a8, a9⟩
  · obtain ⟨b1, b2⟩ := hst q hq
    refine ⟨by rw [(hf.2.2.2 (X + 1) (by omega)).2]; exact b1, ?_⟩
    unfold xx_st at b2 ⊢
    exact b2.fm hf (fun b x y => by omega)
  · obtain ⟨b1, b2, b3⟩ := hse q hq
    refine ⟨by rw [(hf.2.2.2 (X + 2) (by omega)).2]; exact b1, b2, ?_⟩
    show xe_S σ' (xx_se X q) (xx_st X (D.1 q)) (if q = i then dr else D.2.2.2.2.2.1 q) (if q = i then rr else D.2.2.2.2.2.2.1 q) (if q = i then rc else D.2.2.2.2.2.2.2.1 q) (if q = i then rv else D.2.2.2.2.2.2.2.2 q)
    by_cases e : q = i
    · subst e
      rw [if_pos rfl, if_pos rfl, if_pos rfl, if_pos rfl]
      exact hs
    · rw [if_neg e, if_neg e, if_neg e, if_neg e]
      unfold xx_se at b3 ⊢
      exact b3.fm hf (fun b x y => by omega)
theorem ySj.V {W : xp_W} {f s n0 c : Nat} {two top : Bool} {Wh : xr_E → xr_E → Bool} {val : Nat → xr_E → xr_E → Int32} (h : ySj W f s n0 two top Wh val) (hc : ysRel W n0 c) (L1 L2 : List xr_E) : xl_V c (val c) f s two W.2.2.1 L1 L2 := by
  rcases h.2.2.2.2.2.2.2.2.2.2 c with ⟨-, a⟩ | ⟨a, -⟩
  · exact fun i j _ _ env hen => a _ _ env hen
  · exact absurd hc a
