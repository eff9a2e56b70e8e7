theorem xx_es_self {D : xx_D} {i : Nat} : xx_es D i (D.2.2.2.2.2.1 i) (D.2.2.2.2.2.2.1 i) (D.2.2.2.2.2.2.2.1 i) (D.2.2.2.2.2.2.2.2 i) = D := by
  obtain ⟨a, b, c, d, e, f, r, q, v⟩ := D
  have h : ∀ {α : Type} (F : Nat → α), (fun j => if j = i then F i else F j) = F := fun F => by
    funext j
    by_cases z : j = i
    · rw [if_pos z, z]
    · rw [if_neg z]
  show (a, b, c, d, e, (fun j => if j = i then f i else f j), (fun j => if j = i then r i else r j), (fun j => if j = i then q i else q j), (fun j => if j = i then v i else v j)) = _
  rw [h, h, h, h]
theorem c_xsel {g : am_G} {l : Launch} {σ : am_S} {X i d : Nat} {D : xx_D} {W : xp_W} {f s n0 v : Nat} {two top : Bool} {Wh : xr_E → xr_E → Bool} {val : Nat → xr_E → xr_E → Int32} {z1 : Value} {Q : Option Value → am_S → Prop} (hd : 6 ≤ d) (h : xx_O g σ X D) (hi : i < 4) (hSt : xSt g σ X W v f) (hv : ∀ j, 1 ≤ j → j < 7 → am_i σ (X + 54) j = W.1 j) (hSf : ySj W f s n0 two top Wh val)
    (hQ : ∀ a D' σ', ySel W D i a D' → xx_O g σ' X D' → xx_fr X σ σ' → Q (some (.int a)) σ') :
    ax_call g l d (am_tp σ, am_us σ) mX9_lookForSelection (some 9) 2 (ax_aload 0 (ax_getR 9 4 (ax_aload 2 (ax_call g l d (am_tp σ, am_us σ) mX4_select (some 4) 2 (ax_ret (am_tp σ, am_us σ) false Q))))) [some (.ref X), some (.int (nI i)), some (.ref (xx_se X i)), some z1] [.int (nI (D.1 i)), .ref X] σ := by
  obtain ⟨e1, e2, e3, e4, e5, e6, e7, e8, e9, e10, e11⟩ := id hSf
  obtain ⟨b1, b2, b3⟩ := h.2.2.1 i hi
  have h4 : am_i σ (X + 54) 4 = if two = true then nI s else -1 := by rw [hv 4 (by decide) (by decide)]; exact e6
  refine am_callK [.ref X, .int (nI (D.1 i))] [] (d' := 4) (lim' := (am_tp σ, am_us σ)) rfl (by omega) (Nat.le_refl _) (Nat.le_refl _) rfl (Nat.le_of_ble_eq_true rfl) (am_recv h.1.1) ?_
  refine c_xlks h hSt.2.2.1 h4 e1 e2 b2 (fun σ1 hO1 hR1 hR2 f1 t1 u1 => ?_)
  obtain ⟨⟨c1, c2, c3, c4, c5, c6, c7, c8, c9⟩, hst1, hse1, hT1, hp1, -, hl1, -⟩ := id hO1
  have hE := (hse1 i hi).2.2
  have hSt1 : xSt g σ1 X W v f := hSt.fm f1 (fun b p q w => by omega)
  have hv1 : ∀ j, 1 ≤ j → j < 7 → am_i σ1 (X + 54) j = W.1 j := fun j x y => by rw [(f1.2.2.2 (X + 54) (by omega)).1]; exact hv j x y
  have hJ : xl_J g σ1 (X + 88) (X + 54) W.2.1 W.2.2.1 f s two top (xx_V D (D.1 i) f) (if two = true then xx_V D (D.1 i) s else []) := by
    refine ⟨hT1.1, hl1, hR1, fun z => ?_, hSt1.1, hSt1.2.1, ?_, hSt1.2.2.1, ?_, e1, e2, e3, by omega, by omega⟩
    · rw [if_pos z]
      exact hR2 z
    · rw [hv1 1 (by decide) (by decide)]; exact e7
    · rw [hv1 4 (by decide) (by decide)]; exact e6
  have hx : am_i σ1 (X + 54) 6 = nI n0 := by rw [hv1 6 (by decide) (by decide)]; exact e8
  have hx2 : am_i σ1 (X + 54) 2 = W.1 2 := hv1 2 (by decide) (by decide)
  have F1 : xx_fr X σ σ1 := f1.mono (fun b x => by omega)
  simp (disch := omega) only [ax_const, ax_iload, ax_lload, ax_aload, ax_istore, ax_astore, ax_iinc, ax_i2, ax_i2n, ax_l2, ax_lsh, ax_ii, ax_il, ax_li, ax_pop, ax_dup, ax_dup2, ax_if, ax_cmp, ax_acmp, ax_goto, ax_getI, ax_getR, ax_putI, ax_putR, ax_gets, ax_getsT, ax_aldI, ax_aldR, ax_astI, ax_astR, ax_alen, ax_ret, ax_aret, ax_vret, am_st, am_kl, List.getElem?_cons_zero, List.getElem?_cons_succ, List.set_cons_zero, List.set_cons_succ, Value.category, true_and, and_true, if_true, if_false, reduceCtorEq, Bool.false_eq_true, false_implies, forall_const, Option.some.injEq, exists_eq_left', exists_eq_left, Sum.inl.injEq, Sum.inr.injEq, Prod.mk.injEq, Option.toList_some, Option.toList_none, List.cons_append, List.nil_append, List.append_nil, c1, c6]
  refine am_callK [.ref (X + 88), .ref (xx_se X i)] [] (d' := 5) (lim' := (am_tp σ1, am_us σ1)) rfl (by omega) (Nat.le_of_eq t1) (Nat.le_of_eq u1) rfl (Nat.le_of_ble_eq_true rfl) (am_recv hl1.1) ?_
  refine c_lselect (Wh := Wh) (val := val) hJ hE (by unfold xx_se; omega) hx e9 (fun i' a j b _ _ _ env hen => e10 a b env hen) (fun z => hSf.V (Or.inr (Or.inl ⟨rfl, z⟩)) _ _) (fun z z2 => hSf.V (Or.inr (Or.inr ⟨rfl, z, z2⟩)) _ _) (fun c hc z => hSf.V (Or.inl ⟨hc, z⟩) _ _) (fun hno σ2 hJ2 f2 t2 u2 => ?_) (fun FL hFL σ2 hJ2 hE2 f2 t2 u2 => ?_)
  · simp (disch := omega) only [ax_const, ax_iload, ax_lload, ax_aload, ax_istore, ax_astore, ax_iinc, ax_i2, ax_i2n, ax_l2, ax_lsh, ax_ii, ax_il, ax_li, ax_pop, ax_dup, ax_dup2, ax_if, ax_cmp, ax_acmp, ax_goto, ax_getI, ax_getR, ax_putI, ax_putR, ax_gets, ax_getsT, ax_aldI, ax_aldR, ax_astI, ax_astR, ax_alen, ax_ret, ax_aret, ax_vret, am_st, am_kl, List.getElem?_cons_zero, List.getElem?_cons_succ, List.set_cons_zero, List.set_cons_succ, Value.category, true_and, and_true, if_true, if_false, reduceCtorEq, Bool.false_eq_true, false_implies, forall_const, Option.some.injEq, exists_eq_left', exists_eq_left, Sum.inl.injEq, Sum.inr.injEq, Prod.mk.injEq, Option.toList_some, Option.toList_none, List.cons_append, List.nil_append, List.append_nil]
    have hO2 : xx_O g σ2 X D := by
      have f2' : am_fm (xl_Ps (X + 54) (X + 88) (xx_se X i)) σ1 σ2 := f2.mono (fun b x => Or.inl x)
      have hE2 : xe_S σ2 (xx_se X i) (xx_st X (D.1 i)) (D.2.2.2.2.2.1 i) (D.2.2.2.2.2.2.1 i) (D.2.2.2.2.2.2.2.1 i) (D.2.2.2.2.2.2.2.2 i) := hE.fm f2 (fun b x y z => by unfold xl_P at z; unfold xx_se at x; omega)
      have := hO1.sel hi f2' hJ2 hE2
      rwa [xx_es_self] at this
    exact ⟨t2.trans t1, u2.trans u1, hQ (-7) D σ2 ⟨f, s, n0, two, top, Wh, val, hSf, Or.inl ⟨hno, rfl, rfl⟩⟩ hO2 (F1.tr (f2.mono (fun b x => by unfold xl_P at x; omega)))⟩
  · simp (disch := omega) only [ax_const, ax_iload, ax_lload, ax_aload, ax_istore, ax_astore, ax_iinc, ax_i2, ax_i2n, ax_l2, ax_lsh, ax_ii, ax_il, ax_li, ax_pop, ax_dup, ax_dup2, ax_if, ax_cmp, ax_acmp, ax_goto, ax_getI, ax_getR, ax_putI, ax_putR, ax_gets, ax_getsT, ax_aldI, ax_aldR, ax_astI, ax_astR, ax_alen, ax_ret, ax_aret, ax_vret, am_st, am_kl, List.getElem?_cons_zero, List.getElem?_cons_succ, List.set_cons_zero, List.set_cons_succ, Value.category, true_and, and_true, if_true, if_false, reduceCtorEq, Bool.false_eq_true, false_implies, forall_const, Option.some.injEq, exists_eq_left', exists_eq_left, Sum.inl.injEq, Sum.inr.injEq, Prod.mk.injEq, Option.toList_some, Option.toList_none, List.cons_append, List.nil_append, List.append_nil]
    rw [hx2] at hE2
    refine ⟨t2.trans t1, u2.trans u1, hQ _ _ σ2 ⟨f, s, n0, two, top, Wh, val, hSf, Or.inr ⟨FL, hFL, rfl, rfl⟩⟩ (hO1.sel hi f2 hJ2 hE2) (F1.tr (f2.mono (fun b x => by unfold xl_Ps xl_P xx_se at x; omega)))⟩
