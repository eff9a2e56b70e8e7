/-! update's loop -/
theorem xo_ite {f i : Nat} {L L' : List xr_E} {U : Nat → List xr_E} : (if i = f then L else (if i = f then L' else U i)) = if i = f then L else U i := by split <;> rfl
theorem xo_ite2 {f i : Nat} {U : Nat → List xr_E} : U i = if i = f then U f else U i := by
  by_cases e : i = f
  · rw [if_pos e, e]
  · rw [if_neg e]
theorem xo_upd_loop {g : am_G} {l : Launch} {s lab n S f q cap col d tp us : Nat} {C U : Nat → List xr_E} {Vs : List xr_E} {pv : Nat → Nat} {B : xr_E → Bool} {val : xr_E → Int32} {hh : Int32} {k : Nat → Nat} {ss : Nat → List (Nat × Int32)} {G : Option (List xr_E × Nat)} {Q : Option Value → am_S → Prop} {σ0 : am_S} (hd : 4 ≤ d) (hB : g.2.2.1.size ≤ S) (hq : q + 2 + cap ≤ S) (hsep : S + 31 ≤ s) (hf2 : f < 2) (hcol : col = 1 ∨ col = 2) (hUl : (U f).length ≤ 6) (hUs : xo_ss (U f))
    (hQ : ∀ σ' Bz L', (G = none ∧ Bz = (-5 : Int32) ∧ L' = U f ∨ ∃ c, G = some (L', c) ∧ Bz = nI c) → xo_S σ' s lab C (fun j => if j = f then L' else U j) hh n → xs_S σ' S → xs_CS g σ' S k ss → am_fm (xo_P S s) σ0 σ' → Q (some (.int Bz)) σ') :
    ∀ (T pre L : List xr_E) (c : Nat) (σ : am_S) (z6 z7 z8 : Option Value), Vs = pre ++ T → c ≤ pre.length → (∀ e, e ∈ T → xo_wh B f k ss e ∧ ∀ env, xs_m env f e → xs_m env 2 e → xk_run env (ss 0) [] = some [val e]) → G = xo_up B val lab col T L c → xt_K g σ → xo_S σ s lab C (fun j => if j = f then L else U j) hh n → (∃ pb, xr_R σ (s + 3) 6 pb (U f)) → xr_R σ q cap pv Vs → xs_S σ S → xs_CS g σ S k ss → am_i σ S 3 = nI f → am_i σ S 5 = nI col → am_fm (xo_P S s) σ0 σ → am_tp σ = tp → am_us σ = us →
      am_W g l mX7_update d (tp, us) Q 14 [some (.ref s), some (.ref S), some (.ref (s + 20 + 16 * f)), some (.ref q), some (.int (nI c)), some (.int (nI pre.length)), z6, z7, z8] [] σ := by
  intro T
  induction T with
  | nil =>
    intro pre L c σ z6 z7 z8 hV hc0 hw hG hK H hb hv h hc hf3 hf5 hf h1 h2
    have hl : Vs.length = pre.length := by rw [hV]; simp
    have hvl := hv.2.2.2.1
    have hv48 := hv.2.2.2.2.1
    refine kX7_update_14 ?_
    simp (disch := omega) only [ax_const, ax_iload, ax_lload, ax_aload, ax_istore, ax_astore, ax_iinc, ax_i2, ax_i2n, ax_l2, ax_lsh, ax_ii, ax_il, ax_li, ax_pop, ax_dup, ax_dup2, ax_if, ax_cmp, ax_acmp, ax_goto, ax_getI, ax_getR, ax_putI, ax_putR, ax_gets, ax_getsT, ax_aldI, ax_aldR, ax_astI, ax_astR, ax_alen, ax_ret, ax_aret, ax_vret, am_st, am_kl, List.getElem?_cons_zero, List.getElem?_cons_succ, List.set_cons_zero, List.set_cons_succ, Value.category, true_and, and_true, if_true, if_false, reduceCtorEq, Bool.false_eq_true, false_implies, forall_const, Option.some.injEq, exists_eq_left', exists_eq_left, Sum.inl.injEq, Sum.inr.injEq, Prod.mk.injEq, nI_toInt, nI_clamp, am_ix_nI, am_ix_0, am_ix_1, am_ix_2, am_ix_3, am_n0, am_n1, am_n2, am_n3, am_n4, am_t0, am_t1, am_t2, am_t3, am_t4, am_tm1, am_nS, am_nP, am_nM, Int.ofNat_lt, Int.ofNat_le, hv.1, hv.2.2.1]
    exact ⟨fun z => by omega, fun _ => ⟨h1, h2, hQ σ _ L (Or.inr ⟨c, hG, rfl⟩) H h hc hf⟩⟩
  | cons e T ih =>
    intro pre L c σ z6 z7 z8 hV hc0 hw hG hK H hb hv h hc hf3 hf5 hf h1 h2
    have hl : Vs.length = pre.length + (T.length + 1) := by rw [hV]; simp
    have hvl := hv.2.2.2.1
    have hv48 := hv.2.2.2.2.1
    obtain ⟨b0, b1, b2, b3, b4, b5, b6, b7, b8⟩ := hv.get (i := pre.length) (e := e) (by rw [hV]; simp)
    have h9 := h
    obtain ⟨a1, a2, a3, a4, a5, a6, a7, a8, a9, a10, a11, a12⟩ := h
    have hT : Vs = (pre ++ [e]) ++ T := by rw [hV]; simp
    have hwT : ∀ x, x ∈ T → xo_wh B f k ss x ∧ ∀ env, xs_m env f x → xs_m env 2 x → xk_run env (ss 0) [] = some [val x] := fun x hx => hw x (List.mem_cons_of_mem _ hx)
    have ihn : ∀ (L : List xr_E) (c : Nat) (σ : am_S) (z6 z7 z8 : Option Value), c ≤ pre.length + 1 → G = xo_up B val lab col T L c → xt_K g σ → xo_S σ s lab C (fun j => if j = f then L else U j) hh n → (∃ pb, xr_R σ (s + 3) 6 pb (U f)) → xr_R σ q cap pv Vs → xs_S σ S → xs_CS g σ S k ss → am_i σ S 3 = nI f → am_i σ S 5 = nI col → am_fm (xo_P S s) σ0 σ → am_tp σ = tp → am_us σ = us →
      am_W g l mX7_update d (tp, us) Q 14 [some (.ref s), some (.ref S), some (.ref (s + 20 + 16 * f)), some (.ref q), some (.int (nI c)), some (.int (nI (pre.length + 1))), z6, z7, z8] [] σ := by
      intro L c σ z6 z7 z8 k0 k1 k2 k3 k4 k5 k6 k7 k8 k9 k10 k11 k12
      have := ih (pre ++ [e]) L c σ z6 z7 z8 hT (by rw [List.length_append]; exact k0) hwT k1 k2 k3 k4 k5 k6 k7 k8 k9 k10 k11 k12
      rw [List.length_append] at this
      exact this
    clear ih
    refine kX7_update_14 ?_
    simp (disch := omega) only [ax_const, ax_iload, ax_lload, ax_aload, ax_istore, ax_astore, ax_iinc, ax_i2, ax_i2n, ax_l2, ax_lsh, ax_ii, ax_il, ax_li, ax_pop, ax_dup, ax_dup2, ax_if, ax_cmp, ax_acmp, ax_goto, ax_getI, ax_getR, ax_putI, ax_putR, ax_gets, ax_getsT, ax_aldI, ax_aldR, ax_astI, ax_astR, ax_alen, ax_ret, ax_aret, ax_vret, am_st, am_kl, List.getElem?_cons_zero, List.getElem?_cons_succ, List.set_cons_zero, List.set_cons_succ, Value.category, true_and, and_true, if_true, if_false, reduceCtorEq, Bool.false_eq_true, false_implies, forall_const, Option.some.injEq, exists_eq_left', exists_eq_left, Sum.inl.injEq, Sum.inr.injEq, Prod.mk.injEq, nI_toInt, nI_clamp, am_ix_nI, am_ix_0, am_ix_1, am_ix_2, am_ix_3, am_n0, am_n1, am_n2, am_n3, am_n4, am_t0, am_t1, am_t2, am_t3, am_t4, am_tm1, am_nS, am_nP, am_nM, Int.ofNat_lt, Int.ofNat_le, hv.1, hv.2.1, hv.2.2.1, hv.2.2.2.2.2.1, b1]
    refine ⟨fun _ => ⟨by omega, ?_⟩, fun z => by omega⟩
    refine am_callK [.ref S, .ref (pv pre.length)] [] (d' := 0) (lim' := (am_tp σ, am_us σ)) rfl (by omega) (by rw [h1]; exact Nat.le_refl _) (by rw [h2]; exact Nat.le_refl _) rfl (by decide) (am_recv a1) ?_
    refine c_spoint h9 hf3 hf2 b4 (fun σ1 k1 k2 k3 k4 k5 k6 k7 => ?_)
    simp (disch := omega) only [ax_const, ax_iload, ax_lload, ax_aload, ax_istore, ax_astore, ax_iinc, ax_i2, ax_i2n, ax_l2, ax_lsh, ax_ii, ax_il, ax_li, ax_pop, ax_dup, ax_dup2, ax_if, ax_cmp, ax_acmp, ax_goto, ax_getI, ax_getR, ax_putI, ax_putR, ax_gets, ax_getsT, ax_aldI, ax_aldR, ax_astI, ax_astR, ax_alen, ax_ret, ax_aret, ax_vret, am_st, am_kl, List.getElem?_cons_zero, List.getElem?_cons_succ, List.set_cons_zero, List.set_cons_succ, Value.category, true_and, and_true, if_true, if_false, reduceCtorEq, Bool.false_eq_true, false_implies, forall_const, Option.some.injEq, exists_eq_left', exists_eq_left, Sum.inl.injEq, Sum.inr.injEq, Prod.mk.injEq, nI_toInt, nI_clamp, am_ix_nI, am_ix_0, am_ix_1, am_ix_2, am_ix_3, am_n0, am_n1, am_n2, am_n3, am_n4, am_t0, am_t1, am_t2, am_t3, am_t4, am_tm1, am_nS, am_nP, am_nM, Int.ofNat_lt, Int.ofNat_le, Option.toList_some, Option.toList_none, List.cons_append, List.nil_append, List.append_nil]
    have r4 : am_sh σ1 (pv pre.length) = some (.inr (0, 4)) := by rw [k5.1]; exact b4
    have rat : xr_at σ1 (pv pre.length) e := by
      unfold xr_at
      rw [(k5.2.2.2 (pv pre.length) (by omega)).1]
      exact ⟨b5, b6, b7, b8⟩
    have hw1 := (hw e (List.mem_cons_self ..)).1 _ (c_pointed k2 r4 rat) (c_pointed k3 r4 rat)
    have H1 := H.fm k5 (fun b x y z => by omega)
    have hc1 := hc.fm k5 (fun b x y z => by omega)
    have hK1 := hK.fm k5 (fun b x => by omega)
    refine am_callK [.ref S] [] (d' := 2) (lim' := (am_tp σ1, am_us σ1)) rfl (by omega) (by rw [k6, h1]; exact Nat.le_refl _) (by rw [k7, h2]; exact Nat.le_refl _) rfl (by decide) (am_recv k1.1) ?_
    refine c_sholds hK1 k1 hB (hc1 3 (by decide)) hw1 (fun σ2 m1 m2 m3 => ?_)
    simp (disch := omega) only [ax_const, ax_iload, ax_lload, ax_aload, ax_istore, ax_astore, ax_iinc, ax_i2, ax_i2n, ax_l2, ax_lsh, ax_ii, ax_il, ax_li, ax_pop, ax_dup, ax_dup2, ax_if, ax_cmp, ax_acmp, ax_goto, ax_getI, ax_getR, ax_putI, ax_putR, ax_gets, ax_getsT, ax_aldI, ax_aldR, ax_astI, ax_astR, ax_alen, ax_ret, ax_aret, ax_vret, am_st, am_kl, List.getElem?_cons_zero, List.getElem?_cons_succ, List.set_cons_zero, List.set_cons_succ, Value.category, true_and, and_true, if_true, if_false, reduceCtorEq, Bool.false_eq_true, false_implies, forall_const, Option.some.injEq, exists_eq_left', exists_eq_left, Sum.inl.injEq, Sum.inr.injEq, Prod.mk.injEq, nI_toInt, nI_clamp, am_ix_nI, am_ix_0, am_ix_1, am_ix_2, am_ix_3, am_n0, am_n1, am_n2, am_n3, am_n4, am_t0, am_t1, am_t2, am_t3, am_t4, am_tm1, am_nS, am_nP, am_nM, Int.ofNat_lt, Int.ofNat_le, Option.toList_some, Option.toList_none, List.cons_append, List.nil_append, List.append_nil]
    have f02 : am_fm (fun b => b = S + 15 ∨ b = S + 5) σ σ2 := (k5.mono (fun b x => Or.inl x)).tr (m1.mono (fun b x => Or.inr x))
    have H2 := H.fm f02 (fun b x y z => by omega)
    have h20 := k1.fm m1 (by omega) (by omega) (by omega)
    have hc2 := hc.fm f02 (fun b x y z => by omega)
    have hK2 := hK.fm f02 (fun b x => by omega)
    have hf32 : am_i σ2 S 3 = nI f := by rw [(f02.2.2.2 S (by omega)).1]; exact hf3
    have hf52 : am_i σ2 S 5 = nI col := by rw [(f02.2.2.2 S (by omega)).1]; exact hf5
    have fz : am_fm (xo_P S s) σ0 σ2 := hf.tr (f02.mono (fun b x => by unfold xo_P; omega))
    have t2 : am_tp σ2 = tp := m2.trans (k6.trans h1)
    have u2 : am_us σ2 = us := m3.trans (k7.trans h2)
    have hb2 : ∃ pb, xr_R σ2 (s + 3) 6 pb (U f) := ⟨hb.choose, hb.choose_spec.fm f02 (fun b x y => by omega)⟩
    have hv2 := hv.fm f02 (fun b x y => by omega)
    rw [xo_up] at hG
    cases hBe : B e with
    | false =>
      rw [hBe, if_neg (by decide)] at hG
      simp only [if_true, if_false, Bool.false_eq_true, forall_const, not_true_eq_false, false_implies, and_true]
      exact ihn L c σ2 _ _ _ (by omega) hG hK2 H2 hb2 hv2 h20 hc2 hf32 hf52 fz t2 u2
    | true =>
      rw [hBe, if_pos rfl] at hG
      have o1 : ¬ (1 : Int32) = 0 := by decide
      have b90 : am_r σ2 (S + 1) 0 = some (S + 19) := h20.2.2.2.2.2.2.2.2.1 0 (by decide)
      have e2 : am_r σ2 (S + 15) = am_r σ1 (S + 15) := (m1.2.2.2 (S + 15) (by omega)).2
      have r42 : am_sh σ2 (pv pre.length) = some (.inr (0, 4)) := by rw [m1.1]; exact r4
      have rat2 : xr_at σ2 (pv pre.length) e := by
        unfold xr_at
        rw [(m1.2.2.2 (pv pre.length) (by omega)).1]
        exact rat
      have k22 : am_r σ2 (S + 15) f = some (pv pre.length) := by rw [e2]; exact k2
      have k32 : am_r σ2 (S + 15) 2 = some (pv pre.length) := by rw [e2]; exact k3
      have hval := (hw e (List.mem_cons_self ..)).2 _ (c_pointed k22 r42 rat2) (c_pointed k32 r42 rat2)
      simp (disch := omega) only [if_true, o1, false_implies, true_and, not_false_eq_true, forall_const, ax_const, ax_iload, ax_lload, ax_aload, ax_istore, ax_astore, ax_iinc, ax_i2, ax_i2n, ax_l2, ax_lsh, ax_ii, ax_il, ax_li, ax_pop, ax_dup, ax_dup2, ax_if, ax_cmp, ax_acmp, ax_goto, ax_getI, ax_getR, ax_putI, ax_putR, ax_gets, ax_getsT, ax_aldI, ax_aldR, ax_astI, ax_astR, ax_alen, ax_ret, ax_aret, ax_vret, am_st, am_kl, List.getElem?_cons_zero, List.getElem?_cons_succ, List.set_cons_zero, List.set_cons_succ, Value.category, true_and, and_true, if_true, if_false, reduceCtorEq, Bool.false_eq_true, false_implies, forall_const, Option.some.injEq, exists_eq_left', exists_eq_left, Sum.inl.injEq, Sum.inr.injEq, Prod.mk.injEq, nI_toInt, nI_clamp, am_ix_nI, am_ix_0, am_ix_1, am_ix_2, am_ix_3, am_n0, am_n1, am_n2, am_n3, am_n4, am_t0, am_t1, am_t2, am_t3, am_t4, am_tm1, am_nS, am_nP, am_nM, Int.ofNat_lt, Int.ofNat_le, h20.1, h20.2.1, h20.2.2.2.2.2.2.2.1, b90]
      refine ⟨by decide, ?_⟩
      refine am_callK [.ref S, .ref (S + 19)] [] (d' := 2) (lim' := (am_tp σ2, am_us σ2)) rfl (by omega) (by rw [t2]; exact Nat.le_refl _) (by rw [u2]; exact Nat.le_refl _) rfl (by decide) (am_recv h20.1) ?_
      refine c_swork hK2 h20 (by omega) (hc2 0 (by decide)) hval (fun σ3 n1 n2 n3 => ?_)
      have f03 : am_fm (fun b => b = S + 15 ∨ b = S + 5 ∨ b = S + 22) σ σ3 := (f02.mono (fun b x => by omega)).tr (n1.mono (fun b x => by omega))
      clear rat2 r42 k22 k32 hval e2 b90 hw1
      have H3 := H.fm f03 (fun b x y z => by omega)
      have h30 := h20.fm n1 (by omega) (by omega) (by omega)
      have hc3 := hc.fm f03 (fun b x y z => by omega)
      have hK3 := hK.fm f03 (fun b x => by omega)
      have hf33 : am_i σ3 S 3 = nI f := by rw [(f03.2.2.2 S (by omega)).1]; exact hf3
      have hf53 : am_i σ3 S 5 = nI col := by rw [(f03.2.2.2 S (by omega)).1]; exact hf5
      have fz3 : am_fm (xo_P S s) σ0 σ3 := hf.tr (f03.mono (fun b x => by unfold xo_P; omega))
      have t3 : am_tp σ3 = tp := n2.trans t2
      have u3 : am_us σ3 = us := n3.trans u2
      have hb3 : ∃ pb, xr_R σ3 (s + 3) 6 pb (U f) := ⟨hb.choose, hb.choose_spec.fm f03 (fun b x y => by omega)⟩
      have hv3 := hv.fm f03 (fun b x y => by omega)
      have r43 : am_sh σ3 (pv pre.length) = some (.inr (0, 4)) := by rw [f03.1]; exact b4
      have rat3 : xr_at σ3 (pv pre.length) e := by
        unfold xr_at
        rw [(f03.2.2.2 (pv pre.length) (by omega)).1]
        exact ⟨b5, b6, b7, b8⟩
      obtain ⟨y1, y2, y3, y4⟩ := id rat3
      obtain ⟨x1, x2, x3, x4, x5, x6, x7, x8, x9⟩ := H3.1
      have hlab3 := H3.2.1
      obtain ⟨⟨p1, g1⟩, ⟨p2, g2⟩, g3, g4⟩ := H3.2.2.2.2.2.2 f hf2
      dsimp only at g2 g4
      rw [if_pos rfl] at g2 g4
      have hLl := g2.2.2.2.1
      clear hb hv hv2 hb2 H2 H1 H hc2 hc1 hc hK2 hK1 hK h20 k1 m1 n1 k5 f02 fz hf hf32 hf52 hf3 hf5 b5 b6 b7 b8 r4 rat
      simp (disch := omega) only [ax_const, ax_iload, ax_lload, ax_aload, ax_istore, ax_astore, ax_iinc, ax_i2, ax_i2n, ax_l2, ax_lsh, ax_ii, ax_il, ax_li, ax_pop, ax_dup, ax_dup2, ax_if, ax_cmp, ax_acmp, ax_goto, ax_getI, ax_getR, ax_putI, ax_putR, ax_gets, ax_getsT, ax_aldI, ax_aldR, ax_astI, ax_astR, ax_alen, ax_ret, ax_aret, ax_vret, am_st, am_kl, List.getElem?_cons_zero, List.getElem?_cons_succ, List.set_cons_zero, List.set_cons_succ, Value.category, true_and, and_true, if_true, if_false, reduceCtorEq, Bool.false_eq_true, false_implies, forall_const, Option.some.injEq, exists_eq_left', exists_eq_left, Sum.inl.injEq, Sum.inr.injEq, Prod.mk.injEq, nI_toInt, nI_clamp, am_ix_nI, am_ix_0, am_ix_1, am_ix_2, am_ix_3, am_n0, am_n1, am_n2, am_n3, am_n4, am_t0, am_t1, am_t2, am_t3, am_t4, am_tm1, am_nS, am_nP, am_nM, Int.ofNat_lt, Int.ofNat_le, Option.toList_some, Option.toList_none, List.cons_append, List.nil_append, List.append_nil, r43, y1]
      refine ⟨by decide, ?_⟩
      refine am_callK [.ref (s + 20 + 16 * f), .int e.1] [] (d' := 0) (lim' := (am_tp σ3, am_us σ3)) rfl (by omega) (by rw [t3]; exact Nat.le_refl _) (by rw [u3]; exact Nat.le_refl _) rfl (by decide) (am_recv g2.1) ?_
      refine c_find g2 (fun _ _ => ?_)
      simp (disch := omega) only [ax_const, ax_iload, ax_lload, ax_aload, ax_istore, ax_astore, ax_iinc, ax_i2, ax_i2n, ax_l2, ax_lsh, ax_ii, ax_il, ax_li, ax_pop, ax_dup, ax_dup2, ax_if, ax_cmp, ax_acmp, ax_goto, ax_getI, ax_getR, ax_putI, ax_putR, ax_gets, ax_getsT, ax_aldI, ax_aldR, ax_astI, ax_astR, ax_alen, ax_ret, ax_aret, ax_vret, am_st, am_kl, List.getElem?_cons_zero, List.getElem?_cons_succ, List.set_cons_zero, List.set_cons_succ, Value.category, true_and, and_true, if_true, if_false, reduceCtorEq, Bool.false_eq_true, false_implies, forall_const, Option.some.injEq, exists_eq_left', exists_eq_left, Sum.inl.injEq, Sum.inr.injEq, Prod.mk.injEq, nI_toInt, nI_clamp, am_ix_nI, am_ix_0, am_ix_1, am_ix_2, am_ix_3, am_n0, am_n1, am_n2, am_n3, am_n4, am_t0, am_t1, am_t2, am_t3, am_t4, am_tm1, am_nS, am_nP, am_nM, Int.ofNat_lt, Int.ofNat_le, Option.toList_some, Option.toList_none, List.cons_append, List.nil_append, List.append_nil, r43, y4, x1, hlab3]
      refine ⟨by decide, ?_⟩
      have hcl : c + 1 ≤ pre.length + 1 := by omega
      have x9f := x9 f hf2
      rcases xr_find_spec e.1 L 0 (by omega) with ⟨e1, e2⟩ | ⟨j, f', e0, e1, e2⟩
      · rw [e1] at hG
        dsimp only at hG
        have h107 : am_W g l mX7_update d (tp, us) Q 107 [some (.ref s), some (.ref S), some (.ref (s + 20 + 16 * f)), some (.ref q), some (.int (nI c)), some (.int (nI pre.length)), some (.ref (pv pre.length)), some (.int (val e)), some (.int (-1))] [] σ3 := by
          refine kX7_update_107 ?_
          simp (disch := omega) only [ax_const, ax_iload, ax_lload, ax_aload, ax_istore, ax_astore, ax_iinc, ax_i2, ax_i2n, ax_l2, ax_lsh, ax_ii, ax_il, ax_li, ax_pop, ax_dup, ax_dup2, ax_if, ax_cmp, ax_acmp, ax_goto, ax_getI, ax_getR, ax_putI, ax_putR, ax_gets, ax_getsT, ax_aldI, ax_aldR, ax_astI, ax_astR, ax_alen, ax_ret, ax_aret, ax_vret, am_st, am_kl, List.getElem?_cons_zero, List.getElem?_cons_succ, List.set_cons_zero, List.set_cons_succ, Value.category, true_and, and_true, if_true, if_false, reduceCtorEq, Bool.false_eq_true, false_implies, forall_const, Option.some.injEq, exists_eq_left', exists_eq_left, Sum.inl.injEq, Sum.inr.injEq, Prod.mk.injEq, nI_toInt, nI_clamp, am_ix_nI, am_ix_0, am_ix_1, am_ix_2, am_ix_3, am_n0, am_n1, am_n2, am_n3, am_n4, am_t0, am_t1, am_t2, am_t3, am_t4, am_tm1, am_nS, am_nP, am_nM, Int.ofNat_lt, Int.ofNat_le, h30.1, hf53]
          refine ⟨?_, fun z => absurd trivial z⟩
          refine am_callK [.ref s, .ref (s + 20 + 16 * f), .ref (pv pre.length), .int (nI col), .int (val e)] [] (d' := 2) (lim' := (am_tp σ3, am_us σ3)) rfl (by omega) (by rw [t3]; exact Nat.le_refl _) (by rw [u3]; exact Nat.le_refl _) rfl (by decide) (am_recv x1) ?_
          refine c_addChanged (e := e) H3.1 hlab3 g2 (by omega) (by omega) r43 rat3 (by omega) (fun e6 σ4 n4 n5 n6 => ?_) (fun e6 σ4 q4 hR n4 n5 n6 => ?_)
          · rw [if_pos e6] at hG
            have H4 := H3.made n4 (fun b _ _ z => z)
            have hb4 : ∃ pb, xr_R σ4 (s + 3) 6 pb (U f) := ⟨hb3.choose, hb3.choose_spec.fm n4 (fun b x y => by omega)⟩
            obtain ⟨pb, hb4⟩ := hb4
            have g24 := g2.fm n4 (fun b x y => by omega)
            have w1 : am_sh σ4 s = some (.inl 7) := H4.1.1
            have w4 : am_r σ4 s 5 = some (s + 3) := H4.1.2.2.2.1
            have t4 : am_tp σ4 = tp := n5.trans t3
            have u4 : am_us σ4 = us := n6.trans u3
            simp (disch := omega) only [ax_const, ax_iload, ax_lload, ax_aload, ax_istore, ax_astore, ax_iinc, ax_i2, ax_i2n, ax_l2, ax_lsh, ax_ii, ax_il, ax_li, ax_pop, ax_dup, ax_dup2, ax_if, ax_cmp, ax_acmp, ax_goto, ax_getI, ax_getR, ax_putI, ax_putR, ax_gets, ax_getsT, ax_aldI, ax_aldR, ax_astI, ax_astR, ax_alen, ax_ret, ax_aret, ax_vret, am_st, am_kl, List.getElem?_cons_zero, List.getElem?_cons_succ, List.set_cons_zero, List.set_cons_succ, Value.category, true_and, and_true, if_true, if_false, reduceCtorEq, Bool.false_eq_true, false_implies, forall_const, Option.some.injEq, exists_eq_left', exists_eq_left, Sum.inl.injEq, Sum.inr.injEq, Prod.mk.injEq, nI_toInt, nI_clamp, am_ix_nI, am_ix_0, am_ix_1, am_ix_2, am_ix_3, am_n0, am_n1, am_n2, am_n3, am_n4, am_t0, am_t1, am_t2, am_t3, am_t4, am_tm1, am_nS, am_nP, am_nM, Int.ofNat_lt, Int.ofNat_le, Option.toList_some, Option.toList_none, List.cons_append, List.nil_append, List.append_nil, w1, w4]
            refine ⟨?_, fun z => absurd trivial z⟩
            refine am_callK [.ref (s + 20 + 16 * f), .ref (s + 3)] [] (d' := 3) (lim' := (am_tp σ4, am_us σ4)) rfl (by omega) (by rw [t4]; exact Nat.le_refl _) (by rw [u4]; exact Nat.le_refl _) rfl (by decide) (am_recv g24.1) ?_
            refine c_become g24 hb4 (by omega) hUl (fun σ5 q5 hR5 m5 m6 m7 => ?_)
            rw [xr_fold_ss _ [] hUs, List.nil_append] at hR5
            simp (disch := omega) only [ax_const, ax_iload, ax_lload, ax_aload, ax_istore, ax_astore, ax_iinc, ax_i2, ax_i2n, ax_l2, ax_lsh, ax_ii, ax_il, ax_li, ax_pop, ax_dup, ax_dup2, ax_if, ax_cmp, ax_acmp, ax_goto, ax_getI, ax_getR, ax_putI, ax_putR, ax_gets, ax_getsT, ax_aldI, ax_aldR, ax_astI, ax_astR, ax_alen, ax_ret, ax_aret, ax_vret, am_st, am_kl, List.getElem?_cons_zero, List.getElem?_cons_succ, List.set_cons_zero, List.set_cons_succ, Value.category, true_and, and_true, if_true, if_false, reduceCtorEq, Bool.false_eq_true, false_implies, forall_const, Option.some.injEq, exists_eq_left', exists_eq_left, Sum.inl.injEq, Sum.inr.injEq, Prod.mk.injEq, nI_toInt, nI_clamp, am_ix_nI, am_ix_0, am_ix_1, am_ix_2, am_ix_3, am_n0, am_n1, am_n2, am_n3, am_n4, am_t0, am_t1, am_t2, am_t3, am_t4, am_tm1, am_nS, am_nP, am_nM, Int.ofNat_lt, Int.ofNat_le, Option.toList_some, Option.toList_none, List.cons_append, List.nil_append, List.append_nil]
            exact ⟨m6.trans t4, m7.trans u4, hQ σ5 _ (U f) (Or.inl ⟨hG, rfl, rfl⟩) ((H4.setU hf2 ⟨q5, hR5⟩ hUs m5).ext (fun _ _ => rfl) (fun i hi => xo_ite)) ((h30.fm n4 (by omega) (by omega) (by omega)).fm m5 (by omega) (by omega) (by omega)) ((hc3.fm n4 (fun b x y z => by omega)).fm m5 (fun b x y z => by omega)) ((fz3.tr (n4.mono (fun b x => Or.inr ⟨by omega, by omega⟩))).tr (m5.mono (fun b x => Or.inr ⟨by omega, by omega⟩)))⟩
          · rw [if_neg (by omega)] at hG
            have hkey : (xo_lb lab (xo_set col (val e) e)).1 = e.1 := xo_set_key hcol
            have hss : xo_ss (xr_add L (xo_lb lab (xo_set col (val e) e))) := xr_add_ss g4 (by rw [hkey]; exact xr_nofind e1)
            have t4 : am_tp σ4 = tp := n5.trans t3
            have u4 : am_us σ4 = us := n6.trans u3
            simp (disch := omega) only [ax_const, ax_iload, ax_lload, ax_aload, ax_istore, ax_astore, ax_iinc, ax_i2, ax_i2n, ax_l2, ax_lsh, ax_ii, ax_il, ax_li, ax_pop, ax_dup, ax_dup2, ax_if, ax_cmp, ax_acmp, ax_goto, ax_getI, ax_getR, ax_putI, ax_putR, ax_gets, ax_getsT, ax_aldI, ax_aldR, ax_astI, ax_astR, ax_alen, ax_ret, ax_aret, ax_vret, am_st, am_kl, List.getElem?_cons_zero, List.getElem?_cons_succ, List.set_cons_zero, List.set_cons_succ, Value.category, true_and, and_true, if_true, if_false, reduceCtorEq, Bool.false_eq_true, false_implies, forall_const, Option.some.injEq, exists_eq_left', exists_eq_left, Sum.inl.injEq, Sum.inr.injEq, Prod.mk.injEq, nI_toInt, nI_clamp, am_ix_nI, am_ix_0, am_ix_1, am_ix_2, am_ix_3, am_n0, am_n1, am_n2, am_n3, am_n4, am_t0, am_t1, am_t2, am_t3, am_t4, am_tm1, am_nS, am_nP, am_nM, Int.ofNat_lt, Int.ofNat_le, Option.toList_some, Option.toList_none, List.cons_append, List.nil_append, List.append_nil]
            refine ⟨(fun z => absurd z (by decide)), fun _ => ?_⟩
            have H4 : xo_S σ4 s lab C (fun j => if j = f then xr_add L (xo_lb lab (xo_set col (val e) e)) else U j) hh n := by
              obtain ⟨w1, w2, w3, w4, w5, ⟨w6, w7, w8⟩, w9⟩ := H3
              refine ⟨w1.fm n4 (by omega) (by omega) (by omega), by rw [(n4.2.2.2 s (by omega)).1]; exact w2, by rw [(n4.2.2.2 s (by omega)).1]; exact w3, by rw [(n4.2.2.2 s (by omega)).1]; exact w4, w5, ⟨w6, w7, w8.fm n4 (fun b x y => by omega)⟩, fun i hi => ?_⟩
              obtain ⟨⟨v1, v2⟩, ⟨v3, v4⟩, v5, v6⟩ := w9 i hi
              dsimp only at v4 v6 ⊢
              refine ⟨⟨v1, v2.fm n4 (fun b x y => by omega)⟩, ?_, v5, ?_⟩
              · by_cases ei : i = f
                · rw [if_pos ei, ei]; exact ⟨q4, hR⟩
                · rw [if_neg ei] at v4 ⊢; exact ⟨v3, v4.fm n4 (fun b x y => by omega)⟩
              · by_cases ei : i = f
                · rw [if_pos ei]; exact hss
                · rw [if_neg ei] at v6 ⊢; exact v6
            exact ihn _ (c + 1) σ4 _ _ _ hcl hG (hK3.fm n4 (fun b x => by omega)) H4 ⟨hb3.choose, hb3.choose_spec.fm n4 (fun b x y => by omega)⟩ (hv3.fm n4 (fun b x y => by omega)) (h30.fm n4 (by omega) (by omega) (by omega)) (hc3.fm n4 (fun b x y z => by omega)) (by rw [(n4.2.2.2 S (by omega)).1]; exact hf33) (by rw [(n4.2.2.2 S (by omega)).1]; exact hf53) (fz3.tr (n4.mono (fun b x => Or.inr (by omega)))) t4 u4
        rw [e2]
        exact ⟨fun _ => ⟨fun _ => h107, fun z => absurd rfl z⟩, fun _ => h107⟩
      · rw [e1] at hG
        dsimp only at hG
        have hjl := (List.getElem?_eq_some_iff.mp e0).1
        have hfk : f'.1 = e.1 := by
          have := List.find?_some e1
          simpa using this
        have e2' : xr_find e.1 L 0 = nI j := by rw [e2, Nat.zero_add]
        obtain ⟨c0, c1, c2, c3, c4, c5, c6, c7, c8⟩ := g2.get e0
        rw [e2']
        refine ⟨fun q1 => ⟨fun z => absurd z (nI_m1 (by omega)), fun _ => ?_⟩, fun q1 => ?_⟩
        · rw [if_pos q1] at hG
          simp (disch := omega) only [ax_const, ax_iload, ax_lload, ax_aload, ax_istore, ax_astore, ax_iinc, ax_i2, ax_i2n, ax_l2, ax_lsh, ax_ii, ax_il, ax_li, ax_pop, ax_dup, ax_dup2, ax_if, ax_cmp, ax_acmp, ax_goto, ax_getI, ax_getR, ax_putI, ax_putR, ax_gets, ax_getsT, ax_aldI, ax_aldR, ax_astI, ax_astR, ax_alen, ax_ret, ax_aret, ax_vret, am_st, am_kl, List.getElem?_cons_zero, List.getElem?_cons_succ, List.set_cons_zero, List.set_cons_succ, Value.category, true_and, and_true, if_true, if_false, reduceCtorEq, Bool.false_eq_true, false_implies, forall_const, Option.some.injEq, exists_eq_left', exists_eq_left, Sum.inl.injEq, Sum.inr.injEq, Prod.mk.injEq, nI_toInt, nI_clamp, am_ix_nI, am_ix_0, am_ix_1, am_ix_2, am_ix_3, am_n0, am_n1, am_n2, am_n3, am_n4, am_t0, am_t1, am_t2, am_t3, am_t4, am_tm1, am_nS, am_nP, am_nM, Int.ofNat_lt, Int.ofNat_le, g2.1, g2.2.1, g2.2.2.2.2.2.1, c1, c4, h30.1, hf53]
          have n4 : am_fm (fun b => s + 20 + 16 * f ≤ b ∧ b < s + 20 + 16 * f + 2 + 6) σ3 (am_wi σ3 (p2 j) col (val e)) := am_fm.rf.wi ⟨by omega, by omega⟩
          have hR := g2.setc (v := val e) e0 (show col < 4 by omega)
          rw [xo_set_map g4 e0 hfk] at hR
          refine ⟨by omega, by omega, ?_⟩
          exact ihn _ (c + 1) _ _ _ _ hcl hG (hK3.fm n4 (fun b x => by omega)) ((H3.setU hf2 ⟨_, hR⟩ (xo_chg_ss hcol g4) n4).ext (fun _ _ => rfl) (fun i hi => xo_ite)) ⟨hb3.choose, hb3.choose_spec.fm n4 (fun b x y => by omega)⟩ (hv3.fm n4 (fun b x y => by omega)) (h30.fm n4 (by omega) (by omega) (by omega)) (hc3.fm n4 (fun b x y z => by omega)) (by rw [(n4.2.2.2 S (by omega)).1]; exact hf33) (by rw [(n4.2.2.2 S (by omega)).1]; exact hf53) (fz3.tr (n4.mono (fun b x => Or.inr (by omega)))) t3 u3
        · rw [if_neg q1] at hG
          refine kX7_update_107 ?_
          simp (disch := omega) only [ax_const, ax_iload, ax_lload, ax_aload, ax_istore, ax_astore, ax_iinc, ax_i2, ax_i2n, ax_l2, ax_lsh, ax_ii, ax_il, ax_li, ax_pop, ax_dup, ax_dup2, ax_if, ax_cmp, ax_acmp, ax_goto, ax_getI, ax_getR, ax_putI, ax_putR, ax_gets, ax_getsT, ax_aldI, ax_aldR, ax_astI, ax_astR, ax_alen, ax_ret, ax_aret, ax_vret, am_st, am_kl, List.getElem?_cons_zero, List.getElem?_cons_succ, List.set_cons_zero, List.set_cons_succ, Value.category, true_and, and_true, if_true, if_false, reduceCtorEq, Bool.false_eq_true, false_implies, forall_const, Option.some.injEq, exists_eq_left', exists_eq_left, Sum.inl.injEq, Sum.inr.injEq, Prod.mk.injEq, nI_toInt, nI_clamp, am_ix_nI, am_ix_0, am_ix_1, am_ix_2, am_ix_3, am_n0, am_n1, am_n2, am_n3, am_n4, am_t0, am_t1, am_t2, am_t3, am_t4, am_tm1, am_nS, am_nP, am_nM, Int.ofNat_lt, Int.ofNat_le]
          exact ⟨fun z => absurd z (nI_m1 (by omega)), fun _ => ihn _ c σ3 _ _ _ (by omega) hG hK3 H3 hb3 hv3 h30 hc3 hf33 hf53 fz3 t3 u3⟩
theorem c_oupdate {g : am_G} {l : Launch} {σ : am_S} {s lab n S f q cap col : Nat} {C U : Nat → List xr_E} {Vs : List xr_E} {pv : Nat → Nat} {B : xr_E → Bool} {val : xr_E → Int32} {hh : Int32} {k : Nat → Nat} {ss : Nat → List (Nat × Int32)} {Q : Option Value → am_S → Prop} (hK : xt_K g σ) (H : xo_S σ s lab C U hh n) (hv : xr_R σ q cap pv Vs) (h : xs_S σ S) (hc : xs_CS g σ S k ss) (hB : g.2.2.1.size ≤ S) (hq : q + 2 + cap ≤ S) (hsep : S + 31 ≤ s) (hf2 : f < 2) (hf3 : am_i σ S 3 = nI f) (hcol : col = 1 ∨ col = 2) (hf5 : am_i σ S 5 = nI col)
    (hw : ∀ e, e ∈ Vs → xo_wh B f k ss e ∧ ∀ env, xs_m env f e → xs_m env 2 e → xk_run env (ss 0) [] = some [val e])
    (hQ : ∀ σ' Bz L', (xo_up B val lab col Vs (U f) 0 = none ∧ Bz = (-5 : Int32) ∧ L' = U f ∨ ∃ c, xo_up B val lab col Vs (U f) 0 = some (L', c) ∧ Bz = nI c) → xo_S σ' s lab C (fun j => if j = f then L' else U j) hh n → xs_S σ' S → xs_CS g σ' S k ss → am_fm (xo_P S s) σ σ' → Q (some (.int Bz)) σ') : am_C g l mX7_update 4 (am_tp σ, am_us σ) [.ref s, .ref S, .ref (s + 20 + 16 * f), .ref q] σ Q := by
  obtain ⟨x1, x2, x3, x4, x5, x6, x7, x8, x9⟩ := H.1
  obtain ⟨⟨p1, g1⟩, ⟨p2, g2⟩, g3, g4⟩ := H.2.2.2.2.2.2 f hf2
  have hl := g2.2.2.2.1
  obtain ⟨pb, Lb, hb⟩ := H.2.2.2.2.2.1
  refine am_C.go [some (.ref s), some (.ref S), some (.ref (s + 20 + 16 * f)), some (.ref q), none, none, none, none, none] (by decide +kernel) (Nat.le_of_ble_eq_true rfl) rfl (kX7_update_0 ?_)
  simp (disch := omega) only [ax_const, ax_iload, ax_lload, ax_aload, ax_istore, ax_astore, ax_iinc, ax_i2, ax_i2n, ax_l2, ax_lsh, ax_ii, ax_il, ax_li, ax_pop, ax_dup, ax_dup2, ax_if, ax_cmp, ax_acmp, ax_goto, ax_getI, ax_getR, ax_putI, ax_putR, ax_gets, ax_getsT, ax_aldI, ax_aldR, ax_astI, ax_astR, ax_alen, ax_ret, ax_aret, ax_vret, am_st, am_kl, List.getElem?_cons_zero, List.getElem?_cons_succ, List.set_cons_zero, List.set_cons_succ, Value.category, true_and, and_true, if_true, if_false, reduceCtorEq, Bool.false_eq_true, false_implies, forall_const, Option.some.injEq, exists_eq_left', exists_eq_left, Sum.inl.injEq, Sum.inr.injEq, Prod.mk.injEq, nI_toInt, nI_clamp, am_ix_nI, am_ix_0, am_ix_1, am_ix_2, am_ix_3, am_n0, am_n1, am_n2, am_n3, am_n4, am_t0, am_t1, am_t2, am_t3, am_t4, am_tm1, am_nS, am_nP, am_nM, Int.ofNat_lt, Int.ofNat_le, x1, x4]
  refine am_callK [.ref (s + 3), .ref (s + 20 + 16 * f)] [] (d' := 3) (lim' := (am_tp σ, am_us σ)) rfl (by omega) (Nat.le_refl _) (Nat.le_refl _) rfl (Nat.le_of_ble_eq_true rfl) (am_recv hb.1) ?_
  refine c_become hb g2 (by omega) hl (fun σ1 q1 hR n1 n2 n3 => ?_)
  rw [xr_fold_ss _ [] g4, List.nil_append] at hR
  simp (disch := omega) only [ax_const, ax_iload, ax_lload, ax_aload, ax_istore, ax_astore, ax_iinc, ax_i2, ax_i2n, ax_l2, ax_lsh, ax_ii, ax_il, ax_li, ax_pop, ax_dup, ax_dup2, ax_if, ax_cmp, ax_acmp, ax_goto, ax_getI, ax_getR, ax_putI, ax_putR, ax_gets, ax_getsT, ax_aldI, ax_aldR, ax_astI, ax_astR, ax_alen, ax_ret, ax_aret, ax_vret, am_st, am_kl, List.getElem?_cons_zero, List.getElem?_cons_succ, List.set_cons_zero, List.set_cons_succ, Value.category, true_and, and_true, if_true, if_false, reduceCtorEq, Bool.false_eq_true, false_implies, forall_const, Option.some.injEq, exists_eq_left', exists_eq_left, Sum.inl.injEq, Sum.inr.injEq, Prod.mk.injEq, nI_toInt, nI_clamp, am_ix_nI, am_ix_0, am_ix_1, am_ix_2, am_ix_3, am_n0, am_n1, am_n2, am_n3, am_n4, am_t0, am_t1, am_t2, am_t3, am_t4, am_tm1, am_nS, am_nP, am_nM, Int.ofNat_lt, Int.ofNat_le, Option.toList_some, Option.toList_none, List.cons_append, List.nil_append, List.append_nil]
  have H1 : xo_S σ1 s lab C U hh n := by
    obtain ⟨w1, w2, w3, w4, w5, w6, w9⟩ := H
    refine ⟨w1.fm n1 (by omega) (by omega) (by omega), by rw [(n1.2.2.2 s (by omega)).1]; exact w2, by rw [(n1.2.2.2 s (by omega)).1]; exact w3, by rw [(n1.2.2.2 s (by omega)).1]; exact w4, w5, ⟨q1, _, hR⟩, fun i hi => ?_⟩
    obtain ⟨⟨v1, v2⟩, ⟨v3, v4⟩, v5, v6⟩ := w9 i hi
    exact ⟨⟨v1, v2.fm n1 (fun b x y => by omega)⟩, ⟨v3, v4.fm n1 (fun b x y => by omega)⟩, v5, v6⟩
  exact xo_upd_loop (Nat.le_refl _) hB hq hsep hf2 hcol hl g4 hQ Vs [] (U f) 0 σ1 none none none rfl (Nat.le_refl _) hw rfl (hK.fm n1 (fun b x => by omega)) (H1.ext (fun _ _ => rfl) (fun i hi => xo_ite2)) ⟨q1, hR⟩ (hv.fm n1 (fun b x y => by omega)) (h.fm n1 (by omega) (by omega) (by omega)) (hc.fm n1 (fun b x y z => by omega)) (by rw [(n1.2.2.2 S (by omega)).1]; exact hf3) (by rw [(n1.2.2.2 S (by omega)).1]; exact hf5) (n1.mono (fun b x => Or.inr ⟨by omega, by omega⟩)) n2 n3
