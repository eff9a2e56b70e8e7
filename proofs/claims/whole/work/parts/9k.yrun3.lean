/-! run of the reference -/
theorem xx_see_ext {D D' : xx_D} {lab t : Nat} (h : ∀ o, xx_vl D lab t o = xx_vl D' lab t o) : ∀ (n o : Nat) (L : List xr_E), xx_see D lab t n o L = xx_see D' lab t n o L
  | 0, _, _ => rfl
  | n + 1, o, L => by rw [xx_see, xx_see, h o]; exact xx_see_ext h n (o + 1) _
theorem xx_V_op {D : xx_D} {i t : Nat} (hU : D.2.2.1 (D.1 i) = D.2.1 (D.1 i)) : xx_V (yOp (yDd D i) i) (D.1 i) t = xx_V D (D.1 i) t := by
  refine xx_see_ext (fun o => ?_) 8 0 []
  unfold xx_vl
  by_cases e : o = D.1 i
  · rw [if_pos e, if_pos e, e, hU]
    exact congrFun (yOp_h (yDd D i) i).2.1 t
  · rw [if_neg e, if_neg e]
    have : (yOp (yDd D i) i).2.1 o = D.2.1 o := (xx_ds_ne (D := yDd D i) e).1
    rw [this]
theorem yFa.wr {dr : List Nat} {S : ys_S} {f : Nat → Int32} (h : yFa dr S) (hf : f 4 = -1) : ykn S.2.2.2 (decide (xp_hd (xn_sc dr 0) 0 = 0)) S.2.2.1 = (decide ((xp_parse (xn_sc dr 0) f).1 3 = (xp_parse (xn_sc dr 0) f).1 4) || xs_wr (xp_hd (xn_sc dr 0) 0) ((xp_parse (xn_sc dr 0) f).1 3) ((xp_parse (xn_sc dr 0) f).1 4) (xp_parse (xn_sc dr 0) f).2.2.2.2.2.2 3 0) ∧ (xp_parse (xn_sc dr 0) f).1 3 = nI (S.2.2.2 1) := by
  obtain ⟨-, hu, hk, hc⟩ := h.2 f hf
  have key : S.2.2.2 1 < 2 ∧ (xp_parse (xn_sc dr 0) f).1 3 = nI (S.2.2.2 1) ∧ ((S.2.2.2 0 = 1 ∧ (xp_parse (xn_sc dr 0) f).1 4 = -1) ∨ (S.2.2.2 0 = 2 ∧ (xp_parse (xn_sc dr 0) f).1 4 = nI (S.2.2.2 2) ∧ S.2.2.2 2 < 2)) := by
    rcases hc with ⟨a, b⟩ | ⟨a, b⟩ | ⟨a, b⟩ | ⟨a, b⟩
    · exact ⟨b.2.1, b.2.2.1, Or.inl ⟨b.1, b.2.2.2.1⟩⟩
    · exact ⟨b.2.1, b.2.2.1, Or.inl ⟨b.1, b.2.2.2.1⟩⟩
    · exact ⟨b.2.1, b.2.2.1, Or.inl ⟨b.1, b.2.2.2.1⟩⟩
    · exact ⟨b.2.1, b.2.2.1, b.1⟩
  exact ⟨ykn_wr hk hu key.1 key.2.1 key.2.2 rfl, key.2.1⟩
theorem xx_lb.dd {D : xx_D} {i : Nat} (h : xx_lb D) : xx_lb (yDd D i) := h
theorem xx_lb.op {D : xx_D} {i : Nat} (h : xx_lb D) (hl : D.1 i < 8) : xx_lb (yOp D i) := by
  intro lb hlb t ht
  by_cases e : lb = D.1 i
  · subst e
    obtain ⟨x1, x2, x3, x4⟩ := yOp_h D i
    rw [x2, x3]
    exact ⟨(h _ hlb t ht).1, (h _ hlb t ht).1⟩
  · have a : (yOp D i).2.1 lb = D.2.1 lb := (xx_ds_ne e).1
    have b : (yOp D i).2.2.1 lb = D.2.2.1 lb := (xx_ds_ne e).2.1
    rw [a, b]
    exact h lb hlb t ht
theorem ysD.of {σ : am_S} {m i : Nat} {D : xx_D} (h : ym_O σ m D) (hi : i < 4) (hc : ∀ c, c ∈ D.2.2.2.2.2.1 i → c < 128) : ysD σ m i (D.2.2.2.2.2.1 i) := by
  obtain ⟨s1, s2, s3, -⟩ := h.2.2.2.2 i hi
  exact ⟨hi, s2, s1, fun j c hj => ⟨hc c (List.mem_of_getElem? hj), s3 j c hj⟩⟩
theorem c_yrun {g : am_G} {l : Launch} {σ : am_S} {m ds d : Nat} {D : xx_D} {s : Int32} {f : Nat → Nat → Int32} {Q : Option Value → am_S → Prop} (hd : 10 ≤ d) (hds : ds < d) (hO : ym_O σ m D) (hB : xx_wf D) (hq : ym_q σ m) (hc : ∀ i, i < 4 → ∀ c, c ∈ D.2.2.2.2.2.1 i → c < 128) (hss : ∀ lb, lb < 8 → ∀ t, t < 2 → xo_ss (D.2.1 lb t) ∧ xo_ss (D.2.2.1 lb t)) (hf : ∀ i, f i 4 = -1)
    (hQ0 : ¬ xx_in s → Q (some (.int (-1))) σ)
    (hQ1 : ∀ i, i < 4 → s = nI i → ∀ a D' σ', yRes (xp_parse (xn_sc (D.2.2.2.2.2.1 i) 0) (f i)) (D.2.2.2.2.2.1 i) D i a D' → ym_O σ' m D' → ym_q σ' m → ym_f (fun b => m ≤ b ∧ b ≤ m + 31) σ σ' → Q (some (.int a)) σ')
    (hSel : ∀ i, i < 4 → s = nI i → ∀ S, yFa (D.2.2.2.2.2.1 i) S → ykn S.2.2.2 (decide (xp_hd (xn_sc (D.2.2.2.2.2.1 i) 0) 0 = 0)) S.2.2.1 = false → xp_hd (xn_sc (D.2.2.2.2.2.1 i) 0) 0 = 3 → ∀ σ', ym_O σ' m (yDd D i) → ym_q σ' m → yKn σ' m S → ym_f (fun b => m ≤ b ∧ b ≤ m + 31) σ σ' → am_C g l mX10_select ds (am_tp σ', am_us σ') [.ref m, .int (nI i)] σ' (fun o σ'' => ∃ x, o = some (.int x) ∧ Q (some (.int x)) σ'')) :
    am_C g l mX10_run d (am_tp σ, am_us σ) [.ref m, .int s] σ Q := by
  have hH := hO.1
  refine am_C.go [some (.ref m), some (.int s), none, none, none] (by decide +kernel) (Nat.le_of_ble_eq_true rfl) rfl ?_
  by_cases hs : xx_in s
  · obtain ⟨i, hi, rfl⟩ := hs.of
    have hD := ysD.of hO hi (hc i hi)
    have hlab := (hO.2.1 i hi).2
    refine c_yread hd hH hD hq (fun σ1 hRD f1 => ?_)
    have hO1 : ym_O σ1 m D := hO.sc (f1.mono (fun b x => by unfold yre at x; unfold ym_sc; omega))
    have F1 : ym_f (fun b => m ≤ b ∧ b ≤ m + 31) σ σ1 := f1.mono (fun b x => by unfold yre at x; omega)
    have tr : ∀ {σ' : am_S}, ym_f (fun b => m ≤ b ∧ b ≤ m + 31) σ1 σ' → ym_f (fun b => m ≤ b ∧ b ≤ m + 31) σ σ' := fun h => F1.tr h
    have yr : ∀ {σ' : am_S}, yrF m σ1 σ' → ym_f (fun b => m ≤ b ∧ b ≤ m + 31) σ σ' := fun h => tr (h.mono (fun b x => by omega))
    have res := hQ1 i hi rfl
    have hw := fun S (hFa : yFa (D.2.2.2.2.2.1 i) S) => (hFa.wr (f := f i) (hf i))
    have main := yru_29 (g := g) (l := l) (σ := σ1) (z3 := none) (z4 := none) (Q := Q) hd hds hO1 hi hRD
      (fun hbad σ' a b c => res (-2) _ σ' (Or.inl ⟨hbad _ (hf i), rfl, rfl⟩) a b (yr c))
      (fun S hFa hk σ' a b c => res (-3) _ σ' (Or.inr (Or.inl ⟨(hFa.2 _ (hf i)).1, by rw [← (hw S hFa).1]; exact hk, rfl, rfl⟩)) a b (yr c))
      (fun S hFa hk h3 σ' a b c e => hSel i hi rfl S hFa hk h3 σ' a b c (yr e))
      (fun S hFa hk h3 n1 n2 σ' a b c => res (-6) _ σ' (Or.inr (Or.inr ⟨(hFa.2 _ (hf i)).1, by rw [← (hw S hFa).1]; exact hk, h3, Or.inl ⟨n1, n2, rfl, rfl⟩⟩)) a b (yr c))
      (fun S hFa hk h3 hh σ2 hO2 hq2 hKn h24 f2 => ?_)
    · rw [F1.tp, F1.us] at main
      exact main
    · obtain ⟨t1, t2, t3⟩ := hFa.T
      obtain ⟨k1, k2, k3, k4, k5⟩ := hKn
      have ht16 : am_i σ2 (m + 16) 0 = nI (S.2.2.2 1) := k1.2.1 0 (by decide)
      have hw3 := (hw S hFa).2
      have hkx := (hw S hFa).1
      have hok := (hFa.2 _ (hf i)).1
      rw [hk] at hkx
      have r100 := yru_100 (g := g) (l := l) (σ := σ2) (m := m) (i := i) (t := S.2.2.2 1) (d := d) (D := yDd D i) (z3 := none) (z4 := none)
        (R := fun D1 Bz L' => yRs (xp_parse (xn_sc (D.2.2.2.2.2.1 i) 0) (f i)) (xp_hd (xn_sc (D.2.2.2.2.2.1 i) 0) 0) (S.2.2.2 1) (D.1 i) (xx_V D1 (D.1 i) (S.2.2.2 1)) (D1.2.2.1 (D.1 i) (S.2.2.2 1)) Bz L') (Q := Q) (by omega) hO2 hi ht16 hh
        (fun D1 σ3 hD1 hne hO3 f3 => ?_)
        (fun hown Bz L' hR σ' a b => res Bz _ σ' (Or.inr (Or.inr ⟨hok, hkx.symm, h3, Or.inr (Or.inl ⟨hown, S.2.2.2 1, L', t1, hw3, hR, rfl⟩)⟩)) a (b.q hq2) ((yr f2).tr (b.mono (fun b x => by omega))))
        (fun hfree Bz L' hR σ' a b => res _ _ σ' (Or.inr (Or.inr ⟨hok, hkx.symm, h3, Or.inr (Or.inr ⟨hfree, S.2.2.2 1, Bz, L', t1, hw3, ?_, rfl, rfl⟩)⟩)) a (b.q hq2) ((yr f2).tr (b.mono (fun b x => by omega))))
      · rw [f2.tp, f2.us] at r100
        exact r100
      · have hlb1 : xx_lb D1 ∧ D1.1 i = D.1 i ∧ xo_ss (D1.2.2.1 (D.1 i) (S.2.2.2 1)) := by
          rcases hD1 with rfl | rfl
          · exact ⟨hB.1, rfl, (hss _ hlab _ t1).2⟩
          · refine ⟨xx_lb.op (D := yDd D i) hB.1 hlab, rfl, ?_⟩
            have e : (yOp (yDd D i) i).2.2.1 (D.1 i) = D.2.1 (D.1 i) := (yOp_h (yDd D i) i).2.1
            rw [e]
            exact (hss _ hlab _ t1).1
        obtain ⟨l1, l2, l3⟩ := hlb1
        have e24 : am_i σ3 m 24 = am_i σ2 m 24 := by rw [f3.i (a := m) (by omega)]
        have hCh : yCh σ3 m i (S.2.2.2 1) S.2.2.2 S.2.2.1 D1 := ⟨hO3, hi, t1, hne, l1, by rw [l2]; exact l3, k1.fr (f3.i (by omega)) (f3.i (by omega)) (f3.i (by omega)) (f3.i (by omega)) (f3.i (by omega)), k2.f (by rw [f3.i (a := m) (by omega)]) (f3.i (by omega)) (f3.i (by omega)), k3, k4, k5⟩
        have := c_ychgR (g := g) (l := l) (f := f i) hCh hFa (hf i) hk h3 (fun s hs => by rw [e24]; exact h24 s hs)
        rw [l2] at this ⊢
        exact this
      · have hU : D.2.2.1 (D.1 i) = D.2.1 (D.1 i) := hB.2 _ hlab hfree
        have e1 := xx_V_op (i := i) (t := S.2.2.2 1) hU
        have e2 : (yOp (yDd D i) i).2.2.1 (D.1 i) = D.2.1 (D.1 i) := (yOp_h (yDd D i) i).2.1
        rw [e1, e2] at hR
        exact hR
  · have en : (0 ≤ s.toInt ∧ s.toInt < 4) = False := eq_false hs
    refine kX10_run_0 ?_
    simp (disch := omega) only [ax_const, ax_iload, ax_lload, ax_aload, ax_istore, ax_astore, ax_iinc, ax_i2, ax_i2n, ax_l2, ax_lsh, ax_ii, ax_il, ax_li, ax_pop, ax_dup, ax_dup2, ax_if, ax_cmp, ax_acmp, ax_goto, ax_getI, ax_getR, ax_putI, ax_putR, ax_gets, ax_getsT, ax_aldI, ax_aldR, ax_astI, ax_astR, ax_alen, ax_ret, ax_aret, ax_vret, am_st, am_kl, List.getElem?_cons_zero, List.getElem?_cons_succ, List.set_cons_zero, List.set_cons_succ, Value.category, true_and, and_true, if_true, if_false, reduceCtorEq, Bool.false_eq_true, false_implies, forall_const, Option.some.injEq, exists_eq_left', exists_eq_left, Sum.inl.injEq, Sum.inr.injEq, Prod.mk.injEq]
    refine am_callK [.int s] [] (d' := 0) (lim' := (am_tp σ, am_us σ)) rfl (by omega) (Nat.le_refl _) (Nat.le_refl _) rfl (Nat.le_of_ble_eq_true rfl) am_stat ?_
    refine c_yisSession (fun _ _ => ?_)
    simp only [en, if_false]
    simp (disch := omega) only [ax_const, ax_iload, ax_lload, ax_aload, ax_istore, ax_astore, ax_iinc, ax_i2, ax_i2n, ax_l2, ax_lsh, ax_ii, ax_il, ax_li, ax_pop, ax_dup, ax_dup2, ax_if, ax_cmp, ax_acmp, ax_goto, ax_getI, ax_getR, ax_putI, ax_putR, ax_gets, ax_getsT, ax_aldI, ax_aldR, ax_astI, ax_astR, ax_alen, ax_ret, ax_aret, ax_vret, am_st, am_kl, List.getElem?_cons_zero, List.getElem?_cons_succ, List.set_cons_zero, List.set_cons_succ, Value.category, true_and, and_true, if_true, if_false, reduceCtorEq, Bool.false_eq_true, false_implies, forall_const, Option.some.injEq, exists_eq_left', exists_eq_left, Sum.inl.injEq, Sum.inr.injEq, Prod.mk.injEq, Option.toList_some, Option.toList_none, List.cons_append, List.nil_append, List.append_nil]
    exact ⟨hQ0 hs, fun z => absurd trivial z⟩
