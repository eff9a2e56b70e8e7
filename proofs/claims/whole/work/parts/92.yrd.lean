/-! run: a draft is read -/
theorem xn_tk36 (c : Nat) (r : List Nat) : (xn_tk c r).1 ≠ 36 := by
  unfold xn_tk
  split
  · split
    · show (35 : Nat) ≠ 36
      decide
    · show (33 : Nat) ≠ 36
      decide
  · show xt_of _ ≠ 36
    rcases xt_of_w (c :: r.take (xn_run c r)) with e | e
    · rw [e]; decide
    · intro q
      rw [q] at e
      exact absurd e (by simp [xt_w, xt_ws])
theorem xn_sc36 : ∀ (dr : List Nat) (k : Nat) (q : Nat × Int32), q ∈ xn_sc dr k → q.1 ≠ 36
  | [], k, q, h => by rw [xn_sc] at h; cases h
  | c :: r, k + 1, q, h => by rw [xn_sc] at h; exact xn_sc36 r k q h
  | c :: r, 0, q, h => by
    rw [xn_sc] at h
    split at h
    · exact xn_sc36 r 0 q h
    · rcases List.mem_cons.mp h with e | e
      · rw [e]; exact xn_tk36 c r
      · exact xn_sc36 r _ q e
theorem xn_sc_len : ∀ (dr : List Nat) (k : Nat), (xn_sc dr k).length ≤ dr.length
  | [], k => by rw [xn_sc]; exact Nat.le_refl _
  | c :: r, k + 1 => by rw [xn_sc]; exact Nat.le_succ_of_le (xn_sc_len r k)
  | c :: r, 0 => by
    rw [xn_sc]
    split
    · exact Nat.le_succ_of_le (xn_sc_len r 0)
    · exact Nat.succ_le_succ (xn_sc_len r _)
theorem xn_E2 (dr : List Nat) : ∀ a, a + 1 < (xn_sc dr 0 ++ [(36, (0 : Int32))]).length → xp_hd (xn_sc dr 0 ++ [(36, 0)]) a ≠ 36 := by
  intro a ha
  rw [List.length_append, List.length_cons, List.length_nil] at ha
  rw [xe_hd]
  have hl : a < (xn_sc dr 0).length := by omega
  have : xp_hd (xn_sc dr 0) a = ((xn_sc dr 0)[a]).1 := by
    unfold xp_hd
    rw [List.getD_eq_getElem?_getD, List.getElem?_eq_getElem hl]
    rfl
  rw [this]
  exact xn_sc36 dr 0 _ (List.getElem_mem hl)
/-- the reading's end: sound, and what was read, or not -/
def yRD (σ : am_S) (m : Nat) (dr : List Nat) : Prop :=
  ym_q σ m ∧ ((am_i σ m 13 = 1 ∧ ∀ f : Nat → Int32, f 4 = -1 → xp_ok (xn_sc dr 0) (xp_parse (xn_sc dr 0) f) = false) ∨
    (am_i σ m 13 = 0 ∧ ∃ (T : Nat → Nat) (W : List Nat) (ns : Int32) (w : Bool), T 0 = 0 ∧ T 4 = 0 ∧ T 17 = 0 ∧ yZR σ m (xn_sc dr 0 ++ [(36, 0)]) (ys_stm (xn_sc dr 0 ++ [(36, 0)]) T) W ns w ∧ (∀ s, s < 4 → (am_i σ m 24 = yw_c (xt_w s) ↔ xp_hd (xn_sc dr 0) 0 = s)) ∧
      ∀ f : Nat → Int32, f 4 = -1 → xp_ok (xn_sc dr 0) (xp_parse (xn_sc dr 0) f) = true ∧ (∀ t, (xp_parse (xn_sc dr 0) f).2.2.2.2.2.2 t = yc (ys_stm (xn_sc dr 0 ++ [(36, 0)]) T).2.2.1 t) ∧ yk (ys_stm (xn_sc dr 0 ++ [(36, 0)]) T).2.2.1 ∧
        ((xp_hd (xn_sc dr 0) 0 = 0 ∧ yQ0 (xp_parse (xn_sc dr 0) f) (ys_stm (xn_sc dr 0 ++ [(36, 0)]) T)) ∨ (xp_hd (xn_sc dr 0) 0 = 1 ∧ yQ1 (xp_parse (xn_sc dr 0) f) (ys_stm (xn_sc dr 0 ++ [(36, 0)]) T)) ∨ (xp_hd (xn_sc dr 0) 0 = 2 ∧ yQ2 (xp_parse (xn_sc dr 0) f) (ys_stm (xn_sc dr 0 ++ [(36, 0)]) T)) ∨ (xp_hd (xn_sc dr 0) 0 = 3 ∧ yQ3 (xp_parse (xn_sc dr 0) f) (ys_stm (xn_sc dr 0 ++ [(36, 0)]) T)))))
def yre (m b : Nat) : Prop := b = m ∨ (m + 10 ≤ b ∧ b ≤ m + 19)
theorem c_yread {g : am_G} {l : Launch} {σ : am_S} {m i d : Nat} {dr : List Nat} {z2 z3 z4 : Option Value} {Q : Option Value → am_S → Prop} (hd : 10 ≤ d) (hH : ym_H σ m) (hD : ysD σ m i dr) (hq : ym_q σ m)
    (hQ : ∀ σ', yRD σ' m dr → ym_f (yre m) σ σ' → am_W g l mX10_run d (am_tp σ, am_us σ) Q 29 [some (.ref m), some (.int (nI i)), z2, z3, z4] [] σ') : am_W g l mX10_run d (am_tp σ, am_us σ) Q 0 [some (.ref m), some (.int (nI i)), z2, z3, z4] [] σ := by
  have hi := hD.1
  have o1 : ¬ (1 : Int32) = 0 := by decide
  have ein : (0 ≤ (nI i).toInt ∧ (nI i).toInt < 4) = True := by
    rw [nI_toInt (by omega)]
    exact eq_true (by omega)
  refine kX10_run_0 ?_
  simp (disch := omega) only [ax_const, ax_iload, ax_lload, ax_aload, ax_istore, ax_astore, ax_iinc, ax_i2, ax_i2n, ax_l2, ax_lsh, ax_ii, ax_il, ax_li, ax_pop, ax_dup, ax_dup2, ax_if, ax_cmp, ax_acmp, ax_goto, ax_getI, ax_getR, ax_putI, ax_putR, ax_gets, ax_getsT, ax_aldI, ax_aldR, ax_astI, ax_astR, ax_alen, ax_ret, ax_aret, ax_vret, am_st, am_kl, List.getElem?_cons_zero, List.getElem?_cons_succ, List.set_cons_zero, List.set_cons_succ, Value.category, true_and, and_true, if_true, if_false, reduceCtorEq, Bool.false_eq_true, false_implies, forall_const, Option.some.injEq, exists_eq_left', exists_eq_left, Sum.inl.injEq, Sum.inr.injEq, Prod.mk.injEq]
  refine am_callK [.int (nI i)] [] (d' := 0) (lim' := (am_tp σ, am_us σ)) rfl (by omega) (Nat.le_refl _) (Nat.le_refl _) rfl (Nat.le_of_ble_eq_true rfl) am_stat ?_
  refine c_yisSession (fun _ _ => ?_)
  simp only [ein, if_true]
  simp (disch := omega) only [ax_const, ax_iload, ax_lload, ax_aload, ax_istore, ax_astore, ax_iinc, ax_i2, ax_i2n, ax_l2, ax_lsh, ax_ii, ax_il, ax_li, ax_pop, ax_dup, ax_dup2, ax_if, ax_cmp, ax_acmp, ax_goto, ax_getI, ax_getR, ax_putI, ax_putR, ax_gets, ax_getsT, ax_aldI, ax_aldR, ax_astI, ax_astR, ax_alen, ax_ret, ax_aret, ax_vret, am_st, am_kl, List.getElem?_cons_zero, List.getElem?_cons_succ, List.set_cons_zero, List.set_cons_succ, Value.category, true_and, and_true, if_true, if_false, reduceCtorEq, Bool.false_eq_true, false_implies, forall_const, Option.some.injEq, exists_eq_left', exists_eq_left, Sum.inl.injEq, Sum.inr.injEq, Prod.mk.injEq, Option.toList_some, Option.toList_none, List.cons_append, List.nil_append, List.append_nil, o1]
  intro _
  refine am_callK [.ref m] [] (d' := 0) (lim' := (am_tp σ, am_us σ)) rfl (by omega) (Nat.le_refl _) (Nat.le_refl _) rfl (Nat.le_of_ble_eq_true rfl) (am_recv hH.1) ?_
  refine c_yclear hH (fun σ1 f1 t1 u1 => ?_)
  have H1 := hH.f f1.1
  have D1 : ysD σ1 m i dr := by
    unfold ysD
    rw [f1.1.i (a := m + 9) (by omega), f1.1.i (a := m + 8) (by omega)]
    exact hD
  have z1 : ∀ k, ycl k → am_i σ1 m k = 0 := f1.2.1
  have tp1 := f1.1.tp
  have us1 := f1.1.us
  simp (disch := omega) only [ax_const, ax_iload, ax_lload, ax_aload, ax_istore, ax_astore, ax_iinc, ax_i2, ax_i2n, ax_l2, ax_lsh, ax_ii, ax_il, ax_li, ax_pop, ax_dup, ax_dup2, ax_if, ax_cmp, ax_acmp, ax_goto, ax_getI, ax_getR, ax_putI, ax_putR, ax_gets, ax_getsT, ax_aldI, ax_aldR, ax_astI, ax_astR, ax_alen, ax_ret, ax_aret, ax_vret, am_st, am_kl, List.getElem?_cons_zero, List.getElem?_cons_succ, List.set_cons_zero, List.set_cons_succ, Value.category, true_and, and_true, if_true, if_false, reduceCtorEq, Bool.false_eq_true, false_implies, forall_const, Option.some.injEq, exists_eq_left', exists_eq_left, Sum.inl.injEq, Sum.inr.injEq, Prod.mk.injEq, Option.toList_some, Option.toList_none, List.cons_append, List.nil_append, List.append_nil]
  refine am_callK [.ref m, .int (nI i)] [] (d' := 1) (lim' := (am_tp σ1, am_us σ1)) rfl (by omega) (Nat.le_of_eq tp1) (Nat.le_of_eq us1) rfl (Nat.le_of_ble_eq_true rfl) (am_recv H1.1) ?_
  refine c_ysplit H1 D1 (z1 11 (by unfold ycl; omega)) (z1 13 (by unfold ycl; omega)) (fun σ2 b g1 g2 g3 g4 t2 u2 => ?_)
  have H2 := H1.f g4.1
  have tp2 := g4.1.tp.trans tp1
  have us2 := g4.1.us.trans us1
  have f2 : ym_f (yre m) σ σ2 := (f1.1.mono (fun b x => Or.inl x)).tr (g4.1.mono (fun b x => show b = m ∨ (m + 10 ≤ b ∧ b ≤ m + 19) by omega))
  obtain ⟨W, w, q1, q2, q3⟩ := hq
  have n19 : am_i σ2 m 19 = am_i σ m 19 := (g4.2 19 (by decide) (by decide)).trans (f1.2.2 19 (by unfold ycl; omega))
  have n23 : am_i σ2 m 23 = am_i σ m 23 := (g4.2 23 (by decide) (by decide)).trans (f1.2.2 23 (by unfold ycl; omega))
  have n14 : am_i σ2 (m + 14) = am_i σ (m + 14) := by rw [g4.1.i (a := m + 14) (by omega), f1.1.i (a := m + 14) (by omega)]
  have hW2 : yb_w σ2 m W := ⟨n19.trans q1.1, by rw [n14]; exact q1.2⟩
  have zz : ∀ k, ycl k → k ≠ 11 → k ≠ 13 → am_i σ2 m k = 0 := fun k h1 h2 h3 => (g4.2 k h2 h3).trans (z1 k h1)
  cases b with
  | true =>
    have g1 : am_i σ2 m 13 = 1 := g1
    obtain ⟨j, o, hj⟩ := g3 rfl
    simp (disch := omega) only [ax_const, ax_iload, ax_lload, ax_aload, ax_istore, ax_astore, ax_iinc, ax_i2, ax_i2n, ax_l2, ax_lsh, ax_ii, ax_il, ax_li, ax_pop, ax_dup, ax_dup2, ax_if, ax_cmp, ax_acmp, ax_goto, ax_getI, ax_getR, ax_putI, ax_putR, ax_gets, ax_getsT, ax_aldI, ax_aldR, ax_astI, ax_astR, ax_alen, ax_ret, ax_aret, ax_vret, am_st, am_kl, List.getElem?_cons_zero, List.getElem?_cons_succ, List.set_cons_zero, List.set_cons_succ, Value.category, true_and, and_true, if_true, if_false, reduceCtorEq, Bool.false_eq_true, false_implies, forall_const, Option.some.injEq, exists_eq_left', exists_eq_left, Sum.inl.injEq, Sum.inr.injEq, Prod.mk.injEq, Option.toList_some, Option.toList_none, List.cons_append, List.nil_append, List.append_nil, H2.1, g1, o1]
    refine fun _ => hQ σ2 ⟨⟨W, w, hW2, q2, n23.trans q3⟩, Or.inl ⟨g1, fun f hf => ?_⟩⟩ f2
    have h35 : xp_hd (xn_sc dr 0 ++ [(36, 0)]) j = 35 := by
      rw [xe_hd]
      unfold xp_hd
      rw [List.getD_eq_getElem?_getD, hj]
      rfl
    have hlen := xn_sc_len dr 0
    have hl80 := hD.2.1
    have := stm_all (ts := xn_sc dr 0 ++ [(36, 0)]) (f := f) (T := fun _ => 0) (by rw [List.length_append, List.length_cons, List.length_nil]; omega) (xe_EN _) (xn_E2 dr) rfl rfl rfl hf
    rw [yN.stm (xe_EN _) h35, xe_parse (xe_hd _) (xe_nm _), xe_ok (xe_hd _)] at this
    rcases this with h | h
    · exact h.1
    · cases h.2.1
  | false =>
    have g1 : am_i σ2 m 13 = 0 := g1
    obtain ⟨g11, gT⟩ := g2 rfl
    have hts1 : 1 ≤ (xn_sc dr 0 ++ [(36, (0 : Int32))]).length := by rw [List.length_append, List.length_cons, List.length_nil]; omega
    have hlen : (xn_sc dr 0 ++ [(36, (0 : Int32))]).length - 1 = (xn_sc dr 0).length := by rw [List.length_append, List.length_cons, List.length_nil]; omega
    have hR := yR.any σ2 m
    have hT0 : yT0 σ2 m 0 = 0 := by
      show (am_i σ2 m 25).toBitVec.toNat = 0
      rw [zz 25 (by unfold ycl; omega) (by decide) (by decide)]; rfl
    have hT4 : yT0 σ2 m 4 = 0 := by
      show (am_i σ2 m 27).toBitVec.toNat = 0
      rw [zz 27 (by unfold ycl; omega) (by decide) (by decide)]; rfl
    have hT17 : yT0 σ2 m 17 = 0 := by
      show (am_i σ2 m 32).toBitVec.toNat = 0
      rw [zz 32 (by unfold ycl; omega) (by decide) (by decide)]; rfl
    have hZ : yZ σ2 m (xn_sc dr 0 ++ [(36, 0)]) 0 false [] W [] (am_i σ2 m 21) 0 w := ⟨H2, gT, ⟨zz 12 (by unfold ycl; omega) (by decide) (by decide), g1, ⟨zz 18 (by unfold ycl; omega) (by decide) (by decide), fun j q hj => by simp at hj⟩, hW2, ⟨zz 20 (by unfold ycl; omega) (by decide) (by decide), fun j q hj => by simp at hj⟩, rfl, zz 22 (by unfold ycl; omega) (by decide) (by decide), n23.trans q3⟩, q2, fun x hx => by cases hx⟩
    have hall := fun f hf => stm_all (f := f) gT.1 (xe_EN (xn_sc dr 0)) (xn_E2 dr) hT0 hT4 hT17 hf
    generalize yT0 σ2 m = T at *
    simp (disch := omega) only [ax_const, ax_iload, ax_lload, ax_aload, ax_istore, ax_astore, ax_iinc, ax_i2, ax_i2n, ax_l2, ax_lsh, ax_ii, ax_il, ax_li, ax_pop, ax_dup, ax_dup2, ax_if, ax_cmp, ax_acmp, ax_goto, ax_getI, ax_getR, ax_putI, ax_putR, ax_gets, ax_getsT, ax_aldI, ax_aldR, ax_astI, ax_astR, ax_alen, ax_ret, ax_aret, ax_vret, am_st, am_kl, List.getElem?_cons_zero, List.getElem?_cons_succ, List.set_cons_zero, List.set_cons_succ, Value.category, true_and, and_true, if_true, if_false, reduceCtorEq, Bool.false_eq_true, false_implies, forall_const, Option.some.injEq, exists_eq_left', exists_eq_left, Sum.inl.injEq, Sum.inr.injEq, Prod.mk.injEq, Option.toList_some, Option.toList_none, List.cons_append, List.nil_append, List.append_nil, H2.1, g1]
    refine ⟨?_, fun z => absurd trivial z⟩
    refine am_callK [.ref m] [] (d' := 9) (lim' := (am_tp σ2, am_us σ2)) rfl (by omega) (Nat.le_of_eq tp2) (Nat.le_of_eq us2) rfl (Nat.le_of_ble_eq_true rfl) (am_recv H2.1) ?_
    refine c_ystm (xe_EN (xn_sc dr 0)) hZ hR hT0 hT4 (by rw [hlen]; exact g11) hts1 (fun v hv σ3 W3 ns3 w3 k3 f3 t3 u3 => ?_)
    simp (disch := omega) only [Option.toList_some, Option.toList_none, List.cons_append, List.nil_append, List.append_nil]
    have f3' : ym_f (yre m) σ2 σ3 := (ym_f.rf.wi (a := m) (k := 24) (v := v) (Or.inl rfl)).tr (f3.1.mono (fun b x => by unfold yre; omega))
    have e24 : am_i σ3 m 24 = v := f3.2.2.trans ym_is
    have e13 : am_i σ3 m 13 = yb (ys_stm (xn_sc dr 0 ++ [(36, 0)]) T).2.1 := k3.1.2.2.1.2.1
    refine hQ σ3 ⟨ym_q.of k3, ?_⟩ (f2.tr f3')
    rw [xe_hd] at hv hall
    have hall' : ∀ f : Nat → Int32, f 4 = -1 → _ := fun f hf => by
      have := hall f hf
      rw [xe_parse (xe_hd _) (xe_nm _), xe_ok (xe_hd _)] at this
      exact this
    cases eb : (ys_stm (xn_sc dr 0 ++ [(36, 0)]) T).2.1 with
    | true =>
      rw [eb] at e13 hall'
      refine Or.inl ⟨e13, fun f hf => ?_⟩
      rcases hall' f hf with h | h
      · exact h.1
      · cases h.2.1
    | false =>
      rw [eb] at e13 hall'
      refine Or.inr ⟨e13, T, W3, ns3, w3, hT0, hT4, hT17, k3, fun s hs => by rw [e24]; exact hv s hs, fun f hf => ?_⟩
      rcases hall' f hf with h | h
      · cases h.2
      · exact ⟨h.1, h.2.2⟩
