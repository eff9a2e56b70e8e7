/-! select: gather -/
def ysH (m : Nat) (σ σ' : am_S) : Prop := ym_f (fun b => b = m ∨ b = m + 22 ∨ b = m + 23 ∨ b = m + 26 ∨ b = m + 28) σ σ' ∧ ∀ k, k ≠ 45 → am_i σ' m k = am_i σ m k
theorem ysH.rf {m : Nat} {σ : am_S} : ysH m σ σ := ⟨.rf, fun _ _ => rfl⟩
theorem ysH.tr {m : Nat} {σ σ' σ'' : am_S} (h : ysH m σ σ') (h' : ysH m σ' σ'') : ysH m σ σ'' := ⟨h.1.tr h'.1, fun k hk => (h'.2 k hk).trans (h.2 k hk)⟩
theorem ysH.of {m : Nat} {σ σ' : am_S} (h : yuF m σ σ') : ysH m σ σ' := ⟨h.mono (fun b x => by omega), fun k _ => by rw [h.i (a := m) (by omega)]⟩
theorem yR.k45 {σ σ' : am_S} {m : Nat} {T : Nat → Nat} (h : yR σ m T) (h0 : ∀ k, k ≠ 45 → am_i σ' m k = am_i σ m k) (h1 : am_i σ' (m + 16) = am_i σ (m + 16)) (h2 : am_i σ' (m + 17) = am_i σ (m + 17)) (h3 : am_i σ' (m + 18) = am_i σ (m + 18)) (h4 : am_i σ' (m + 19) = am_i σ (m + 19)) : yR σ' m T := by
  unfold yR
  rw [h0 25 (by decide), h0 26 (by decide), h0 27 (by decide), h0 32 (by decide), h0 37 (by decide), h0 38 (by decide), h0 33 (by decide), h0 34 (by decide), h0 35 (by decide), h0 36 (by decide), h0 39 (by decide), h1, h2, h3, h4]
  exact h
theorem yS2.h {σ σ' : am_S} {m : Nat} {T : Nat → Nat} {o : yp_O} {V1 V2 : List xr_E} {FL : List (Nat × Nat)} (h : yS2 σ m T o V1 V2 FL) (hf : ysH m σ σ') : yS2 σ' m T o V1 V2 FL := by
  obtain ⟨h1, h2, h3, h4, h5, h6, h7⟩ := h
  obtain ⟨f1, f2⟩ := hf
  refine ⟨h1.f f1, h2.k45 f2 (f1.i (by omega)) (f1.i (by omega)) (f1.i (by omega)) (f1.i (by omega)), h3.f (f2 18 (by decide)) (f1.i (by omega)) (f1.i (by omega)), ?_, fun q => ?_, ?_, h7⟩
  · unfold ym_N ym_cells
    rw [f1.i (a := m + 20) (by omega), f1.i (a := m + 21) (by omega)]
    exact h4
  · have := h5 q
    unfold ym_N ym_cells at this ⊢
    rw [f1.i (a := m + 20) (by omega), f1.i (a := m + 21) (by omega)]
    exact this
  · unfold yFd
    rw [f2 44 (by decide), f1.i (a := m + 24) (by omega), f1.i (a := m + 25) (by omega)]
    exact h6
theorem yg_n_x {gb fl : Bool} {mk : Nat → Int32} {FS : List Nat} {q : Nat} (h : gb = true ∨ fl = true) : yg_n gb mk FS q FS.length 0 FS.length = yg_x gb fl mk FS q := by
  unfold yg_n yg_x
  cases gb with
  | true => rfl
  | false =>
    have : fl = true := h.resolve_left (by decide)
    rw [if_neg Bool.false_ne_true, if_neg Bool.false_ne_true, this, if_pos rfl]
    split <;> omega
theorem ygt_64 {g : am_G} {l : Launch} {m d : Nat} {T : Nat → Nat} {o cv : yp_O} {V1 V2 : List xr_E} {FL : List (Nat × Nat)} {val : xr_E → xr_E → Int32} {fl gb : Bool} {R : List Nat × List Nat} {σ0 : am_S} {Q : Option Value → am_S → Prop} (hd : 2 ≤ d) (hgb : T 21 = (if gb = true then 1 else 0))
    (hv : gb = true → yz o (T 24) (T 24 + 1) cv ∧ (∀ a b, ym_run (yv2 T a b) cv [] = some [val a b]))
    (hQ : ∀ σ', yS2 σ' m T o V1 V2 FL → yGr σ' m R.1 R.2 → ysH m σ0 σ' → Q none σ') :
    ∀ (n : Nat) (GO FS : List Nat) (σ : am_S) (z3 z4 z5 : Option Value), n + GO.length = FL.length → FS.length ≤ GO.length → yg_I gb fl (xl_at val V1 V2 FL) GO FS → yg_r gb fl (xl_at val V1 V2 FL) n GO FS = R → yS2 σ m T o V1 V2 FL → yGr σ m GO FS → ysH m σ0 σ → am_W g l mX10_gather d (am_tp σ0, am_us σ0) Q 64 [some (.ref m), some (.int (yb fl)), some (.int (nI GO.length)), z3, z4, z5] [] σ := by
  intro n
  induction n with
  | zero =>
    intro GO FS σ z3 z4 z5 hn hl hI hR h hG hf
    have hH := h.1
    obtain ⟨f1, f2, f3⟩ := h.2.2.2.2.2.1
    have hR : (GO, FS) = R := hR
    subst hR
    refine kX10_gather_64 ?_
    simp (disch := omega) only [ax_const, ax_iload, ax_lload, ax_aload, ax_istore, ax_astore, ax_iinc, ax_i2, ax_i2n, ax_l2, ax_lsh, ax_ii, ax_il, ax_li, ax_pop, ax_dup, ax_dup2, ax_if, ax_cmp, ax_acmp, ax_goto, ax_getI, ax_getR, ax_putI, ax_putR, ax_gets, ax_getsT, ax_aldI, ax_aldR, ax_astI, ax_astR, ax_alen, ax_ret, ax_aret, ax_vret, am_st, am_kl, List.getElem?_cons_zero, List.getElem?_cons_succ, List.set_cons_zero, List.set_cons_succ, Value.category, true_and, and_true, if_true, if_false, reduceCtorEq, Bool.false_eq_true, false_implies, forall_const, Option.some.injEq, exists_eq_left', exists_eq_left, Sum.inl.injEq, Sum.inr.injEq, Prod.mk.injEq, nI_toInt, nI_clamp, am_ix_nI, am_ix_0, am_ix_1, am_ix_2, am_ix_3, am_n0, am_n1, am_n2, am_n3, am_n4, am_t0, am_t1, am_t2, am_t3, am_t4, am_tm1, am_nS, am_nP, am_nM, Int.ofNat_lt, Int.ofNat_le, hH.1, f1]
    exact ⟨fun z => by omega, fun _ => ⟨hf.1.tp, hf.1.us, hQ σ h hG hf⟩⟩
  | succ n ih =>
    intro GO FS σ z3 z4 z5 hn hl hI hR h hG hf
    have hH := h.1
    obtain ⟨f1, f2, f3⟩ := h.2.2.2.2.2.1
    obtain ⟨⟨i, j⟩, hij⟩ : ∃ p, FL[GO.length]? = some p := ⟨_, List.getElem?_eq_getElem (by omega)⟩
    obtain ⟨p1, p2⟩ := f3 _ _ hij
    have hat : xl_at val V1 V2 FL GO.length = val (V1.getD i xr_0) (V2.getD j xr_0) := by
      unfold xl_at
      rw [List.getD_eq_getElem?_getD (l := FL), hij]
      rfl
    obtain ⟨s1, s2⟩ := hI.step
    have nx : ∀ (σ' : am_S) (v4 : Int32) z5, yuF m σ σ' → am_W g l mX10_gather d (am_tp σ0, am_us σ0) Q 182 [some (.ref m), some (.int (yb fl)), some (.int (nI GO.length)), some (.int (nI (yg_x gb fl (xl_at val V1 V2 FL) FS GO.length))), some (.int v4), z5] [] σ' := by
      intro σ' v4 z5 hu
      refine ygt_182 (hH.f hu) (hG.u hu) rfl (by omega) (by omega) s1 (fun σ2 a b c => ?_)
      have h2 : ysH m σ' σ2 := ⟨b.mono (fun b x => by omega), c⟩
      have := ih (GO ++ [yg_x gb fl (xl_at val V1 V2 FL) FS GO.length]) (if yg_x gb fl (xl_at val V1 V2 FL) FS GO.length = FS.length then FS ++ [GO.length] else FS) σ2 (some (.int (nI (yg_x gb fl (xl_at val V1 V2 FL) FS GO.length)))) (some (.int v4)) z5 (by rw [List.length_append, List.length_cons, List.length_nil]; omega) (by rw [List.length_append, List.length_cons, List.length_nil]; split <;> simp <;> omega) s2 hR ((h.f hu).h h2) a ((hf.tr (ysH.of hu)).tr h2)
      rw [List.length_append, List.length_cons, List.length_nil] at this
      exact this
    -- to 112
    have l112 : ∀ (σ1 : am_S) (v4 : Int32), yuF m σ σ1 → (gb = true → v4 = xl_at val V1 V2 FL GO.length) → am_W g l mX10_gather d (am_tp σ0, am_us σ0) Q 112 [some (.ref m), some (.int (yb fl)), some (.int (nI GO.length)), some (.int (nI FS.length)), some (.int v4), some (.int (nI 0))] [] σ1 := by
      intro σ1 v4 hu hv4
      by_cases c : gb = true ∨ fl = true
      · have e : (am_tp σ0, am_us σ0) = (am_tp σ, am_us σ) := by rw [hf.1.tp, hf.1.us]
        rw [e]
        refine ygt_112 (R := yg_x gb fl (xl_at val V1 V2 FL) FS GO.length) (σ0 := σ) hd h hG hgb c (by omega) (fun g' hg' => by have := (hI.1 g' hg').1; omega) (fun e => ⟨(hv e).1, (hv e).2, hv4 e⟩) (fun σ' z5 hu' => by rw [← e]; exact nx σ' v4 z5 hu') FS.length 0 FS.length σ1 (Nat.add_zero _) (yg_n_x c) hu
      · have c1 : gb = false := by cases gb; rfl; exact absurd (Or.inl rfl) c
        have c2 : fl = false := by cases fl; rfl; exact absurd (Or.inr rfl) c
        have := nx σ1 v4 (some (.int (nI 0))) hu
        have ex : yg_x gb fl (xl_at val V1 V2 FL) FS GO.length = FS.length := by
          unfold yg_x
          rw [c1, c2]
          rfl
        rw [ex, c2] at this
        have e0 : yb false = 0 := rfl
        have h34 : am_i σ1 m 34 = 0 := by
          have := (h.f hu).2.1.2.2.2.2.2.2.2.2.2.1
          rw [this, hgb, c1]
          rfl
        rw [e0] at this
        rw [c2, e0]
        refine kX10_gather_112 ?_
        simp (disch := omega) only [ax_const, ax_iload, ax_lload, ax_aload, ax_istore, ax_astore, ax_iinc, ax_i2, ax_i2n, ax_l2, ax_lsh, ax_ii, ax_il, ax_li, ax_pop, ax_dup, ax_dup2, ax_if, ax_cmp, ax_acmp, ax_goto, ax_getI, ax_getR, ax_putI, ax_putR, ax_gets, ax_getsT, ax_aldI, ax_aldR, ax_astI, ax_astR, ax_alen, ax_ret, ax_aret, ax_vret, am_st, am_kl, List.getElem?_cons_zero, List.getElem?_cons_succ, List.set_cons_zero, List.set_cons_succ, Value.category, true_and, and_true, if_true, if_false, reduceCtorEq, Bool.false_eq_true, false_implies, forall_const, Option.some.injEq, exists_eq_left', exists_eq_left, Sum.inl.injEq, Sum.inr.injEq, Prod.mk.injEq, nI_toInt, nI_clamp, am_ix_nI, am_ix_0, am_ix_1, am_ix_2, am_ix_3, am_n0, am_n1, am_n2, am_n3, am_n4, am_t0, am_t1, am_t2, am_t3, am_t4, am_tm1, am_nS, am_nP, am_nM, Int.ofNat_lt, Int.ofNat_le, (h.f hu).1.1, (hG.u hu).1, h34]
        exact ⟨fun _ => ⟨⟨this, fun z => absurd trivial z⟩, fun z => absurd trivial z⟩, fun _ => this⟩
    refine kX10_gather_64 ?_
    simp (disch := omega) only [ax_const, ax_iload, ax_lload, ax_aload, ax_istore, ax_astore, ax_iinc, ax_i2, ax_i2n, ax_l2, ax_lsh, ax_ii, ax_il, ax_li, ax_pop, ax_dup, ax_dup2, ax_if, ax_cmp, ax_acmp, ax_goto, ax_getI, ax_getR, ax_putI, ax_putR, ax_gets, ax_getsT, ax_aldI, ax_aldR, ax_astI, ax_astR, ax_alen, ax_ret, ax_aret, ax_vret, am_st, am_kl, List.getElem?_cons_zero, List.getElem?_cons_succ, List.set_cons_zero, List.set_cons_succ, Value.category, true_and, and_true, if_true, if_false, reduceCtorEq, Bool.false_eq_true, false_implies, forall_const, Option.some.injEq, exists_eq_left', exists_eq_left, Sum.inl.injEq, Sum.inr.injEq, Prod.mk.injEq, nI_toInt, nI_clamp, am_ix_nI, am_ix_0, am_ix_1, am_ix_2, am_ix_3, am_n0, am_n1, am_n2, am_n3, am_n4, am_t0, am_t1, am_t2, am_t3, am_t4, am_tm1, am_nS, am_nP, am_nM, Int.ofNat_lt, Int.ofNat_le, hH.1, f1, hG.1]
    refine ⟨fun _ => ?_, fun z => by omega⟩
    refine am_callK [.ref m, .int (nI GO.length)] [] (d' := 0) (lim' := (am_tp σ, am_us σ)) rfl (by omega) (Nat.le_of_eq hf.1.tp) (Nat.le_of_eq hf.1.us) rfl (Nat.le_of_ble_eq_true rfl) (am_recv hH.1) ?_
    refine c_ypoint hH (by omega) p1 p2 (fun σ1 q1 q2 g1 t1 u1 => ?_)
    have F1 : yuF m σ σ1 := g1.mono (fun b x => Or.inl x)
    have h1 := h.f F1
    have hH1 := h1.1
    have x34 : am_i σ1 m 34 = nI (T 21) := h1.2.1.2.2.2.2.2.2.2.2.2.1
    have x39 : am_i σ1 m 39 = nI (T 24) := h1.2.1.2.2.2.2.2.2.2.2.2.2.2.2
    cases hgbc : gb with
    | false =>
      have l := l112 σ1 0 F1 (fun z => absurd (hgbc.symm.trans z) (by decide))
      rw [hgb, hgbc, if_neg Bool.false_ne_true] at x34
      have x34 : am_i σ1 m 34 = 0 := x34
      simp (disch := omega) only [ax_const, ax_iload, ax_lload, ax_aload, ax_istore, ax_astore, ax_iinc, ax_i2, ax_i2n, ax_l2, ax_lsh, ax_ii, ax_il, ax_li, ax_pop, ax_dup, ax_dup2, ax_if, ax_cmp, ax_acmp, ax_goto, ax_getI, ax_getR, ax_putI, ax_putR, ax_gets, ax_getsT, ax_aldI, ax_aldR, ax_astI, ax_astR, ax_alen, ax_ret, ax_aret, ax_vret, am_st, am_kl, List.getElem?_cons_zero, List.getElem?_cons_succ, List.set_cons_zero, List.set_cons_succ, Value.category, true_and, and_true, if_true, if_false, reduceCtorEq, Bool.false_eq_true, false_implies, forall_const, Option.some.injEq, exists_eq_left', exists_eq_left, Sum.inl.injEq, Sum.inr.injEq, Prod.mk.injEq, Option.toList_some, Option.toList_none, List.cons_append, List.nil_append, List.append_nil, nI_toInt, nI_clamp, am_ix_nI, am_ix_0, am_ix_1, am_ix_2, am_ix_3, am_n0, am_n1, am_n2, am_n3, am_n4, am_t0, am_t1, am_t2, am_t3, am_t4, am_tm1, am_nS, am_nP, am_nM, Int.ofNat_lt, Int.ofNat_le, hH1.1, x34]
      exact ⟨l, fun z => absurd trivial z⟩
    | true =>
      have o1 : ¬ (1 : Int32) = 0 := by decide
      have y1 : (1 : Int32) = nI 1 := rfl
      obtain ⟨hz, hcv⟩ := hv hgbc
      rw [hgb, hgbc, if_pos rfl] at x34
      have x34 : am_i σ1 m 34 = 1 := x34
      simp (disch := omega) only [ax_const, ax_iload, ax_lload, ax_aload, ax_istore, ax_astore, ax_iinc, ax_i2, ax_i2n, ax_l2, ax_lsh, ax_ii, ax_il, ax_li, ax_pop, ax_dup, ax_dup2, ax_if, ax_cmp, ax_acmp, ax_goto, ax_getI, ax_getR, ax_putI, ax_putR, ax_gets, ax_getsT, ax_aldI, ax_aldR, ax_astI, ax_astR, ax_alen, ax_ret, ax_aret, ax_vret, am_st, am_kl, List.getElem?_cons_zero, List.getElem?_cons_succ, List.set_cons_zero, List.set_cons_succ, Value.category, true_and, and_true, if_true, if_false, reduceCtorEq, Bool.false_eq_true, false_implies, forall_const, Option.some.injEq, exists_eq_left', exists_eq_left, Sum.inl.injEq, Sum.inr.injEq, Prod.mk.injEq, Option.toList_some, Option.toList_none, List.cons_append, List.nil_append, List.append_nil, nI_toInt, nI_clamp, am_ix_nI, am_ix_0, am_ix_1, am_ix_2, am_ix_3, am_n0, am_n1, am_n2, am_n3, am_n4, am_t0, am_t1, am_t2, am_t3, am_t4, am_tm1, am_nS, am_nP, am_nM, Int.ofNat_lt, Int.ofNat_le, hH1.1, x34, o1, x39]
      intro _
      have t0 : am_tp σ1 = am_tp σ0 := t1.trans hf.1.tp
      have u0 : am_us σ1 = am_us σ0 := u1.trans hf.1.us
      refine am_callK [.ref m, .int (nI (T 24)), .int (nI (T 24 + 1))] [] (d' := 1) (lim' := (am_tp σ1, am_us σ1)) rfl (by omega) (Nat.le_of_eq t0) (Nat.le_of_eq u0) rfl (Nat.le_of_ble_eq_true rfl) (am_recv hH1.1) ?_
      refine c_ywork hH1 h1.2.2.2.2.2.2.2.1 h1.2.2.1 h1.2.2.2.2.2.2.2.2.1 h1.2.2.2.2.2.2.2.2.2 (h1.E hij q1 q2) hz (hcv _ _) (fun σ2 g2 t2 u2 => ?_)
      have l := l112 σ2 (xl_at val V1 V2 FL GO.length) (ym_f.tr F1 (g2.mono (fun b x => Or.inr x))) (fun _ => rfl)
      rw [hat] at l
      simp (disch := omega) only [ax_const, ax_iload, ax_lload, ax_aload, ax_istore, ax_astore, ax_iinc, ax_i2, ax_i2n, ax_l2, ax_lsh, ax_ii, ax_il, ax_li, ax_pop, ax_dup, ax_dup2, ax_if, ax_cmp, ax_acmp, ax_goto, ax_getI, ax_getR, ax_putI, ax_putR, ax_gets, ax_getsT, ax_aldI, ax_aldR, ax_astI, ax_astR, ax_alen, ax_ret, ax_aret, ax_vret, am_st, am_kl, List.getElem?_cons_zero, List.getElem?_cons_succ, List.set_cons_zero, List.set_cons_succ, Value.category, true_and, and_true, if_true, if_false, reduceCtorEq, Bool.false_eq_true, false_implies, forall_const, Option.some.injEq, exists_eq_left', exists_eq_left, Sum.inl.injEq, Sum.inr.injEq, Prod.mk.injEq, Option.toList_some, Option.toList_none, List.cons_append, List.nil_append, List.append_nil, nI_toInt, nI_clamp, am_ix_nI, am_ix_0, am_ix_1, am_ix_2, am_ix_3, am_n0, am_n1, am_n2, am_n3, am_n4, am_t0, am_t1, am_t2, am_t3, am_t4, am_tm1, am_nS, am_nP, am_nM, Int.ofNat_lt, Int.ofNat_le]
      exact l
theorem c_ygather {g : am_G} {l : Launch} {σ : am_S} {m : Nat} {T : Nat → Nat} {o cv : yp_O} {V1 V2 : List xr_E} {FL : List (Nat × Nat)} {val : xr_E → xr_E → Int32} {gb : Bool} {Q : Option Value → am_S → Prop} (h : yS2 σ m T o V1 V2 FL) (hgb : T 21 = (if gb = true then 1 else 0)) (hT4 : T 4 ≤ 3) (hT22 : T 22 ≤ 1) (hT : ∀ c, c < T 4 → T (5 + c) < 3) (hT8 : T 22 = 1 → T 8 < 3)
    (hv : gb = true → yz o (T 24) (T 24 + 1) cv ∧ (∀ a b, ym_run (yv2 T a b) cv [] = some [val a b]))
    (hQ : ∀ σ', yS2 σ' m T o V1 V2 FL → yGr σ' m (yg_r gb (ygS T) (xl_at val V1 V2 FL) FL.length [] []).1 (yg_r gb (ygS T) (xl_at val V1 V2 FL) FL.length [] []).2 → ysH m σ σ' → Q none σ') : am_C g l mX10_gather 2 (am_tp σ, am_us σ) [.ref m] σ Q := by
  have f0 : ysH m σ (am_wi σ m 45 0) := ⟨(ym_f.rf).wi (a := m) (by omega), fun k hk => by rw [ym_ij hk]⟩
  refine am_C.go [some (.ref m), none, none, none, none, none] (by decide +kernel) (Nat.le_of_ble_eq_true rfl) rfl (ygt_0 h.1 h.2.1 hT4 hT22 hT hT8 ?_)
  refine ygt_64 (σ0 := σ) (Nat.le_refl _) hgb hv hQ FL.length [] [] _ none none none (Nat.add_zero _) (Nat.le_refl _) yg_I.nil rfl (h.h f0) ⟨ym_is, fun q x hq => by simp at hq, fun g' hg' => absurd hg' (Nat.not_lt_zero _)⟩ f0
