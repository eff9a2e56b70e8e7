/-! select: ranks and values -/
theorem ysq_282 {g : am_G} {l : Launch} {m d s a : Nat} {T : Nat → Nat} {o : yp_O} {V1 V2 : List xr_E} {FL : List (Nat × Nat)} {gb sm : Bool} {mk : Nat → Int32} {GO FS : List Nat} {K : Nat → Int32} {down : Bool} {v2 : Int32} {σ : am_S} {tp us : Nat} {Q : Option Value → am_S → Prop} (hd : 3 ≤ d) (h : yS4 σ m T o V1 V2 FL gb sm mk GO FS) (ha : a < FS.length) (hdn : T 22 = 1 → am_i σ m 36 = yb down) (hT22 : T 22 ≤ 1) (hK0 : T 22 = 0 → ∀ a, K a = 0) (hKk : ∀ a, a < FS.length → am_i σ (m + 27) a = K a) (htp : am_tp σ = tp) (hus : am_us σ = us)
    (hK : am_W g l mX10_select d (tp, us) Q 321 [some (.ref m), some (.int (nI s)), some (.int v2), some (.int (nI a)), some (.int (nI (yrk down K FS.length a))), some (.int (nI 0))] [] σ) :
    ∀ (n b : Nat), n + b = FS.length → am_W g l mX10_select d (tp, us) Q 282 [some (.ref m), some (.int (nI s)), some (.int v2), some (.int (nI a)), some (.int (nI (yrk down K b a))), some (.int (nI b))] [] σ := by
  have hH := h.1.1
  have h45 := h.2.1.1
  have h40 := h.2.2.2.2
  intro n
  induction n with
  | zero =>
    intro b hn
    have hb : b = FS.length := by omega
    subst hb
    refine kX10_select_282 ?_
    simp (disch := omega) only [ax_const, ax_iload, ax_lload, ax_aload, ax_istore, ax_astore, ax_iinc, ax_i2, ax_i2n, ax_l2, ax_lsh, ax_ii, ax_il, ax_li, ax_pop, ax_dup, ax_dup2, ax_if, ax_cmp, ax_acmp, ax_goto, ax_getI, ax_getR, ax_putI, ax_putR, ax_gets, ax_getsT, ax_aldI, ax_aldR, ax_astI, ax_astR, ax_alen, ax_ret, ax_aret, ax_vret, am_st, am_kl, List.getElem?_cons_zero, List.getElem?_cons_succ, List.set_cons_zero, List.set_cons_succ, Value.category, true_and, and_true, if_true, if_false, reduceCtorEq, Bool.false_eq_true, false_implies, forall_const, Option.some.injEq, exists_eq_left', exists_eq_left, Sum.inl.injEq, Sum.inr.injEq, Prod.mk.injEq, nI_toInt, nI_clamp, am_ix_nI, am_ix_0, am_ix_1, am_ix_2, am_ix_3, am_n0, am_n1, am_n2, am_n3, am_n4, am_t0, am_t1, am_t2, am_t3, am_t4, am_tm1, am_nS, am_nP, am_nM, Int.ofNat_lt, Int.ofNat_le, hH.1, h45]
    exact ⟨fun z => by omega, fun _ => hK⟩
  | succ n ih =>
    intro b hn
    have hle : yrk down K b a ≤ b := by
      unfold yrk
      have := List.countP_le_length (p := fun b => yah down K b a) (l := List.range b)
      rwa [List.length_range] at this
    have hst : yrk down K (b + 1) a = yrk down K b a + (if yah down K b a = true then 1 else 0) := by
      unfold yrk
      rw [List.range_succ, List.countP_append, List.countP_singleton]
    have nx := ih (b + 1) (by omega)
    rw [hst] at nx
    refine kX10_select_282 ?_
    simp (disch := omega) only [ax_const, ax_iload, ax_lload, ax_aload, ax_istore, ax_astore, ax_iinc, ax_i2, ax_i2n, ax_l2, ax_lsh, ax_ii, ax_il, ax_li, ax_pop, ax_dup, ax_dup2, ax_if, ax_cmp, ax_acmp, ax_goto, ax_getI, ax_getR, ax_putI, ax_putR, ax_gets, ax_getsT, ax_aldI, ax_aldR, ax_astI, ax_astR, ax_alen, ax_ret, ax_aret, ax_vret, am_st, am_kl, List.getElem?_cons_zero, List.getElem?_cons_succ, List.set_cons_zero, List.set_cons_succ, Value.category, true_and, and_true, if_true, if_false, reduceCtorEq, Bool.false_eq_true, false_implies, forall_const, Option.some.injEq, exists_eq_left', exists_eq_left, Sum.inl.injEq, Sum.inr.injEq, Prod.mk.injEq, nI_toInt, nI_clamp, am_ix_nI, am_ix_0, am_ix_1, am_ix_2, am_ix_3, am_n0, am_n1, am_n2, am_n3, am_n4, am_t0, am_t1, am_t2, am_t3, am_t4, am_tm1, am_nS, am_nP, am_nM, Int.ofNat_lt, Int.ofNat_le, hH.1, h45]
    refine ⟨fun _ => ?_, fun z => by omega⟩
    refine am_callK [.ref m, .int (nI b), .int (nI a)] [] (d' := 0) (lim' := (am_tp σ, am_us σ)) rfl (by omega) (Nat.le_of_eq htp) (Nat.le_of_eq hus) rfl (Nat.le_of_ble_eq_true rfl) (am_recv hH.1) ?_
    refine c_yahead hH (by omega) (by omega) (fun hne => hdn ?_) (fun _ _ => ?_)
    · by_cases c : T 22 = 0
      · rw [hKk b (by omega), hKk a ha, hK0 c, hK0 c] at hne
        exact absurd rfl hne
      · omega
    rw [yah_ext (K' := K) (hKk b (by omega)) (hKk a ha)]
    cases hy : yah down K b a with
    | false =>
      rw [hy, if_neg Bool.false_ne_true] at nx
      have e0 : yb false = 0 := rfl
      rw [e0]
      simp (disch := omega) only [ax_const, ax_iload, ax_lload, ax_aload, ax_istore, ax_astore, ax_iinc, ax_i2, ax_i2n, ax_l2, ax_lsh, ax_ii, ax_il, ax_li, ax_pop, ax_dup, ax_dup2, ax_if, ax_cmp, ax_acmp, ax_goto, ax_getI, ax_getR, ax_putI, ax_putR, ax_gets, ax_getsT, ax_aldI, ax_aldR, ax_astI, ax_astR, ax_alen, ax_ret, ax_aret, ax_vret, am_st, am_kl, List.getElem?_cons_zero, List.getElem?_cons_succ, List.set_cons_zero, List.set_cons_succ, Value.category, true_and, and_true, if_true, if_false, reduceCtorEq, Bool.false_eq_true, false_implies, forall_const, Option.some.injEq, exists_eq_left', exists_eq_left, Sum.inl.injEq, Sum.inr.injEq, Prod.mk.injEq, Option.toList_some, Option.toList_none, List.cons_append, List.nil_append, List.append_nil, nI_toInt, nI_clamp, am_ix_nI, am_ix_0, am_ix_1, am_ix_2, am_ix_3, am_n0, am_n1, am_n2, am_n3, am_n4, am_t0, am_t1, am_t2, am_t3, am_t4, am_tm1, am_nS, am_nP, am_nM, Int.ofNat_lt, Int.ofNat_le]
      exact ⟨nx, fun z => absurd trivial z⟩
    | true =>
      rw [hy, if_pos rfl] at nx
      have e1 : yb true = 1 := rfl
      have o1 : ¬ (1 : Int32) = 0 := by decide
      rw [e1]
      simp (disch := omega) only [ax_const, ax_iload, ax_lload, ax_aload, ax_istore, ax_astore, ax_iinc, ax_i2, ax_i2n, ax_l2, ax_lsh, ax_ii, ax_il, ax_li, ax_pop, ax_dup, ax_dup2, ax_if, ax_cmp, ax_acmp, ax_goto, ax_getI, ax_getR, ax_putI, ax_putR, ax_gets, ax_getsT, ax_aldI, ax_aldR, ax_astI, ax_astR, ax_alen, ax_ret, ax_aret, ax_vret, am_st, am_kl, List.getElem?_cons_zero, List.getElem?_cons_succ, List.set_cons_zero, List.set_cons_succ, Value.category, true_and, and_true, if_true, if_false, reduceCtorEq, Bool.false_eq_true, false_implies, forall_const, Option.some.injEq, exists_eq_left', exists_eq_left, Sum.inl.injEq, Sum.inr.injEq, Prod.mk.injEq, Option.toList_some, Option.toList_none, List.cons_append, List.nil_append, List.append_nil, nI_toInt, nI_clamp, am_ix_nI, am_ix_0, am_ix_1, am_ix_2, am_ix_3, am_n0, am_n1, am_n2, am_n3, am_n4, am_t0, am_t1, am_t2, am_t3, am_t4, am_tm1, am_nS, am_nP, am_nM, Int.ofNat_lt, Int.ofNat_le, o1]
      exact fun _ => nx
theorem ysq_268 {g : am_G} {l : Launch} {m d s : Nat} {T : Nat → Nat} {o : yp_O} {V1 V2 : List xr_E} {FL : List (Nat × Nat)} {gb sm : Bool} {mk : Nat → Int32} {GO FS SO : List Nat} {val : Nat → xr_E → xr_E → Int32} {K : Nat → Int32} {down : Bool} {v2 : Int32} {σ0 : am_S} {Q : Option Value → am_S → Prop} (hd : 3 ≤ d) (hs : s < 4) (hT4 : T 4 ≤ 3) (h0 : yS4 σ0 m T o V1 V2 FL gb sm mk GO FS) (hT : ∀ c, c < T 4 → T (5 + c) < 3) (hv : ∀ c, c < T 4 → T (5 + c) ≠ 1 → yTm T o c (val c)) (hdn : T 22 = 1 → am_i σ0 m 36 = yb down) (hT22 : T 22 ≤ 1) (hK0 : T 22 = 0 → ∀ a, K a = 0) (hKk : ∀ a, a < FS.length → am_i σ0 (m + 27) a = K a) (hSO : ysr down K FS.length SO)
    (hQ : ∀ σ', yuR m s σ0 σ' → (∀ r c, r < FS.length → c < T 4 → am_i σ' (m + 31) (120 * s + 3 * r + c) = xl_vf (T (5 + c) + 1) (xl_at (val c) V1 V2 FL) (SO.getD r 0) GO 0 0) → Q (some (.int (nI FS.length))) σ') :
    ∀ (n a : Nat) (σ : am_S) (z4 z5 : Option Value), n + a = FS.length → yuR m s σ0 σ → ysE σ m s (T 4) (fun a c => xl_vf (T (5 + c) + 1) (xl_at (val c) V1 V2 FL) a GO 0 0) (yrk down K FS.length) a 0 → am_W g l mX10_select d (am_tp σ0, am_us σ0) Q 268 [some (.ref m), some (.int (nI s)), some (.int v2), some (.int (nI a)), z4, z5] [] σ := by
  obtain ⟨hl, hs1, hs2⟩ := yrk_at hSO
  intro n
  induction n with
  | zero =>
    intro a σ z4 z5 hn hf hE
    have h := h0.k hf.1
    have hH := h.1.1
    have h45 := h.2.1.1
    have h40 := h.2.2.2.2
    refine kX10_select_268 ?_
    simp (disch := omega) only [ax_const, ax_iload, ax_lload, ax_aload, ax_istore, ax_astore, ax_iinc, ax_i2, ax_i2n, ax_l2, ax_lsh, ax_ii, ax_il, ax_li, ax_pop, ax_dup, ax_dup2, ax_if, ax_cmp, ax_acmp, ax_goto, ax_getI, ax_getR, ax_putI, ax_putR, ax_gets, ax_getsT, ax_aldI, ax_aldR, ax_astI, ax_astR, ax_alen, ax_ret, ax_aret, ax_vret, am_st, am_kl, List.getElem?_cons_zero, List.getElem?_cons_succ, List.set_cons_zero, List.set_cons_succ, Value.category, true_and, and_true, if_true, if_false, reduceCtorEq, Bool.false_eq_true, false_implies, forall_const, Option.some.injEq, exists_eq_left', exists_eq_left, Sum.inl.injEq, Sum.inr.injEq, Prod.mk.injEq, nI_toInt, nI_clamp, am_ix_nI, am_ix_0, am_ix_1, am_ix_2, am_ix_3, am_n0, am_n1, am_n2, am_n3, am_n4, am_t0, am_t1, am_t2, am_t3, am_t4, am_tm1, am_nS, am_nP, am_nM, Int.ofNat_lt, Int.ofNat_le, hH.1, h45]
    refine ⟨fun z => by omega, fun _ => ⟨hf.1.tp, hf.1.us, hQ σ hf (fun r c hr hc => ?_)⟩⟩
    obtain ⟨k1, k2⟩ := hs1 r hr
    have := hE (SO.getD r 0) c hc (Or.inl (by omega))
    rw [k2] at this
    exact this
  | succ n ih =>
    intro a σ z4 z5 hn hf hE
    have h := h0.k hf.1
    have hH := h.1.1
    have h45 := h.2.1.1
    have h40 := h.2.2.2.2
    have d1 : T 22 = 1 → am_i σ m 36 = yb down := by rw [hf.1.i (a := m) (by omega)]; exact hdn
    have k1 : ∀ a, a < FS.length → am_i σ (m + 27) a = K a := fun a ha => by rw [hf.2.1]; exact hKk a ha
    have i321 := ysq_321 (g := g) (l := l) (v2 := v2) (rk := yrk down K FS.length) (a := a) (Q := Q) hd hs hT4 h0 hT hv (by omega) (fun a' ha' => (hs2 a' ha').1) (fun a' ha' e => by have x := (hs2 a' ha').2; have y := (hs2 a (by omega)).2; rw [e, y] at x; exact x.symm) (fun σ' z5 f E => ih (a + 1) σ' _ z5 (by omega) f E) (T 4) 0 σ (Nat.add_zero _) hf hE
    have i282 := ysq_282 (g := g) (l := l) (s := s) (v2 := v2) (Q := Q) hd h (show a < FS.length by omega) d1 hT22 hK0 k1 hf.1.tp hf.1.us i321 FS.length 0 (Nat.add_zero _)
    refine kX10_select_268 ?_
    simp (disch := omega) only [ax_const, ax_iload, ax_lload, ax_aload, ax_istore, ax_astore, ax_iinc, ax_i2, ax_i2n, ax_l2, ax_lsh, ax_ii, ax_il, ax_li, ax_pop, ax_dup, ax_dup2, ax_if, ax_cmp, ax_acmp, ax_goto, ax_getI, ax_getR, ax_putI, ax_putR, ax_gets, ax_getsT, ax_aldI, ax_aldR, ax_astI, ax_astR, ax_alen, ax_ret, ax_aret, ax_vret, am_st, am_kl, List.getElem?_cons_zero, List.getElem?_cons_succ, List.set_cons_zero, List.set_cons_succ, Value.category, true_and, and_true, if_true, if_false, reduceCtorEq, Bool.false_eq_true, false_implies, forall_const, Option.some.injEq, exists_eq_left', exists_eq_left, Sum.inl.injEq, Sum.inr.injEq, Prod.mk.injEq, nI_toInt, nI_clamp, am_ix_nI, am_ix_0, am_ix_1, am_ix_2, am_ix_3, am_n0, am_n1, am_n2, am_n3, am_n4, am_t0, am_t1, am_t2, am_t3, am_t4, am_tm1, am_nS, am_nP, am_nM, Int.ofNat_lt, Int.ofNat_le, hH.1, h45]
    exact ⟨fun _ => i282, fun z => by omega⟩
