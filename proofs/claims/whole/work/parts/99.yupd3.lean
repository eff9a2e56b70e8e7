/-! updated: its loops -/
theorem yup_70 {g : am_G} {l : Launch} {m d p lab col : Nat} {T : Nat → Nat} {o cm cv : yp_O} {V : List xr_E} {B : xr_E → Bool} {val : xr_E → Int32} {P : Nat → List xr_E} {x3 : Int32} {F : List xr_E × Nat} {σ0 : am_S} {Q : Option Value → am_S → Prop} (hd : 4 ≤ d) (hp : yUp T o cm B) (hv : yUv T o cv val) (hcol : T 3 = col ∧ (col = 1 ∨ col = 2)) (h0 : yUs σ0 m T o V) (hpt : p < 32)
    (hQ : ∀ σ', ym_P σ' m (fun q => if q = p then F.1 else P q) → yuG m σ0 σ' → Q (some (.int (nI F.2))) σ') :
    ∀ (S pre : List xr_E) (L : List xr_E) (c : Nat) (σ : am_S) (z6 z7 z8 z9 : Option Value), V = pre ++ S → yo_u B val lab col V S pre.length L c = F → yo_K B lab V pre.length L → L.length + yo_n B lab V S pre.length ≤ 6 → ym_P σ m (fun q => if q = p then L else P q) → yuG m σ0 σ →
      am_W g l mX10_updated d (am_tp σ0, am_us σ0) Q 70 [some (.ref m), some (.int (nI p)), some (.int (nI lab)), some (.int x3), some (.int (nI c)), some (.int (nI pre.length)), z6, z7, z8, z9] [] σ := by
  intro S
  induction S with
  | nil =>
    intro pre L c σ z6 z7 z8 z9 hV hu hK hn hP hf
    have h := h0.g hf
    have hH := h.1
    obtain ⟨n1, n2, n3⟩ := h.2.2.2
    rw [List.append_nil] at hV
    subst hV
    rw [yo_u] at hu
    subst hu
    refine kX10_updated_70 ?_
    simp (disch := omega) only [ax_const, ax_iload, ax_lload, ax_aload, ax_istore, ax_astore, ax_iinc, ax_i2, ax_i2n, ax_l2, ax_lsh, ax_ii, ax_il, ax_li, ax_pop, ax_dup, ax_dup2, ax_if, ax_cmp, ax_acmp, ax_goto, ax_getI, ax_getR, ax_putI, ax_putR, ax_gets, ax_getsT, ax_aldI, ax_aldR, ax_astI, ax_astR, ax_alen, ax_ret, ax_aret, ax_vret, am_st, am_kl, List.getElem?_cons_zero, List.getElem?_cons_succ, List.set_cons_zero, List.set_cons_succ, Value.category, true_and, and_true, if_true, if_false, reduceCtorEq, Bool.false_eq_true, false_implies, forall_const, Option.some.injEq, exists_eq_left', exists_eq_left, Sum.inl.injEq, Sum.inr.injEq, Prod.mk.injEq, nI_toInt, nI_clamp, am_ix_nI, am_ix_0, am_ix_1, am_ix_2, am_ix_3, am_n0, am_n1, am_n2, am_n3, am_n4, am_t0, am_t1, am_t2, am_t3, am_t4, am_tm1, am_nS, am_nP, am_nM, Int.ofNat_lt, Int.ofNat_le, hH.1, hH.r41, hH.s41, n1]
    exact ⟨by decide, fun z => by omega, fun _ => ⟨hf.tp, hf.us, hQ σ hP hf⟩⟩
  | cons x S ih =>
    intro pre L c σ z6 z7 z8 z9 hV hu hK hn hP hf
    have h := h0.g hf
    have hH := h.1
    obtain ⟨n1, n2, n3⟩ := h.2.2.2
    have hx : V[pre.length]? = some x := by rw [hV]; simp
    have hl : V.length = pre.length + (S.length + 1) := by rw [hV]; simp
    have hV' : V = (pre ++ [x]) ++ S := by rw [hV]; simp
    have hlen : (pre ++ [x]).length = pre.length + 1 := by simp
    have o1 : ¬ (1 : Int32) = 0 := by decide
    have y4 : (4 : Int32) = nI 4 := rfl
    have y3 : (3 : Int32) = nI 3 := rfl
    have y1 : (1 : Int32) = nI 1 := rfl
    have y2 : (2 : Int32) = nI 2 := rfl
    have cxs : ∀ σ', yuG m σ0 σ' → am_i σ' (m + 20) (4 * pre.length) = x.1 ∧ am_i σ' (m + 20) (4 * pre.length + 1) = x.2.1 ∧ am_i σ' (m + 20) (4 * pre.length + 2) = x.2.2.1 ∧ am_i σ' (m + 20) (4 * pre.length + 3) = x.2.2.2 := by
      intro σ' hf'
      have n3 := (h0.g hf').2.2.2.2.2
      have a0 := n3 pre.length x hx 0 (by decide)
      have a1 := n3 pre.length x hx 1 (by decide)
      have a2 := n3 pre.length x hx 2 (by decide)
      have a3 := n3 pre.length x hx 3 (by decide)
      rw [show 192 * 0 + 4 * pre.length + 0 = 4 * pre.length by omega] at a0
      rw [show 192 * 0 + 4 * pre.length + 1 = 4 * pre.length + 1 by omega] at a1
      rw [show 192 * 0 + 4 * pre.length + 2 = 4 * pre.length + 2 by omega] at a2
      rw [show 192 * 0 + 4 * pre.length + 3 = 4 * pre.length + 3 by omega] at a3
      exact ⟨a0, a1, a2, a3⟩
    rw [yo_u] at hu
    rw [yo_n] at hn
    -- what is left behind a row that is left alone, or is put
    have nx : ∀ (L' : List xr_E) (c' : Nat), yo_u B val lab col V S (pre.length + 1) L' c' = F → yo_K B lab V (pre.length + 1) L' → L'.length + yo_n B lab V S (pre.length + 1) ≤ 6 → ∀ σ' a6 a7 a8 a9, ym_P σ' m (fun q => if q = p then L' else P q) → yuG m σ0 σ' → am_W g l mX10_updated d (am_tp σ0, am_us σ0) Q 70 [some (.ref m), some (.int (nI p)), some (.int (nI lab)), some (.int x3), some (.int (nI c')), some (.int (nI (pre.length + 1))), a6, a7, a8, a9] [] σ' := by
      intro L' c' a b c1 σ' a6 a7 a8 a9 hP' hf'
      have := ih (pre ++ [x]) L' c' σ' a6 a7 a8 a9 hV' (by rw [hlen]; exact a) (by rw [hlen]; exact b) (by rw [hlen]; exact c1) hP' hf'
      rw [hlen] at this
      exact this
    -- behind makes, and a possible insert
    have l161 : ∀ (σ' : am_S) (L' : List xr_E), am_i σ' (m + 22) 0 = nI pre.length → yuG m σ0 σ' → ym_P σ' m (fun q => if q = p then L' else P q) → xo_ss L' → L' = (if yo_mk B lab pre.length V x = true then xr_add L (xo_lb lab x) else L) → ∀ a8 a9,
        am_W g l mX10_updated d (am_tp σ0, am_us σ0) Q 161 [some (.ref m), some (.int (nI p)), some (.int (nI lab)), some (.int x3), some (.int (nI c)), some (.int (nI pre.length)), some (.int (yb (yown lab x))), some (.int (yb (yo_mk B lab pre.length V x))), a8, a9] [] σ' := by
      intro σ' L' ha hf' hP' hss' eL a8 a9
      have h1 := h0.g hf'
      have hchl : ∀ (M : List xr_E) (k v : Int32), (xo_chg k col v M).length = M.length := fun M k v => by unfold xo_chg; rw [List.length_map]
      refine kX10_updated_161 ?_
      cases hm : yo_mk B lab pre.length V x with
      | true =>
        rw [hm, if_pos rfl] at hu hn eL
        subst eL
        obtain ⟨k1, k2, k3⟩ := hK.mk (v := val x) hcol.2 hx hm
        have e1 : yb true = 1 := rfl
        rw [e1]
        simp (disch := omega) only [ax_const, ax_iload, ax_lload, ax_aload, ax_istore, ax_astore, ax_iinc, ax_i2, ax_i2n, ax_l2, ax_lsh, ax_ii, ax_il, ax_li, ax_pop, ax_dup, ax_dup2, ax_if, ax_cmp, ax_acmp, ax_goto, ax_getI, ax_getR, ax_putI, ax_putR, ax_gets, ax_getsT, ax_aldI, ax_aldR, ax_astI, ax_astR, ax_alen, ax_ret, ax_aret, ax_vret, am_st, am_kl, List.getElem?_cons_zero, List.getElem?_cons_succ, List.set_cons_zero, List.set_cons_succ, Value.category, true_and, and_true, if_true, if_false, reduceCtorEq, Bool.false_eq_true, false_implies, forall_const, Option.some.injEq, exists_eq_left', exists_eq_left, Sum.inl.injEq, Sum.inr.injEq, Prod.mk.injEq, o1]
        exact fun _ => yup_178 (by omega) hp hv hcol h0 hpt hx ha hP' hss' ⟨_, xr_put_mem.mpr (Or.inl rfl), rfl⟩ hf' (fun σ2 b8 b9 hP2 hf2 => nx _ _ hu k3 (by rw [hchl, xr_add_len]; omega) σ2 _ _ b8 b9 hP2 hf2)
      | false =>
        rw [hm, if_neg Bool.false_ne_true] at hu hn eL
        subst eL
        have e0 : yb false = 0 := rfl
        rw [e0]
        cases hob : yown lab x with
        | false =>
          rw [hob, Bool.false_and, if_neg Bool.false_ne_true] at hu
          rw [e0]
          simp (disch := omega) only [ax_const, ax_iload, ax_lload, ax_aload, ax_istore, ax_astore, ax_iinc, ax_i2, ax_i2n, ax_l2, ax_lsh, ax_ii, ax_il, ax_li, ax_pop, ax_dup, ax_dup2, ax_if, ax_cmp, ax_acmp, ax_goto, ax_getI, ax_getR, ax_putI, ax_putR, ax_gets, ax_getsT, ax_aldI, ax_aldR, ax_astI, ax_astR, ax_alen, ax_ret, ax_aret, ax_vret, am_st, am_kl, List.getElem?_cons_zero, List.getElem?_cons_succ, List.set_cons_zero, List.set_cons_succ, Value.category, true_and, and_true, if_true, if_false, reduceCtorEq, Bool.false_eq_true, false_implies, forall_const, Option.some.injEq, exists_eq_left', exists_eq_left, Sum.inl.injEq, Sum.inr.injEq, Prod.mk.injEq, nI_toInt, nI_clamp, am_ix_nI, am_ix_0, am_ix_1, am_ix_2, am_ix_3, am_n0, am_n1, am_n2, am_n3, am_n4, am_t0, am_t1, am_t2, am_t3, am_t4, am_tm1, am_nS, am_nP, am_nM, Int.ofNat_lt, Int.ofNat_le]
          exact ⟨⟨nx _ _ hu (hK.skip hx hm) (by omega) σ' _ _ a8 a9 hP' hf', fun z => absurd trivial z⟩, fun z => absurd trivial z⟩
        | true =>
          rw [hob, Bool.true_and] at hu
          have e1 : yb true = 1 := rfl
          rw [e1]
          simp (disch := omega) only [ax_const, ax_iload, ax_lload, ax_aload, ax_istore, ax_astore, ax_iinc, ax_i2, ax_i2n, ax_l2, ax_lsh, ax_ii, ax_il, ax_li, ax_pop, ax_dup, ax_dup2, ax_if, ax_cmp, ax_acmp, ax_goto, ax_getI, ax_getR, ax_putI, ax_putR, ax_gets, ax_getsT, ax_aldI, ax_aldR, ax_astI, ax_astR, ax_alen, ax_ret, ax_aret, ax_vret, am_st, am_kl, List.getElem?_cons_zero, List.getElem?_cons_succ, List.set_cons_zero, List.set_cons_succ, Value.category, true_and, and_true, if_true, if_false, reduceCtorEq, Bool.false_eq_true, false_implies, forall_const, Option.some.injEq, exists_eq_left', exists_eq_left, Sum.inl.injEq, Sum.inr.injEq, Prod.mk.injEq, o1]
          refine ⟨fun _ => ?_, fun z => absurd trivial z⟩
          refine am_callK [.ref m] [] (d' := 2) (lim' := (am_tp σ', am_us σ')) rfl (by omega) (Nat.le_of_eq hf'.tp) (Nat.le_of_eq hf'.us) rfl (Nat.le_of_ble_eq_true rfl) (am_recv h1.1.1) ?_
          refine c_yh1 h1 hp hx ha (fun σ2 f2 t2 u2 => ?_)
          have hf2 : yuG m σ0 σ2 := hf'.tr (yuG.of (f2.mono (fun b x => Or.inr x)))
          have hP2 := hP'.u (f2.mono (fun b x => Or.inr x))
          cases hb : B x with
          | false =>
            rw [hb, if_neg Bool.false_ne_true] at hu
            rw [if_neg Bool.false_ne_true]
            simp (disch := omega) only [ax_const, ax_iload, ax_lload, ax_aload, ax_istore, ax_astore, ax_iinc, ax_i2, ax_i2n, ax_l2, ax_lsh, ax_ii, ax_il, ax_li, ax_pop, ax_dup, ax_dup2, ax_if, ax_cmp, ax_acmp, ax_goto, ax_getI, ax_getR, ax_putI, ax_putR, ax_gets, ax_getsT, ax_aldI, ax_aldR, ax_astI, ax_astR, ax_alen, ax_ret, ax_aret, ax_vret, am_st, am_kl, List.getElem?_cons_zero, List.getElem?_cons_succ, List.set_cons_zero, List.set_cons_succ, Value.category, true_and, and_true, if_true, if_false, reduceCtorEq, Bool.false_eq_true, false_implies, forall_const, Option.some.injEq, exists_eq_left', exists_eq_left, Sum.inl.injEq, Sum.inr.injEq, Prod.mk.injEq, Option.toList_some, Option.toList_none, List.cons_append, List.nil_append, List.append_nil, nI_toInt, nI_clamp, am_ix_nI, am_ix_0, am_ix_1, am_ix_2, am_ix_3, am_n0, am_n1, am_n2, am_n3, am_n4, am_t0, am_t1, am_t2, am_t3, am_t4, am_tm1, am_nS, am_nP, am_nM, Int.ofNat_lt, Int.ofNat_le]
            exact ⟨nx _ _ hu (hK.skip hx hm) (by omega) σ2 _ _ a8 a9 hP2 hf2, fun z => absurd trivial z⟩
          | true =>
            rw [hb, if_pos rfl] at hu
            rw [if_pos rfl]
            simp (disch := omega) only [ax_const, ax_iload, ax_lload, ax_aload, ax_istore, ax_astore, ax_iinc, ax_i2, ax_i2n, ax_l2, ax_lsh, ax_ii, ax_il, ax_li, ax_pop, ax_dup, ax_dup2, ax_if, ax_cmp, ax_acmp, ax_goto, ax_getI, ax_getR, ax_putI, ax_putR, ax_gets, ax_getsT, ax_aldI, ax_aldR, ax_astI, ax_astR, ax_alen, ax_ret, ax_aret, ax_vret, am_st, am_kl, List.getElem?_cons_zero, List.getElem?_cons_succ, List.set_cons_zero, List.set_cons_succ, Value.category, true_and, and_true, if_true, if_false, reduceCtorEq, Bool.false_eq_true, false_implies, forall_const, Option.some.injEq, exists_eq_left', exists_eq_left, Sum.inl.injEq, Sum.inr.injEq, Prod.mk.injEq, Option.toList_some, Option.toList_none, List.cons_append, List.nil_append, List.append_nil, o1]
            refine fun _ => yup_178 (by omega) hp hv hcol h0 hpt hx (by rw [f2.i (a := m + 22) (by omega)]; exact ha) hP2 hss' ((hK.2 x.1).mpr (Or.inl ⟨x, List.mem_of_getElem? hx, hob, rfl⟩)) hf2 (fun σ3 b8 b9 hP3 hf3 => nx _ _ hu (hK.own hcol.2 hx hm) (by rw [hchl]; omega) σ3 _ _ b8 b9 hP3 hf3)
    have l109 : ∀ (σ' : am_S), am_i σ' (m + 22) 0 = nI pre.length → yuG m σ0 σ' → ym_P σ' m (fun q => if q = p then L else P q) → am_W g l mX10_updated d (am_tp σ0, am_us σ0) Q 109 [some (.ref m), some (.int (nI p)), some (.int (nI lab)), some (.int x3), some (.int (nI c)), some (.int (nI pre.length)), z6, z7, z8, z9] [.int (yb (yown lab x))] σ' := by
      intro σ' ha hf' hP'
      have h1 := h0.g hf'
      refine kX10_updated_109 ?_
      simp (disch := omega) only [ax_const, ax_iload, ax_lload, ax_aload, ax_istore, ax_astore, ax_iinc, ax_i2, ax_i2n, ax_l2, ax_lsh, ax_ii, ax_il, ax_li, ax_pop, ax_dup, ax_dup2, ax_if, ax_cmp, ax_acmp, ax_goto, ax_getI, ax_getR, ax_putI, ax_putR, ax_gets, ax_getsT, ax_aldI, ax_aldR, ax_astI, ax_astR, ax_alen, ax_ret, ax_aret, ax_vret, am_st, am_kl, List.getElem?_cons_zero, List.getElem?_cons_succ, List.set_cons_zero, List.set_cons_succ, Value.category, true_and, and_true, if_true, if_false, reduceCtorEq, Bool.false_eq_true, false_implies, forall_const, Option.some.injEq, exists_eq_left', exists_eq_left, Sum.inl.injEq, Sum.inr.injEq, Prod.mk.injEq]
      refine am_callK [.ref m, .int (nI pre.length), .int (nI lab)] [] (d' := 3) (lim' := (am_tp σ', am_us σ')) rfl (by omega) (Nat.le_of_eq hf'.tp) (Nat.le_of_eq hf'.us) rfl (Nat.le_of_ble_eq_true rfl) (am_recv h1.1.1) ?_
      refine c_ymakes (lab := lab) h1 hp hx ha (fun σ2 ha2 f2 t2 u2 => ?_)
      have hf2 : yuG m σ0 σ2 := hf'.tr (yuG.of f2)
      have hP2 := hP'.u f2
      have h2 := h0.g hf2
      have hH2 := h2.1
      obtain ⟨c0, c1, c2, c3⟩ := cxs σ2 hf2
      cases hm : yo_mk B lab pre.length V x with
      | false =>
        have l := l161 σ2 L ha2 hf2 hP2 hK.1 (by rw [hm, if_neg Bool.false_ne_true])
        rw [hm] at l
        have e0 : yb false = 0 := rfl
        rw [e0] at l ⊢
        simp (disch := omega) only [ax_const, ax_iload, ax_lload, ax_aload, ax_istore, ax_astore, ax_iinc, ax_i2, ax_i2n, ax_l2, ax_lsh, ax_ii, ax_il, ax_li, ax_pop, ax_dup, ax_dup2, ax_if, ax_cmp, ax_acmp, ax_goto, ax_getI, ax_getR, ax_putI, ax_putR, ax_gets, ax_getsT, ax_aldI, ax_aldR, ax_astI, ax_astR, ax_alen, ax_ret, ax_aret, ax_vret, am_st, am_kl, List.getElem?_cons_zero, List.getElem?_cons_succ, List.set_cons_zero, List.set_cons_succ, Value.category, true_and, and_true, if_true, if_false, reduceCtorEq, Bool.false_eq_true, false_implies, forall_const, Option.some.injEq, exists_eq_left', exists_eq_left, Sum.inl.injEq, Sum.inr.injEq, Prod.mk.injEq, Option.toList_some, Option.toList_none, List.cons_append, List.nil_append, List.append_nil]
        exact ⟨l _ _, fun z => absurd trivial z⟩
      | true =>
        have l := fun σ3 hh a b => l161 σ3 (xr_add L (xo_lb lab x)) a b hh (hK.mk (v := val x) hcol.2 hx hm).2.1 (by rw [hm, if_pos rfl])
        rw [hm] at l
        rw [hm, if_pos rfl] at hn
        have e1 : yb true = 1 := rfl
        rw [e1] at l ⊢
        simp (disch := omega) only [ax_const, ax_iload, ax_lload, ax_aload, ax_istore, ax_astore, ax_iinc, ax_i2, ax_i2n, ax_l2, ax_lsh, ax_ii, ax_il, ax_li, ax_pop, ax_dup, ax_dup2, ax_if, ax_cmp, ax_acmp, ax_goto, ax_getI, ax_getR, ax_putI, ax_putR, ax_gets, ax_getsT, ax_aldI, ax_aldR, ax_astI, ax_astR, ax_alen, ax_ret, ax_aret, ax_vret, am_st, am_kl, List.getElem?_cons_zero, List.getElem?_cons_succ, List.set_cons_zero, List.set_cons_succ, Value.category, true_and, and_true, if_true, if_false, reduceCtorEq, Bool.false_eq_true, false_implies, forall_const, Option.some.injEq, exists_eq_left', exists_eq_left, Sum.inl.injEq, Sum.inr.injEq, Prod.mk.injEq, Option.toList_some, Option.toList_none, List.cons_append, List.nil_append, List.append_nil, nI_toInt, nI_clamp, am_ix_nI, am_ix_0, am_ix_1, am_ix_2, am_ix_3, am_n0, am_n1, am_n2, am_n3, am_n4, am_t0, am_t1, am_t2, am_t3, am_t4, am_tm1, am_nS, am_nP, am_nM, Int.ofNat_lt, Int.ofNat_le, o1, hH2.1, hH2.r40, hH2.s40, y4, y1, y2, pk_mul, nI_add, c0, c1]
        refine ⟨fun z => absurd z (by decide), fun _ => ⟨by omega, by omega, kX10_updated_157 ?_⟩⟩
        simp (disch := omega) only [ax_const, ax_iload, ax_lload, ax_aload, ax_istore, ax_astore, ax_iinc, ax_i2, ax_i2n, ax_l2, ax_lsh, ax_ii, ax_il, ax_li, ax_pop, ax_dup, ax_dup2, ax_if, ax_cmp, ax_acmp, ax_goto, ax_getI, ax_getR, ax_putI, ax_putR, ax_gets, ax_getsT, ax_aldI, ax_aldR, ax_astI, ax_astR, ax_alen, ax_ret, ax_aret, ax_vret, am_st, am_kl, List.getElem?_cons_zero, List.getElem?_cons_succ, List.set_cons_zero, List.set_cons_succ, Value.category, true_and, and_true, if_true, if_false, reduceCtorEq, Bool.false_eq_true, false_implies, forall_const, Option.some.injEq, exists_eq_left', exists_eq_left, Sum.inl.injEq, Sum.inr.injEq, Prod.mk.injEq, nI_toInt, nI_clamp, am_ix_nI, am_ix_0, am_ix_1, am_ix_2, am_ix_3, am_n0, am_n1, am_n2, am_n3, am_n4, am_t0, am_t1, am_t2, am_t3, am_t4, am_tm1, am_nS, am_nP, am_nM, Int.ofNat_lt, Int.ofNat_le, hH2.1, hH2.r40, hH2.s40, hH2.s40, c2]
        refine ⟨by omega, ?_⟩
        refine am_callK [.ref m, .int (nI p), .int (xo_lb lab x).1, .int (xo_lb lab x).2.1, .int (xo_lb lab x).2.2.1] [] (d' := 0) (lim' := (am_tp σ2, am_us σ2)) rfl (by omega) (Nat.le_of_eq hf2.tp) (Nat.le_of_eq hf2.us) rfl (Nat.le_of_ble_eq_true rfl) (am_recv hH2.1) ?_
        refine c_yinsert (e := xo_lb lab x) hH2 hP2 hpt (by rw [if_pos rfl]; omega) (fun σ3 hP3 f3 t3 u3 => ?_)
        simp (disch := omega) only [Option.toList_some, Option.toList_none, List.cons_append, List.nil_append, List.append_nil]
        refine l σ3 (hP3.ext (fun q => ?_)) (by rw [f3.i (a := m + 22) (by omega)]; exact ha2) (hf2.tr (f3.mono (fun b x => Or.inl x))) _ _
        by_cases cq : q = p
        · rw [if_pos cq, if_pos cq, if_pos rfl]
        · rw [if_neg cq, if_neg cq, if_neg cq]
    have hf1 : yuG m σ0 (am_wi σ (m + 22) 0 (nI pre.length)) := hf.wi (a := m + 22) (Or.inr (Or.inl rfl))
    have hP1 := hP.u (σ' := am_wi σ (m + 22) 0 (nI pre.length)) (ym_f.rf.wi (a := m + 22) (Or.inl rfl))
    have ea : am_i (am_wi σ (m + 22) 0 (nI pre.length)) (m + 22) 0 = nI pre.length := ym_is
    obtain ⟨c0, c1, c2, c3⟩ := cxs σ hf
    have l := l109 _ ea hf1 hP1
    refine kX10_updated_70 ?_
    simp (disch := omega) only [ax_const, ax_iload, ax_lload, ax_aload, ax_istore, ax_astore, ax_iinc, ax_i2, ax_i2n, ax_l2, ax_lsh, ax_ii, ax_il, ax_li, ax_pop, ax_dup, ax_dup2, ax_if, ax_cmp, ax_acmp, ax_goto, ax_getI, ax_getR, ax_putI, ax_putR, ax_gets, ax_getsT, ax_aldI, ax_aldR, ax_astI, ax_astR, ax_alen, ax_ret, ax_aret, ax_vret, am_st, am_kl, List.getElem?_cons_zero, List.getElem?_cons_succ, List.set_cons_zero, List.set_cons_succ, Value.category, true_and, and_true, if_true, if_false, reduceCtorEq, Bool.false_eq_true, false_implies, forall_const, Option.some.injEq, exists_eq_left', exists_eq_left, Sum.inl.injEq, Sum.inr.injEq, Prod.mk.injEq, nI_toInt, nI_clamp, am_ix_nI, am_ix_0, am_ix_1, am_ix_2, am_ix_3, am_n0, am_n1, am_n2, am_n3, am_n4, am_t0, am_t1, am_t2, am_t3, am_t4, am_tm1, am_nS, am_nP, am_nM, Int.ofNat_lt, Int.ofNat_le, am_sh_wi, am_r_wi, am_tp_wi, am_us_wi, ym_is, ym_io, ym_ij, hH.1, hH.r40, hH.s40, hH.r41, hH.s41, hH.r42, hH.s42, n1, y4, y3, pk_mul, nI_add, c3]
    refine ⟨by decide, fun _ => ⟨by decide, by omega, fun el => ?_, fun el => ?_⟩, fun z => by omega⟩
    · have : yown lab x = true := decide_eq_true el
      rw [this] at l
      exact l
    · have : yown lab x = false := decide_eq_false el
      rw [this] at l
      exact l
