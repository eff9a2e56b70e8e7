/-! updated: the count, and all of it -/
theorem yup_5 {g : am_G} {l : Launch} {m d p lab : Nat} {T : Nat → Nat} {o cm : yp_O} {V : List xr_E} {B : xr_E → Bool} {σ0 : am_S} {Q : Option Value → am_S → Prop} {z5 z6 z7 z8 z9 : Option Value} {n0 : Nat} (hd : 4 ≤ d) (hp : yUp T o cm B) (h0 : yUs σ0 m T o V) (hpt : p < 32) (hn0 : am_i σ0 (m + 2) p = nI n0) (hn6 : n0 ≤ 6)
    (hQ0 : 6 < n0 + yo_n B lab V V 0 → ∀ σ', yuF m σ0 σ' → Q (some (.int (-5))) σ') (hQ1 : n0 + yo_n B lab V V 0 ≤ 6 → ∀ σ', yuF m σ0 σ' → am_W g l mX10_updated d (am_tp σ0, am_us σ0) Q 70 [some (.ref m), some (.int (nI p)), some (.int (nI lab)), some (.int (nI (yo_n B lab V V 0))), some (.int (nI 0)), some (.int (nI 0)), z6, z7, z8, z9] [] σ') :
    ∀ (S pre : List xr_E) (c : Nat) (σ : am_S), V = pre ++ S → c + yo_n B lab V S pre.length = yo_n B lab V V 0 → c ≤ pre.length → yuF m σ0 σ → am_W g l mX10_updated d (am_tp σ0, am_us σ0) Q 5 [some (.ref m), some (.int (nI p)), some (.int (nI lab)), some (.int (nI c)), some (.int (nI pre.length)), z5, z6, z7, z8, z9] [] σ := by
  intro S
  induction S with
  | nil =>
    intro pre c σ hV hc hcl hf
    have h := h0.f hf
    have hH := h.1
    obtain ⟨n1, n2, n3⟩ := h.2.2.2
    have hl : V.length = pre.length := by rw [hV]; simp
    have hc : c = yo_n B lab V V 0 := hc
    subst hc
    have e2 : am_i σ (m + 2) p = nI n0 := by rw [hf.i (a := m + 2) (by omega)]; exact hn0
    refine kX10_updated_5 ?_
    simp (disch := omega) only [ax_const, ax_iload, ax_lload, ax_aload, ax_istore, ax_astore, ax_iinc, ax_i2, ax_i2n, ax_l2, ax_lsh, ax_ii, ax_il, ax_li, ax_pop, ax_dup, ax_dup2, ax_if, ax_cmp, ax_acmp, ax_goto, ax_getI, ax_getR, ax_putI, ax_putR, ax_gets, ax_getsT, ax_aldI, ax_aldR, ax_astI, ax_astR, ax_alen, ax_ret, ax_aret, ax_vret, am_st, am_kl, List.getElem?_cons_zero, List.getElem?_cons_succ, List.set_cons_zero, List.set_cons_succ, Value.category, true_and, and_true, if_true, if_false, reduceCtorEq, Bool.false_eq_true, false_implies, forall_const, Option.some.injEq, exists_eq_left', exists_eq_left, Sum.inl.injEq, Sum.inr.injEq, Prod.mk.injEq, nI_toInt, nI_clamp, am_ix_nI, am_ix_0, am_ix_1, am_ix_2, am_ix_3, am_n0, am_n1, am_n2, am_n3, am_n4, am_t0, am_t1, am_t2, am_t3, am_t4, am_tm1, am_nS, am_nP, am_nM, Int.ofNat_lt, Int.ofNat_le, hH.1, hH.r1, hH.s1, hH.r41, hH.s41, n1, e2, nI_add, yl_6, yl_lt]
    exact ⟨by decide, fun z => by omega, fun _ => ⟨hpt, fun z => ⟨hf.tp, hf.us, hQ0 z σ hf⟩, fun z => hQ1 (by omega) σ hf⟩⟩
  | cons x S ih =>
    intro pre c σ hV hc hcl hf
    have h := h0.f hf
    have hH := h.1
    obtain ⟨n1, n2, n3⟩ := h.2.2.2
    have hx : V[pre.length]? = some x := by rw [hV]; simp
    have hl : V.length = pre.length + (S.length + 1) := by rw [hV]; simp
    have hlen : (pre ++ [x]).length = pre.length + 1 := by simp
    have o1 : ¬ (1 : Int32) = 0 := by decide
    have hf1 : yuF m σ0 (am_wi σ (m + 22) 0 (nI pre.length)) := hf.wi (a := m + 22) (Or.inl rfl)
    have h1 := h0.f hf1
    have ea : am_i (am_wi σ (m + 22) 0 (nI pre.length)) (m + 22) 0 = nI pre.length := ym_is
    rw [yo_n] at hc
    refine kX10_updated_5 ?_
    simp (disch := omega) only [ax_const, ax_iload, ax_lload, ax_aload, ax_istore, ax_astore, ax_iinc, ax_i2, ax_i2n, ax_l2, ax_lsh, ax_ii, ax_il, ax_li, ax_pop, ax_dup, ax_dup2, ax_if, ax_cmp, ax_acmp, ax_goto, ax_getI, ax_getR, ax_putI, ax_putR, ax_gets, ax_getsT, ax_aldI, ax_aldR, ax_astI, ax_astR, ax_alen, ax_ret, ax_aret, ax_vret, am_st, am_kl, List.getElem?_cons_zero, List.getElem?_cons_succ, List.set_cons_zero, List.set_cons_succ, Value.category, true_and, and_true, if_true, if_false, reduceCtorEq, Bool.false_eq_true, false_implies, forall_const, Option.some.injEq, exists_eq_left', exists_eq_left, Sum.inl.injEq, Sum.inr.injEq, Prod.mk.injEq, nI_toInt, nI_clamp, am_ix_nI, am_ix_0, am_ix_1, am_ix_2, am_ix_3, am_n0, am_n1, am_n2, am_n3, am_n4, am_t0, am_t1, am_t2, am_t3, am_t4, am_tm1, am_nS, am_nP, am_nM, Int.ofNat_lt, Int.ofNat_le, am_sh_wi, am_r_wi, am_tp_wi, am_us_wi, ym_is, ym_io, ym_ij, hH.1, hH.r41, hH.s41, hH.r42, hH.s42, n1]
    refine ⟨by decide, fun _ => ⟨by decide, ?_⟩, fun z => by omega⟩
    generalize am_wi σ (m + 22) 0 (nI pre.length) = σ1 at *
    refine am_callK [.ref m, .int (nI pre.length), .int (nI lab)] [] (d' := 3) (lim' := (am_tp σ1, am_us σ1)) rfl (by omega) (Nat.le_of_eq hf1.tp) (Nat.le_of_eq hf1.us) rfl (Nat.le_of_ble_eq_true rfl) (am_recv h1.1.1) ?_
    refine c_ymakes (lab := lab) h1 hp hx ea (fun σ2 ha2 f2 t2 u2 => ?_)
    have hf2 : yuF m σ0 σ2 := ym_f.tr hf1 f2
    cases hm : yo_mk B lab pre.length V x with
    | false =>
      rw [hm, if_neg Bool.false_ne_true, Nat.zero_add] at hc
      have nx := ih (pre ++ [x]) c σ2 (by rw [hV]; simp) (by rw [hlen]; exact hc) (by rw [hlen]; omega) hf2
      rw [hlen] at nx
      have e0 : yb false = 0 := rfl
      rw [e0]
      simp (disch := omega) only [ax_const, ax_iload, ax_lload, ax_aload, ax_istore, ax_astore, ax_iinc, ax_i2, ax_i2n, ax_l2, ax_lsh, ax_ii, ax_il, ax_li, ax_pop, ax_dup, ax_dup2, ax_if, ax_cmp, ax_acmp, ax_goto, ax_getI, ax_getR, ax_putI, ax_putR, ax_gets, ax_getsT, ax_aldI, ax_aldR, ax_astI, ax_astR, ax_alen, ax_ret, ax_aret, ax_vret, am_st, am_kl, List.getElem?_cons_zero, List.getElem?_cons_succ, List.set_cons_zero, List.set_cons_succ, Value.category, true_and, and_true, if_true, if_false, reduceCtorEq, Bool.false_eq_true, false_implies, forall_const, Option.some.injEq, exists_eq_left', exists_eq_left, Sum.inl.injEq, Sum.inr.injEq, Prod.mk.injEq, Option.toList_some, Option.toList_none, List.cons_append, List.nil_append, List.append_nil, nI_toInt, nI_clamp, am_ix_nI, am_ix_0, am_ix_1, am_ix_2, am_ix_3, am_n0, am_n1, am_n2, am_n3, am_n4, am_t0, am_t1, am_t2, am_t3, am_t4, am_tm1, am_nS, am_nP, am_nM, Int.ofNat_lt, Int.ofNat_le]
      exact ⟨nx, fun z => absurd trivial z⟩
    | true =>
      rw [hm, if_pos rfl] at hc
      have nx := ih (pre ++ [x]) (c + 1) σ2 (by rw [hV]; simp) (by rw [hlen]; omega) (by rw [hlen]; omega) hf2
      rw [hlen] at nx
      have e1 : yb true = 1 := rfl
      rw [e1]
      simp (disch := omega) only [ax_const, ax_iload, ax_lload, ax_aload, ax_istore, ax_astore, ax_iinc, ax_i2, ax_i2n, ax_l2, ax_lsh, ax_ii, ax_il, ax_li, ax_pop, ax_dup, ax_dup2, ax_if, ax_cmp, ax_acmp, ax_goto, ax_getI, ax_getR, ax_putI, ax_putR, ax_gets, ax_getsT, ax_aldI, ax_aldR, ax_astI, ax_astR, ax_alen, ax_ret, ax_aret, ax_vret, am_st, am_kl, List.getElem?_cons_zero, List.getElem?_cons_succ, List.set_cons_zero, List.set_cons_succ, Value.category, true_and, and_true, if_true, if_false, reduceCtorEq, Bool.false_eq_true, false_implies, forall_const, Option.some.injEq, exists_eq_left', exists_eq_left, Sum.inl.injEq, Sum.inr.injEq, Prod.mk.injEq, Option.toList_some, Option.toList_none, List.cons_append, List.nil_append, List.append_nil, nI_toInt, nI_clamp, am_ix_nI, am_ix_0, am_ix_1, am_ix_2, am_ix_3, am_n0, am_n1, am_n2, am_n3, am_n4, am_t0, am_t1, am_t2, am_t3, am_t4, am_tm1, am_nS, am_nP, am_nM, Int.ofNat_lt, Int.ofNat_le, o1]
      exact fun _ => nx
theorem c_yupd {g : am_G} {l : Launch} {σ : am_S} {m p lab col : Nat} {T : Nat → Nat} {o cm cv : yp_O} {V : List xr_E} {B : xr_E → Bool} {val : xr_E → Int32} {P : Nat → List xr_E} {Q : Option Value → am_S → Prop} (hp : yUp T o cm B) (hv : yUv T o cv val) (hcol : T 3 = col ∧ (col = 1 ∨ col = 2)) (h : yUs σ m T o V) (hP : ym_P σ m P) (hpt : p < 32) (hK : yo_K B lab V 0 (P p))
    (hQ0 : xo_up B val lab col V (P p) 0 = none → ∀ σ', yuF m σ σ' → Q (some (.int (-5))) σ') (hQ1 : ∀ L' c, xo_up B val lab col V (P p) 0 = some (L', c) → ∀ σ', ym_P σ' m (fun q => if q = p then L' else P q) → yuG m σ σ' → Q (some (.int (nI c))) σ') : am_C g l mX10_updated 4 (am_tp σ, am_us σ) [.ref m, .int (nI p), .int (nI lab)] σ Q := by
  obtain ⟨g1, g2, g3⟩ := hP p hpt
  have eu := yo_up_eq (B := B) (val := val) (lab := lab) hcol.2 V [] (P p) 0 rfl hK g2
  refine am_C.go [some (.ref m), some (.int (nI p)), some (.int (nI lab)), none, none, none, none, none, none, none] (by decide +kernel) (Nat.le_of_ble_eq_true rfl) rfl (kX10_updated_0 ?_)
  simp (disch := omega) only [ax_const, ax_iload, ax_lload, ax_aload, ax_istore, ax_astore, ax_iinc, ax_i2, ax_i2n, ax_l2, ax_lsh, ax_ii, ax_il, ax_li, ax_pop, ax_dup, ax_dup2, ax_if, ax_cmp, ax_acmp, ax_goto, ax_getI, ax_getR, ax_putI, ax_putR, ax_gets, ax_getsT, ax_aldI, ax_aldR, ax_astI, ax_astR, ax_alen, ax_ret, ax_aret, ax_vret, am_st, am_kl, List.getElem?_cons_zero, List.getElem?_cons_succ, List.set_cons_zero, List.set_cons_succ, Value.category, true_and, and_true, if_true, if_false, reduceCtorEq, Bool.false_eq_true, false_implies, forall_const, Option.some.injEq, exists_eq_left', exists_eq_left, Sum.inl.injEq, Sum.inr.injEq, Prod.mk.injEq]
  refine yup_5 (σ0 := σ) (lab := lab) (Nat.le_refl _) hp h hpt g1 g2 (fun hn σ' hf => hQ0 ?_ σ' hf) (fun hn σ' hf => ?_) V [] 0 σ rfl (Nat.zero_add _) (Nat.le_refl _) .rf
  · rw [eu, if_neg (by show ¬ _ + yo_n B lab V V 0 ≤ 6; omega)]
  · rw [if_pos (by show _ + yo_n B lab V V 0 ≤ 6; omega)] at eu
    refine yup_70 (σ0 := σ) (P := P) (F := yo_u B val lab col V V 0 (P p) 0) (Nat.le_refl _) hp hv hcol h hpt (fun σ2 hP2 hf2 => hQ1 _ _ eu σ2 hP2 hf2) V [] (P p) 0 σ' _ _ _ _ rfl rfl hK hn ((hP.u hf).ext (fun q => ?_)) (yuG.of hf)
    by_cases cq : q = p
    · rw [if_pos cq, cq]
    · rw [if_neg cq]
