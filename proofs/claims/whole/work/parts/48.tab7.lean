/-! LabelledTables: look, rows, cell -/
theorem xx_fold_len : ∀ (Ls L : List xr_E), (Ls.foldl xr_add L).length = L.length + Ls.length
  | [], L => rfl
  | e :: T, L => by
    rw [List.foldl_cons, xx_fold_len T, xr_add_len, List.length_cons]
    omega
def xx_dom (lab o : Nat) : Bool := decide (nI o &&& (nI lab ^^^ -1) = 0)
/-- the rows of table t with label o that the label lab sees -/
def xx_vl (D : xx_D) (lab t o : Nat) : List xr_E := if o = lab then D.2.2.1 o t else if xx_dom lab o then D.2.1 o t else []
def xx_see (D : xx_D) (lab t : Nat) : Nat → Nat → List xr_E → List xr_E
  | 0, _, L => L
  | m + 1, o, L => xx_see D lab t m (o + 1) ((xx_vl D lab t o).foldl xr_add L)
def xx_V (D : xx_D) (lab t : Nat) : List xr_E := xx_see D lab t 8 0 []
theorem xx_look_8 {g : am_G} {l : Launch} {X d tp us r lab t : Nat} {D : xx_D} {V : List xr_E} {Q : Option Value → am_S → Prop} {σ0 : am_S} (hd : 3 ≤ d) (h0 : xx_O g σ0 X D) (hr1 : X + 3 ≤ r) (hr2 : r + 50 ≤ X + 195) (hlab : lab < 8) (ht : t < 2) (hQ : ∀ σ' p', xr_R σ' r 48 p' V → am_fm (fun b => r ≤ b ∧ b < r + 50) σ0 σ' → Q none σ') :
    ∀ (m o : Nat) (σ : am_S) (p : Nat → Nat) (L : List xr_E), m + o = 8 → xr_R σ r 48 p L → L.length ≤ 6 * o → am_fm (fun b => r ≤ b ∧ b < r + 50) σ0 σ → am_tp σ = tp → am_us σ = us → xx_see D lab t m o L = V →
      am_W g l mX9_look d (tp, us) Q 8 [some (.ref X), some (.int (nI lab)), some (.int (nI t)), some (.ref r), some (.int (nI o))] [] σ := by
  intro m
  induction m with
  | zero =>
    intro o σ p L hm hR hl hf h1 h2 hV
    have t8 : Int32.toInt 8 = 8 := rfl
    refine kX9_look_8 ?_
    simp (disch := omega) only [ax_const, ax_iload, ax_lload, ax_aload, ax_istore, ax_astore, ax_iinc, ax_i2, ax_i2n, ax_l2, ax_lsh, ax_ii, ax_il, ax_li, ax_pop, ax_dup, ax_dup2, ax_if, ax_cmp, ax_acmp, ax_goto, ax_getI, ax_getR, ax_putI, ax_putR, ax_gets, ax_getsT, ax_aldI, ax_aldR, ax_astI, ax_astR, ax_alen, ax_ret, ax_aret, ax_vret, am_st, am_kl, List.getElem?_cons_zero, List.getElem?_cons_succ, List.set_cons_zero, List.set_cons_succ, Value.category, true_and, and_true, if_true, if_false, reduceCtorEq, Bool.false_eq_true, false_implies, forall_const, Option.some.injEq, exists_eq_left', exists_eq_left, Sum.inl.injEq, Sum.inr.injEq, Prod.mk.injEq, nI_toInt, nI_clamp, am_ix_nI, am_ix_0, am_ix_1, am_ix_2, am_ix_3, am_n0, am_n1, am_n2, am_n3, am_n4, am_t0, am_t1, am_t2, am_t3, am_t4, am_tm1, am_nS, am_nP, am_nM, Int.ofNat_lt, Int.ofNat_le, t8]
    refine ⟨fun h => by omega, fun _ => ⟨h1, h2, hQ σ p ?_ hf⟩⟩
    rw [← hV]
    exact hR
  | succ m ih =>
    intro o σ p L hm hR hl hf h1 h2 hV
    obtain ⟨⟨a1, a2, a3, a4, a5, a6, a7, a8, a9⟩, hst, hse, -⟩ := h0
    obtain ⟨b1, b2⟩ := hst o (by omega)
    have eX : xx_st X o = X + 195 + 44 * o := rfl
    have z1 : am_sh σ X = some (.inl 9) := by rw [hf.1]; exact a1
    have z2 : am_r σ X 0 = some (X + 1) := by rw [(hf.2.2.2 X (by omega)).2]; exact a2
    have z7 : am_sh σ (X + 1) = some (.inr (4, 8)) := by rw [hf.1]; exact a7
    have zb : am_r σ (X + 1) o = some (xx_st X o) := by rw [(hf.2.2.2 (X + 1) (by omega)).2]; exact b1
    have d2 := b2.fm hf (fun b x y => by omega)
    obtain ⟨x1, x2, x3, x4, x5, x6, x7, x8, x9⟩ := d2.1
    obtain ⟨⟨p1, g1⟩, ⟨p2, g2⟩, g3, g4⟩ := d2.2.2.2.2.2.2 t ht
    obtain ⟨y1, y2⟩ := x9 t ht
    have l1 := g1.2.2.2.1
    have l2 := g2.2.2.2.1
    rw [xx_see] at hV
    have t8 : Int32.toInt 8 = 8 := rfl
    refine kX9_look_8 ?_
    simp (disch := omega) only [ax_const, ax_iload, ax_lload, ax_aload, ax_istore, ax_astore, ax_iinc, ax_i2, ax_i2n, ax_l2, ax_lsh, ax_ii, ax_il, ax_li, ax_pop, ax_dup, ax_dup2, ax_if, ax_cmp, ax_acmp, ax_goto, ax_getI, ax_getR, ax_putI, ax_putR, ax_gets, ax_getsT, ax_aldI, ax_aldR, ax_astI, ax_astR, ax_alen, ax_ret, ax_aret, ax_vret, am_st, am_kl, List.getElem?_cons_zero, List.getElem?_cons_succ, List.set_cons_zero, List.set_cons_succ, Value.category, true_and, and_true, if_true, if_false, reduceCtorEq, Bool.false_eq_true, false_implies, forall_const, Option.some.injEq, exists_eq_left', exists_eq_left, Sum.inl.injEq, Sum.inr.injEq, Prod.mk.injEq, nI_toInt, nI_clamp, am_ix_nI, am_ix_0, am_ix_1, am_ix_2, am_ix_3, am_n0, am_n1, am_n2, am_n3, am_n4, am_t0, am_t1, am_t2, am_t3, am_t4, am_tm1, am_nS, am_nP, am_nM, Int.ofNat_lt, Int.ofNat_le, t8, nI_inj]
    refine ⟨fun _ => ⟨fun e => ?_, fun e => ?_⟩, fun h => by omega⟩
    · have ev : xx_vl D lab t o = D.2.2.1 o t := by unfold xx_vl; rw [if_pos e]
      rw [ev] at hV
      simp (disch := omega) only [ax_const, ax_iload, ax_lload, ax_aload, ax_istore, ax_astore, ax_iinc, ax_i2, ax_i2n, ax_l2, ax_lsh, ax_ii, ax_il, ax_li, ax_pop, ax_dup, ax_dup2, ax_if, ax_cmp, ax_acmp, ax_goto, ax_getI, ax_getR, ax_putI, ax_putR, ax_gets, ax_getsT, ax_aldI, ax_aldR, ax_astI, ax_astR, ax_alen, ax_ret, ax_aret, ax_vret, am_st, am_kl, List.getElem?_cons_zero, List.getElem?_cons_succ, List.set_cons_zero, List.set_cons_succ, Value.category, true_and, and_true, if_true, if_false, reduceCtorEq, Bool.false_eq_true, false_implies, forall_const, Option.some.injEq, exists_eq_left', exists_eq_left, Sum.inl.injEq, Sum.inr.injEq, Prod.mk.injEq, nI_toInt, nI_clamp, am_ix_nI, am_ix_0, am_ix_1, am_ix_2, am_ix_3, am_n0, am_n1, am_n2, am_n3, am_n4, am_t0, am_t1, am_t2, am_t3, am_t4, am_tm1, am_nS, am_nP, am_nM, Int.ofNat_lt, Int.ofNat_le, z1, z2, z7, zb, x1, x3, x7, y2]
      refine ⟨by omega, by omega, ?_⟩
      refine am_callK [.ref r, .ref (xx_st X o + 20 + 16 * t)] [] (d' := 2) (lim' := (am_tp σ, am_us σ)) rfl (by omega) (by rw [h1]; exact Nat.le_refl _) (by rw [h2]; exact Nat.le_refl _) rfl (by decide) (am_recv hR.1) ?_
      refine c_addAll hR g2 (by omega) (by omega) (fun σ' p' hR' hf' t1 u1 => ?_)
      simp (disch := omega) only [ax_const, ax_iload, ax_lload, ax_aload, ax_istore, ax_astore, ax_iinc, ax_i2, ax_i2n, ax_l2, ax_lsh, ax_ii, ax_il, ax_li, ax_pop, ax_dup, ax_dup2, ax_if, ax_cmp, ax_acmp, ax_goto, ax_getI, ax_getR, ax_putI, ax_putR, ax_gets, ax_getsT, ax_aldI, ax_aldR, ax_astI, ax_astR, ax_alen, ax_ret, ax_aret, ax_vret, am_st, am_kl, List.getElem?_cons_zero, List.getElem?_cons_succ, List.set_cons_zero, List.set_cons_succ, Value.category, true_and, and_true, if_true, if_false, reduceCtorEq, Bool.false_eq_true, false_implies, forall_const, Option.some.injEq, exists_eq_left', exists_eq_left, Sum.inl.injEq, Sum.inr.injEq, Prod.mk.injEq, nI_toInt, nI_clamp, am_ix_nI, am_ix_0, am_ix_1, am_ix_2, am_ix_3, am_n0, am_n1, am_n2, am_n3, am_n4, am_t0, am_t1, am_t2, am_t3, am_t4, am_tm1, am_nS, am_nP, am_nM, Int.ofNat_lt, Int.ofNat_le, Option.toList_some, Option.toList_none, List.cons_append, List.nil_append, List.append_nil]
      refine ih (o + 1) σ' p' _ (by omega) hR' ?_ (hf.tr (hf'.mono (fun b x => by omega))) (t1.trans h1) (u1.trans h2) hV
      rw [xx_fold_len]
      omega
    · refine am_callK [.int (nI lab), .int (nI o)] [] (d' := 0) (lim' := (am_tp σ, am_us σ)) rfl (by omega) (by rw [h1]; exact Nat.le_refl _) (by rw [h2]; exact Nat.le_refl _) rfl (by decide) am_stat ?_
      refine c_dominates (fun _ _ => ?_)
      by_cases q : nI o &&& (nI lab ^^^ -1) = 0
      · have ev : xx_vl D lab t o = D.2.1 o t := by unfold xx_vl xx_dom; rw [if_neg e, if_pos (decide_eq_true q)]
        rw [ev] at hV
        rw [if_pos q]
        have o1 : ¬ (1 : Int32) = 0 := by decide
        simp (disch := omega) only [ax_const, ax_iload, ax_lload, ax_aload, ax_istore, ax_astore, ax_iinc, ax_i2, ax_i2n, ax_l2, ax_lsh, ax_ii, ax_il, ax_li, ax_pop, ax_dup, ax_dup2, ax_if, ax_cmp, ax_acmp, ax_goto, ax_getI, ax_getR, ax_putI, ax_putR, ax_gets, ax_getsT, ax_aldI, ax_aldR, ax_astI, ax_astR, ax_alen, ax_ret, ax_aret, ax_vret, am_st, am_kl, List.getElem?_cons_zero, List.getElem?_cons_succ, List.set_cons_zero, List.set_cons_succ, Value.category, true_and, and_true, if_true, if_false, reduceCtorEq, Bool.false_eq_true, false_implies, forall_const, Option.some.injEq, exists_eq_left', exists_eq_left, Sum.inl.injEq, Sum.inr.injEq, Prod.mk.injEq, nI_toInt, nI_clamp, am_ix_nI, am_ix_0, am_ix_1, am_ix_2, am_ix_3, am_n0, am_n1, am_n2, am_n3, am_n4, am_t0, am_t1, am_t2, am_t3, am_t4, am_tm1, am_nS, am_nP, am_nM, Int.ofNat_lt, Int.ofNat_le, Option.toList_some, Option.toList_none, List.cons_append, List.nil_append, List.append_nil, o1, z1, z2, z7, zb, x1, x2, x6, y1]
        refine fun _ => ⟨by omega, by omega, ?_⟩
        refine am_callK [.ref r, .ref (xx_st X o + 12 + 16 * t)] [] (d' := 2) (lim' := (am_tp σ, am_us σ)) rfl (by omega) (by rw [h1]; exact Nat.le_refl _) (by rw [h2]; exact Nat.le_refl _) rfl (by decide) (am_recv hR.1) ?_
        refine c_addAll hR g1 (by omega) (by omega) (fun σ' p' hR' hf' t1 u1 => ?_)
        simp (disch := omega) only [ax_const, ax_iload, ax_lload, ax_aload, ax_istore, ax_astore, ax_iinc, ax_i2, ax_i2n, ax_l2, ax_lsh, ax_ii, ax_il, ax_li, ax_pop, ax_dup, ax_dup2, ax_if, ax_cmp, ax_acmp, ax_goto, ax_getI, ax_getR, ax_putI, ax_putR, ax_gets, ax_getsT, ax_aldI, ax_aldR, ax_astI, ax_astR, ax_alen, ax_ret, ax_aret, ax_vret, am_st, am_kl, List.getElem?_cons_zero, List.getElem?_cons_succ, List.set_cons_zero, List.set_cons_succ, Value.category, true_and, and_true, if_true, if_false, reduceCtorEq, Bool.false_eq_true, false_implies, forall_const, Option.some.injEq, exists_eq_left', exists_eq_left, Sum.inl.injEq, Sum.inr.injEq, Prod.mk.injEq, nI_toInt, nI_clamp, am_ix_nI, am_ix_0, am_ix_1, am_ix_2, am_ix_3, am_n0, am_n1, am_n2, am_n3, am_n4, am_t0, am_t1, am_t2, am_t3, am_t4, am_tm1, am_nS, am_nP, am_nM, Int.ofNat_lt, Int.ofNat_le, Option.toList_some, Option.toList_none, List.cons_append, List.nil_append, List.append_nil]
        refine ih (o + 1) σ' p' _ (by omega) hR' ?_ (hf.tr (hf'.mono (fun b x => by omega))) (t1.trans h1) (u1.trans h2) hV
        rw [xx_fold_len]
        omega
      · have ev : xx_vl D lab t o = [] := by unfold xx_vl xx_dom; rw [if_neg e, decide_eq_false q]; rfl
        rw [ev] at hV
        rw [if_neg q]
        simp (disch := omega) only [ax_const, ax_iload, ax_lload, ax_aload, ax_istore, ax_astore, ax_iinc, ax_i2, ax_i2n, ax_l2, ax_lsh, ax_ii, ax_il, ax_li, ax_pop, ax_dup, ax_dup2, ax_if, ax_cmp, ax_acmp, ax_goto, ax_getI, ax_getR, ax_putI, ax_putR, ax_gets, ax_getsT, ax_aldI, ax_aldR, ax_astI, ax_astR, ax_alen, ax_ret, ax_aret, ax_vret, am_st, am_kl, List.getElem?_cons_zero, List.getElem?_cons_succ, List.set_cons_zero, List.set_cons_succ, Value.category, true_and, and_true, if_true, if_false, reduceCtorEq, Bool.false_eq_true, false_implies, forall_const, Option.some.injEq, exists_eq_left', exists_eq_left, Sum.inl.injEq, Sum.inr.injEq, Prod.mk.injEq, nI_toInt, nI_clamp, am_ix_nI, am_ix_0, am_ix_1, am_ix_2, am_ix_3, am_n0, am_n1, am_n2, am_n3, am_n4, am_t0, am_t1, am_t2, am_t3, am_t4, am_tm1, am_nS, am_nP, am_nM, Int.ofNat_lt, Int.ofNat_le, Option.toList_some, Option.toList_none, List.cons_append, List.nil_append, List.append_nil]
        exact ⟨ih (o + 1) σ p L (by omega) hR (by omega) hf h1 h2 hV, fun z => absurd trivial z⟩
theorem c_xlook {g : am_G} {l : Launch} {σ : am_S} {X r lab t : Nat} {D : xx_D} {p : Nat → Nat} {L : List xr_E} {Q : Option Value → am_S → Prop} (h0 : xx_O g σ X D) (hr1 : X + 3 ≤ r) (hr2 : r + 50 ≤ X + 195) (hlab : lab < 8) (ht : t < 2) (hR : xr_R σ r 48 p L) (hQ : ∀ σ' p', xr_R σ' r 48 p' (xx_V D lab t) → am_fm (fun b => r ≤ b ∧ b < r + 50) σ σ' → Q none σ') :
    am_C g l mX9_look 3 (am_tp σ, am_us σ) [.ref X, .int (nI lab), .int (nI t), .ref r] σ Q := by
  refine am_C.go [some (.ref X), some (.int (nI lab)), some (.int (nI t)), some (.ref r), none] (by decide +kernel) (Nat.le_of_ble_eq_true rfl) rfl (kX9_look_0 ?_)
  simp (disch := omega) only [ax_const, ax_iload, ax_lload, ax_aload, ax_istore, ax_astore, ax_iinc, ax_i2, ax_i2n, ax_l2, ax_lsh, ax_ii, ax_il, ax_li, ax_pop, ax_dup, ax_dup2, ax_if, ax_cmp, ax_acmp, ax_goto, ax_getI, ax_getR, ax_putI, ax_putR, ax_gets, ax_getsT, ax_aldI, ax_aldR, ax_astI, ax_astR, ax_alen, ax_ret, ax_aret, ax_vret, am_st, am_kl, List.getElem?_cons_zero, List.getElem?_cons_succ, List.set_cons_zero, List.set_cons_succ, Value.category, true_and, and_true, if_true, if_false, reduceCtorEq, Bool.false_eq_true, false_implies, forall_const, Option.some.injEq, exists_eq_left', exists_eq_left, Sum.inl.injEq, Sum.inr.injEq, Prod.mk.injEq, nI_toInt, nI_clamp, am_ix_nI, am_ix_0, am_ix_1, am_ix_2, am_ix_3, am_n0, am_n1, am_n2, am_n3, am_n4, am_t0, am_t1, am_t2, am_t3, am_t4, am_tm1, am_nS, am_nP, am_nM, Int.ofNat_lt, Int.ofNat_le, am_sh_wi, am_sh_wr, am_r_wi, am_i_wr, am_tp_wi, am_tp_wr, am_us_wi, am_us_wr, am_i_wi, am_r_wr, hR.1]
  exact xx_look_8 (Nat.le_refl _) h0 hr1 hr2 hlab ht hQ 8 0 _ p [] rfl hR.zero (Nat.zero_le _) (am_fm.rf.wi ⟨by omega, by omega⟩) rfl rfl rfl
/-- the rows that were looked at are others -/
theorem xx_O.look {g : am_G} {σ σ' : am_S} {X r : Nat} {D : xx_D} (h : xx_O g σ X D) (hr : r = X + 3 ∨ r = X + 89 ∨ r = X + 139) (hf : am_fm (fun b => r ≤ b ∧ b < r + 50) σ σ') (hR : ∃ p L, xr_R σ' r 48 p L) : xx_O g σ' X D := by
  obtain ⟨⟨a1, a2, a3, a4, a5, a6, a7, a8, a9⟩, hst, hse, hT, hp, ⟨p1, L1, h1⟩, hl, ⟨p2, L2, h2⟩, p3, L3, h3⟩ := h
  have pick : ∀ q, (q = X + 3 ∨ q = X + 89 ∨ q = X + 139) → (∃ p L, xr_R σ q 48 p L) → ∃ p L, xr_R σ' q 48 p L := by
    rintro q hq ⟨p, L, hL⟩
    by_cases e : q = r
    · rw [e]; exact hR
    · exact ⟨p, L, hL.fm hf (fun b x y => by omega)⟩
  refine ⟨?_, fun i hi => ?_, fun i hi => ?_, hT.fm hf (fun b x => by omega), hp.fm hf (fun b x => by omega), pick _ (Or.inl rfl) ⟨p1, L1, h1⟩, ?_, pick _ (Or.inr (Or.inl rfl)) ⟨p2, L2, h2⟩, pick _ (Or.inr (Or.inr rfl)) ⟨p3, L3, h3⟩⟩
  · rw [hf.1, (hf.2.2.2 X (by omega)).2]
    exact ⟨a1, a2, a3, a4, a5, a6, a7, a8, a9⟩
  · obtain ⟨b1, b2⟩ := hst i hi
    refine ⟨by rw [(hf.2.2.2 (X + 1) (by omega)).2]; exact b1, ?_⟩
    unfold xx_st at b2 ⊢
    exact b2.fm hf (fun b x y => by omega)
  · obtain ⟨b1, b2, b3⟩ := hse i hi
    refine ⟨by rw [(hf.2.2.2 (X + 2) (by omega)).2]; exact b1, b2, ?_⟩
    unfold xx_se at b3 ⊢
    exact b3.fm hf (fun b x y => by omega)
  · unfold xl_S
    rw [hf.1, (hf.2.2.2 (X + 88) (by omega)).2]
    exact hl
theorem xx_tin {t : Int32} (h : 0 ≤ t.toInt ∧ t.toInt < 2) : ∃ j, j < 2 ∧ t = nI j := by
  obtain ⟨j, hj, rfl⟩ := nI_of (x := t) (by rw [Int32.lt_iff_toInt_lt, Int32.toInt_zero]; omega)
  rw [nI_toInt hj] at h
  exact ⟨j, by omega, rfl⟩
def xx_ti (t : Int32) : Prop := 0 ≤ t.toInt ∧ t.toInt < 2
theorem c_xrows {g : am_G} {l : Launch} {σ : am_S} {X : Nat} {D : xx_D} {s t : Int32} {Q : Option Value → am_S → Prop} (h : xx_O g σ X D) (hQ0 : ¬ xx_in s ∨ ¬ xx_ti t → Q (some (.int (-1))) σ) (hQ1 : ∀ i j, i < 4 → s = nI i → j < 2 → t = nI j → ∀ σ', xx_O g σ' X D → xx_fr X σ σ' → Q (some (.int (nI (xx_V D (D.1 i) j).length))) σ') : am_C g l mX9_rows 4 (am_tp σ, am_us σ) [.ref X, .int s, .int t] σ Q := by
  have h0 := h
  obtain ⟨⟨a1, a2, a3, a4, a5, a6, a7, a8, a9⟩, hst, hse, -, -, ⟨p1, L1, h1⟩, -⟩ := h
  have o1 : ¬ (1 : Int32) = 0 := by decide
  refine am_C.go [some (.ref X), some (.int s), some (.int t)] (by decide +kernel) (Nat.le_of_ble_eq_true rfl) rfl (kX9_rows_0 ?_)
  simp (disch := omega) only [ax_const, ax_iload, ax_lload, ax_aload, ax_istore, ax_astore, ax_iinc, ax_i2, ax_i2n, ax_l2, ax_lsh, ax_ii, ax_il, ax_li, ax_pop, ax_dup, ax_dup2, ax_if, ax_cmp, ax_acmp, ax_goto, ax_getI, ax_getR, ax_putI, ax_putR, ax_gets, ax_getsT, ax_aldI, ax_aldR, ax_astI, ax_astR, ax_alen, ax_ret, ax_aret, ax_vret, am_st, am_kl, List.getElem?_cons_zero, List.getElem?_cons_succ, List.set_cons_zero, List.set_cons_succ, Value.category, true_and, and_true, if_true, if_false, reduceCtorEq, Bool.false_eq_true, false_implies, forall_const, Option.some.injEq, exists_eq_left', exists_eq_left, Sum.inl.injEq, Sum.inr.injEq, Prod.mk.injEq, nI_toInt, nI_clamp, am_ix_nI, am_ix_0, am_ix_1, am_ix_2, am_ix_3, am_n0, am_n1, am_n2, am_n3, am_n4, am_t0, am_t1, am_t2, am_t3, am_t4, am_tm1, am_nS, am_nP, am_nM, Int.ofNat_lt, Int.ofNat_le]
  refine am_callK [.int s] [] (d' := 0) (lim' := (am_tp σ, am_us σ)) rfl (by decide) (Nat.le_refl _) (Nat.le_refl _) rfl (Nat.le_of_ble_eq_true rfl) am_stat ?_
  refine c_isSession (fun _ _ => ?_)
  by_cases q : 0 ≤ s.toInt ∧ s.toInt < 4
  · rw [if_pos q]
    obtain ⟨i, hi, rfl⟩ := xx_in.of q
    obtain ⟨b1, b2, b3⟩ := hse i hi
    obtain ⟨d1, d2⟩ := hst (D.1 i) b2
    simp (disch := omega) only [ax_const, ax_iload, ax_lload, ax_aload, ax_istore, ax_astore, ax_iinc, ax_i2, ax_i2n, ax_l2, ax_lsh, ax_ii, ax_il, ax_li, ax_pop, ax_dup, ax_dup2, ax_if, ax_cmp, ax_acmp, ax_goto, ax_getI, ax_getR, ax_putI, ax_putR, ax_gets, ax_getsT, ax_aldI, ax_aldR, ax_astI, ax_astR, ax_alen, ax_ret, ax_aret, ax_vret, am_st, am_kl, List.getElem?_cons_zero, List.getElem?_cons_succ, List.set_cons_zero, List.set_cons_succ, Value.category, true_and, and_true, if_true, if_false, reduceCtorEq, Bool.false_eq_true, false_implies, forall_const, Option.some.injEq, exists_eq_left', exists_eq_left, Sum.inl.injEq, Sum.inr.injEq, Prod.mk.injEq, nI_toInt, nI_clamp, am_ix_nI, am_ix_0, am_ix_1, am_ix_2, am_ix_3, am_n0, am_n1, am_n2, am_n3, am_n4, am_t0, am_t1, am_t2, am_t3, am_t4, am_tm1, am_nS, am_nP, am_nM, Int.ofNat_lt, Int.ofNat_le, Option.toList_some, Option.toList_none, List.cons_append, List.nil_append, List.append_nil, o1]
    intro _
    refine am_callK [.int t] [] (d' := 0) (lim' := (am_tp σ, am_us σ)) rfl (by decide) (Nat.le_refl _) (Nat.le_refl _) rfl (Nat.le_of_ble_eq_true rfl) am_stat ?_
    refine c_xisTable (fun _ _ => ?_)
    by_cases q2 : 0 ≤ t.toInt ∧ t.toInt < 2
    · rw [if_pos q2]
      obtain ⟨j, hj, rfl⟩ := xx_tin q2
      simp (disch := omega) only [ax_const, ax_iload, ax_lload, ax_aload, ax_istore, ax_astore, ax_iinc, ax_i2, ax_i2n, ax_l2, ax_lsh, ax_ii, ax_il, ax_li, ax_pop, ax_dup, ax_dup2, ax_if, ax_cmp, ax_acmp, ax_goto, ax_getI, ax_getR, ax_putI, ax_putR, ax_gets, ax_getsT, ax_aldI, ax_aldR, ax_astI, ax_astR, ax_alen, ax_ret, ax_aret, ax_vret, am_st, am_kl, List.getElem?_cons_zero, List.getElem?_cons_succ, List.set_cons_zero, List.set_cons_succ, Value.category, true_and, and_true, if_true, if_false, reduceCtorEq, Bool.false_eq_true, false_implies, forall_const, Option.some.injEq, exists_eq_left', exists_eq_left, Sum.inl.injEq, Sum.inr.injEq, Prod.mk.injEq, nI_toInt, nI_clamp, am_ix_nI, am_ix_0, am_ix_1, am_ix_2, am_ix_3, am_n0, am_n1, am_n2, am_n3, am_n4, am_t0, am_t1, am_t2, am_t3, am_t4, am_tm1, am_nS, am_nP, am_nM, Int.ofNat_lt, Int.ofNat_le, Option.toList_some, Option.toList_none, List.cons_append, List.nil_append, List.append_nil, o1, a1, a3, a4, a8, b1, b3.1, b3.2.1, d2.1.1, d2.2.1]
      refine fun _ => ⟨hi, ?_⟩
      refine am_callK [.ref X, .int (nI (D.1 i)), .int (nI j), .ref (X + 3)] [] (d' := 3) (lim' := (am_tp σ, am_us σ)) rfl (by decide) (Nat.le_refl _) (Nat.le_refl _) rfl (Nat.le_of_ble_eq_true rfl) (am_recv a1) ?_
      refine c_xlook h0 (Nat.le_refl _) (by omega) b2 hj h1 (fun σ' p' hR hf t1 u1 => ?_)
      have z1 : am_sh σ' X = some (.inl 9) := by rw [hf.1]; exact a1
      have z4 : am_r σ' X 2 = some (X + 3) := by rw [(hf.2.2.2 X (by omega)).2]; exact a4
      simp (disch := omega) only [ax_const, ax_iload, ax_lload, ax_aload, ax_istore, ax_astore, ax_iinc, ax_i2, ax_i2n, ax_l2, ax_lsh, ax_ii, ax_il, ax_li, ax_pop, ax_dup, ax_dup2, ax_if, ax_cmp, ax_acmp, ax_goto, ax_getI, ax_getR, ax_putI, ax_putR, ax_gets, ax_getsT, ax_aldI, ax_aldR, ax_astI, ax_astR, ax_alen, ax_ret, ax_aret, ax_vret, am_st, am_kl, List.getElem?_cons_zero, List.getElem?_cons_succ, List.set_cons_zero, List.set_cons_succ, Value.category, true_and, and_true, if_true, if_false, reduceCtorEq, Bool.false_eq_true, false_implies, forall_const, Option.some.injEq, exists_eq_left', exists_eq_left, Sum.inl.injEq, Sum.inr.injEq, Prod.mk.injEq, nI_toInt, nI_clamp, am_ix_nI, am_ix_0, am_ix_1, am_ix_2, am_ix_3, am_n0, am_n1, am_n2, am_n3, am_n4, am_t0, am_t1, am_t2, am_t3, am_t4, am_tm1, am_nS, am_nP, am_nM, Int.ofNat_lt, Int.ofNat_le, Option.toList_some, Option.toList_none, List.cons_append, List.nil_append, List.append_nil, z1, z4, hR.1, hR.2.2.1]
      exact ⟨t1, u1, hQ1 i j hi rfl hj rfl σ' (h0.look (Or.inl rfl) hf ⟨p', _, hR⟩) (hf.mono (fun b x => by omega))⟩
    · rw [if_neg q2]
      simp (disch := omega) only [ax_const, ax_iload, ax_lload, ax_aload, ax_istore, ax_astore, ax_iinc, ax_i2, ax_i2n, ax_l2, ax_lsh, ax_ii, ax_il, ax_li, ax_pop, ax_dup, ax_dup2, ax_if, ax_cmp, ax_acmp, ax_goto, ax_getI, ax_getR, ax_putI, ax_putR, ax_gets, ax_getsT, ax_aldI, ax_aldR, ax_astI, ax_astR, ax_alen, ax_ret, ax_aret, ax_vret, am_st, am_kl, List.getElem?_cons_zero, List.getElem?_cons_succ, List.set_cons_zero, List.set_cons_succ, Value.category, true_and, and_true, if_true, if_false, reduceCtorEq, Bool.false_eq_true, false_implies, forall_const, Option.some.injEq, exists_eq_left', exists_eq_left, Sum.inl.injEq, Sum.inr.injEq, Prod.mk.injEq, nI_toInt, nI_clamp, am_ix_nI, am_ix_0, am_ix_1, am_ix_2, am_ix_3, am_n0, am_n1, am_n2, am_n3, am_n4, am_t0, am_t1, am_t2, am_t3, am_t4, am_tm1, am_nS, am_nP, am_nM, Int.ofNat_lt, Int.ofNat_le, Option.toList_some, Option.toList_none, List.cons_append, List.nil_append, List.append_nil]
      exact ⟨hQ0 (Or.inr q2), fun z => absurd trivial z⟩
  · rw [if_neg q]
    simp (disch := omega) only [ax_const, ax_iload, ax_lload, ax_aload, ax_istore, ax_astore, ax_iinc, ax_i2, ax_i2n, ax_l2, ax_lsh, ax_ii, ax_il, ax_li, ax_pop, ax_dup, ax_dup2, ax_if, ax_cmp, ax_acmp, ax_goto, ax_getI, ax_getR, ax_putI, ax_putR, ax_gets, ax_getsT, ax_aldI, ax_aldR, ax_astI, ax_astR, ax_alen, ax_ret, ax_aret, ax_vret, am_st, am_kl, List.getElem?_cons_zero, List.getElem?_cons_succ, List.set_cons_zero, List.set_cons_succ, Value.category, true_and, and_true, if_true, if_false, reduceCtorEq, Bool.false_eq_true, false_implies, forall_const, Option.some.injEq, exists_eq_left', exists_eq_left, Sum.inl.injEq, Sum.inr.injEq, Prod.mk.injEq, nI_toInt, nI_clamp, am_ix_nI, am_ix_0, am_ix_1, am_ix_2, am_ix_3, am_n0, am_n1, am_n2, am_n3, am_n4, am_t0, am_t1, am_t2, am_t3, am_t4, am_tm1, am_nS, am_nP, am_nM, Int.ofNat_lt, Int.ofNat_le, Option.toList_some, Option.toList_none, List.cons_append, List.nil_append, List.append_nil]
    exact ⟨hQ0 (Or.inl q), fun z => absurd trivial z⟩
theorem c_xcell {g : am_G} {l : Launch} {σ : am_S} {X : Nat} {D : xx_D} {s t kk ww : Int32} {Q : Option Value → am_S → Prop} (h : xx_O g σ X D) (hQ0 : ¬ xx_in s ∨ ¬ xx_ti t ∨ ¬ xx_in ww → Q (some (.int (-1))) σ) (hQ1 : ∀ i j w, i < 4 → s = nI i → j < 2 → t = nI j → w < 4 → ww = nI w → ∀ σ', xx_O g σ' X D → xx_fr X σ σ' → Q (some (.int (if 0 ≤ kk.toInt ∧ kk.toInt < (xx_V D (D.1 i) j).length then xr_col ((xx_V D (D.1 i) j).getD kk.toNatClampNeg xr_0) w else -1))) σ') : am_C g l mX9_cell 4 (am_tp σ, am_us σ) [.ref X, .int s, .int t, .int kk, .int ww] σ Q := by
  have h0 := h
  obtain ⟨⟨a1, a2, a3, a4, a5, a6, a7, a8, a9⟩, hst, hse, -, -, ⟨p1, L1, h1⟩, -⟩ := h
  have o1 : ¬ (1 : Int32) = 0 := by decide
  refine am_C.go [some (.ref X), some (.int s), some (.int t), some (.int kk), some (.int ww)] (by decide +kernel) (Nat.le_of_ble_eq_true rfl) rfl (kX9_cell_0 ?_)
  simp (disch := omega) only [ax_const, ax_iload, ax_lload, ax_aload, ax_istore, ax_astore, ax_iinc, ax_i2, ax_i2n, ax_l2, ax_lsh, ax_ii, ax_il, ax_li, ax_pop, ax_dup, ax_dup2, ax_if, ax_cmp, ax_acmp, ax_goto, ax_getI, ax_getR, ax_putI, ax_putR, ax_gets, ax_getsT, ax_aldI, ax_aldR, ax_astI, ax_astR, ax_alen, ax_ret, ax_aret, ax_vret, am_st, am_kl, List.getElem?_cons_zero, List.getElem?_cons_succ, List.set_cons_zero, List.set_cons_succ, Value.category, true_and, and_true, if_true, if_false, reduceCtorEq, Bool.false_eq_true, false_implies, forall_const, Option.some.injEq, exists_eq_left', exists_eq_left, Sum.inl.injEq, Sum.inr.injEq, Prod.mk.injEq, nI_toInt, nI_clamp, am_ix_nI, am_ix_0, am_ix_1, am_ix_2, am_ix_3, am_n0, am_n1, am_n2, am_n3, am_n4, am_t0, am_t1, am_t2, am_t3, am_t4, am_tm1, am_nS, am_nP, am_nM, Int.ofNat_lt, Int.ofNat_le]
  refine am_callK [.int s] [] (d' := 0) (lim' := (am_tp σ, am_us σ)) rfl (by decide) (Nat.le_refl _) (Nat.le_refl _) rfl (Nat.le_of_ble_eq_true rfl) am_stat ?_
  refine c_isSession (fun _ _ => ?_)
  by_cases q : 0 ≤ s.toInt ∧ s.toInt < 4
  · rw [if_pos q]
    obtain ⟨i, hi, rfl⟩ := xx_in.of q
    obtain ⟨b1, b2, b3⟩ := hse i hi
    obtain ⟨d1, d2⟩ := hst (D.1 i) b2
    simp (disch := omega) only [ax_const, ax_iload, ax_lload, ax_aload, ax_istore, ax_astore, ax_iinc, ax_i2, ax_i2n, ax_l2, ax_lsh, ax_ii, ax_il, ax_li, ax_pop, ax_dup, ax_dup2, ax_if, ax_cmp, ax_acmp, ax_goto, ax_getI, ax_getR, ax_putI, ax_putR, ax_gets, ax_getsT, ax_aldI, ax_aldR, ax_astI, ax_astR, ax_alen, ax_ret, ax_aret, ax_vret, am_st, am_kl, List.getElem?_cons_zero, List.getElem?_cons_succ, List.set_cons_zero, List.set_cons_succ, Value.category, true_and, and_true, if_true, if_false, reduceCtorEq, Bool.false_eq_true, false_implies, forall_const, Option.some.injEq, exists_eq_left', exists_eq_left, Sum.inl.injEq, Sum.inr.injEq, Prod.mk.injEq, nI_toInt, nI_clamp, am_ix_nI, am_ix_0, am_ix_1, am_ix_2, am_ix_3, am_n0, am_n1, am_n2, am_n3, am_n4, am_t0, am_t1, am_t2, am_t3, am_t4, am_tm1, am_nS, am_nP, am_nM, Int.ofNat_lt, Int.ofNat_le, Option.toList_some, Option.toList_none, List.cons_append, List.nil_append, List.append_nil, o1]
    intro _
    refine am_callK [.int t] [] (d' := 0) (lim' := (am_tp σ, am_us σ)) rfl (by decide) (Nat.le_refl _) (Nat.le_refl _) rfl (Nat.le_of_ble_eq_true rfl) am_stat ?_
    refine c_xisTable (fun _ _ => ?_)
    by_cases q2 : 0 ≤ t.toInt ∧ t.toInt < 2
    · rw [if_pos q2]
      obtain ⟨j, hj, rfl⟩ := xx_tin q2
      have t4 : Int32.toInt 4 = 4 := rfl
      simp (disch := omega) only [ax_const, ax_iload, ax_lload, ax_aload, ax_istore, ax_astore, ax_iinc, ax_i2, ax_i2n, ax_l2, ax_lsh, ax_ii, ax_il, ax_li, ax_pop, ax_dup, ax_dup2, ax_if, ax_cmp, ax_acmp, ax_goto, ax_getI, ax_getR, ax_putI, ax_putR, ax_gets, ax_getsT, ax_aldI, ax_aldR, ax_astI, ax_astR, ax_alen, ax_ret, ax_aret, ax_vret, am_st, am_kl, List.getElem?_cons_zero, List.getElem?_cons_succ, List.set_cons_zero, List.set_cons_succ, Value.category, true_and, and_true, if_true, if_false, reduceCtorEq, Bool.false_eq_true, false_implies, forall_const, Option.some.injEq, exists_eq_left', exists_eq_left, Sum.inl.injEq, Sum.inr.injEq, Prod.mk.injEq, nI_toInt, nI_clamp, am_ix_nI, am_ix_0, am_ix_1, am_ix_2, am_ix_3, am_n0, am_n1, am_n2, am_n3, am_n4, am_t0, am_t1, am_t2, am_t3, am_t4, am_tm1, am_nS, am_nP, am_nM, Int.ofNat_lt, Int.ofNat_le, Option.toList_some, Option.toList_none, List.cons_append, List.nil_append, List.append_nil, o1, t4]
      refine fun _ => ⟨fun c => hQ0 (Or.inr (Or.inr (fun z => by have := z.1; omega))), fun c => ⟨fun c2 => ?_, fun c2 => hQ0 (Or.inr (Or.inr (fun z => c2 z.2)))⟩⟩
      obtain ⟨w, hw, rfl⟩ := xx_in.of (s := ww) ⟨by omega, c2⟩
      simp (disch := omega) only [ax_const, ax_iload, ax_lload, ax_aload, ax_istore, ax_astore, ax_iinc, ax_i2, ax_i2n, ax_l2, ax_lsh, ax_ii, ax_il, ax_li, ax_pop, ax_dup, ax_dup2, ax_if, ax_cmp, ax_acmp, ax_goto, ax_getI, ax_getR, ax_putI, ax_putR, ax_gets, ax_getsT, ax_aldI, ax_aldR, ax_astI, ax_astR, ax_alen, ax_ret, ax_aret, ax_vret, am_st, am_kl, List.getElem?_cons_zero, List.getElem?_cons_succ, List.set_cons_zero, List.set_cons_succ, Value.category, true_and, and_true, if_true, if_false, reduceCtorEq, Bool.false_eq_true, false_implies, forall_const, Option.some.injEq, exists_eq_left', exists_eq_left, Sum.inl.injEq, Sum.inr.injEq, Prod.mk.injEq, nI_toInt, nI_clamp, am_ix_nI, am_ix_0, am_ix_1, am_ix_2, am_ix_3, am_n0, am_n1, am_n2, am_n3, am_n4, am_t0, am_t1, am_t2, am_t3, am_t4, am_tm1, am_nS, am_nP, am_nM, Int.ofNat_lt, Int.ofNat_le, Option.toList_some, Option.toList_none, List.cons_append, List.nil_append, List.append_nil, o1, a1, a3, a4, a8, b1, b3.1, b3.2.1, d2.1.1, d2.2.1]
      refine ⟨hi, ?_⟩
      refine am_callK [.ref X, .int (nI (D.1 i)), .int (nI j), .ref (X + 3)] [] (d' := 3) (lim' := (am_tp σ, am_us σ)) rfl (by decide) (Nat.le_refl _) (Nat.le_refl _) rfl (Nat.le_of_ble_eq_true rfl) (am_recv a1) ?_
      refine c_xlook h0 (Nat.le_refl _) (by omega) b2 hj h1 (fun σ' p' hR hf t1 u1 => ?_)
      have fin := hQ1 i j w hi rfl hj rfl hw rfl σ' (h0.look (Or.inl rfl) hf ⟨p', _, hR⟩) (hf.mono (fun b x => by omega))
      have z1 : am_sh σ' X = some (.inl 9) := by rw [hf.1]; exact a1
      have z4 : am_r σ' X 2 = some (X + 3) := by rw [(hf.2.2.2 X (by omega)).2]; exact a4
      have hl := hR.2.2.2.1
      generalize xx_V D (D.1 i) j = V at *
      simp (disch := omega) only [ax_const, ax_iload, ax_lload, ax_aload, ax_istore, ax_astore, ax_iinc, ax_i2, ax_i2n, ax_l2, ax_lsh, ax_ii, ax_il, ax_li, ax_pop, ax_dup, ax_dup2, ax_if, ax_cmp, ax_acmp, ax_goto, ax_getI, ax_getR, ax_putI, ax_putR, ax_gets, ax_getsT, ax_aldI, ax_aldR, ax_astI, ax_astR, ax_alen, ax_ret, ax_aret, ax_vret, am_st, am_kl, List.getElem?_cons_zero, List.getElem?_cons_succ, List.set_cons_zero, List.set_cons_succ, Value.category, true_and, and_true, if_true, if_false, reduceCtorEq, Bool.false_eq_true, false_implies, forall_const, Option.some.injEq, exists_eq_left', exists_eq_left, Sum.inl.injEq, Sum.inr.injEq, Prod.mk.injEq, nI_toInt, nI_clamp, am_ix_nI, am_ix_0, am_ix_1, am_ix_2, am_ix_3, am_n0, am_n1, am_n2, am_n3, am_n4, am_t0, am_t1, am_t2, am_t3, am_t4, am_tm1, am_nS, am_nP, am_nM, Int.ofNat_lt, Int.ofNat_le, Option.toList_some, Option.toList_none, List.cons_append, List.nil_append, List.append_nil, z1, z4, hR.1, hR.2.1, hR.2.2.1, hR.2.2.2.2.2.1]
      refine ⟨fun c3 => ?_, fun c3 => ⟨fun c4 => ?_, fun c4 => ?_⟩⟩
      · rw [if_neg (by omega)] at fin
        exact ⟨t1, u1, fin⟩
      · rw [if_pos (by omega)] at fin
        have ek : kk.toNatClampNeg = kk.toInt.toNat := rfl
        have hk : kk.toNatClampNeg < V.length := by omega
        obtain ⟨c0, e1, e2, e3, e4, e5⟩ := hR.get (i := kk.toNatClampNeg) (List.getElem?_eq_getElem hk)
        have eg : V.getD kk.toNatClampNeg xr_0 = V[kk.toNatClampNeg] := by rw [List.getD_eq_getElem?_getD, List.getElem?_eq_getElem hk]; rfl
        rw [eg] at fin
        have ev := xr_at.col (e := V[kk.toNatClampNeg]) (a := p' kk.toNatClampNeg) e5 hw
        simp (disch := omega) only [ax_const, ax_iload, ax_lload, ax_aload, ax_istore, ax_astore, ax_iinc, ax_i2, ax_i2n, ax_l2, ax_lsh, ax_ii, ax_il, ax_li, ax_pop, ax_dup, ax_dup2, ax_if, ax_cmp, ax_acmp, ax_goto, ax_getI, ax_getR, ax_putI, ax_putR, ax_gets, ax_getsT, ax_aldI, ax_aldR, ax_astI, ax_astR, ax_alen, ax_ret, ax_aret, ax_vret, am_st, am_kl, List.getElem?_cons_zero, List.getElem?_cons_succ, List.set_cons_zero, List.set_cons_succ, Value.category, true_and, and_true, if_true, if_false, reduceCtorEq, Bool.false_eq_true, false_implies, forall_const, Option.some.injEq, exists_eq_left', exists_eq_left, Sum.inl.injEq, Sum.inr.injEq, Prod.mk.injEq, nI_toInt, nI_clamp, am_ix_nI, am_ix_0, am_ix_1, am_ix_2, am_ix_3, am_n0, am_n1, am_n2, am_n3, am_n4, am_t0, am_t1, am_t2, am_t3, am_t4, am_tm1, am_nS, am_nP, am_nM, Int.ofNat_lt, Int.ofNat_le, e1, e4, ev]
        exact ⟨⟨by omega, by omega⟩, hw, t1, u1, fin⟩
      · rw [if_neg (by omega)] at fin
        exact ⟨t1, u1, fin⟩
    · rw [if_neg q2]
      simp (disch := omega) only [ax_const, ax_iload, ax_lload, ax_aload, ax_istore, ax_astore, ax_iinc, ax_i2, ax_i2n, ax_l2, ax_lsh, ax_ii, ax_il, ax_li, ax_pop, ax_dup, ax_dup2, ax_if, ax_cmp, ax_acmp, ax_goto, ax_getI, ax_getR, ax_putI, ax_putR, ax_gets, ax_getsT, ax_aldI, ax_aldR, ax_astI, ax_astR, ax_alen, ax_ret, ax_aret, ax_vret, am_st, am_kl, List.getElem?_cons_zero, List.getElem?_cons_succ, List.set_cons_zero, List.set_cons_succ, Value.category, true_and, and_true, if_true, if_false, reduceCtorEq, Bool.false_eq_true, false_implies, forall_const, Option.some.injEq, exists_eq_left', exists_eq_left, Sum.inl.injEq, Sum.inr.injEq, Prod.mk.injEq, nI_toInt, nI_clamp, am_ix_nI, am_ix_0, am_ix_1, am_ix_2, am_ix_3, am_n0, am_n1, am_n2, am_n3, am_n4, am_t0, am_t1, am_t2, am_t3, am_t4, am_tm1, am_nS, am_nP, am_nM, Int.ofNat_lt, Int.ofNat_le, Option.toList_some, Option.toList_none, List.cons_append, List.nil_append, List.append_nil]
      exact ⟨hQ0 (Or.inr (Or.inl q2)), fun z => absurd trivial z⟩
  · rw [if_neg q]
    simp (disch := omega) only [ax_const, ax_iload, ax_lload, ax_aload, ax_istore, ax_astore, ax_iinc, ax_i2, ax_i2n, ax_l2, ax_lsh, ax_ii, ax_il, ax_li, ax_pop, ax_dup, ax_dup2, ax_if, ax_cmp, ax_acmp, ax_goto, ax_getI, ax_getR, ax_putI, ax_putR, ax_gets, ax_getsT, ax_aldI, ax_aldR, ax_astI, ax_astR, ax_alen, ax_ret, ax_aret, ax_vret, am_st, am_kl, List.getElem?_cons_zero, List.getElem?_cons_succ, List.set_cons_zero, List.set_cons_succ, Value.category, true_and, and_true, if_true, if_false, reduceCtorEq, Bool.false_eq_true, false_implies, forall_const, Option.some.injEq, exists_eq_left', exists_eq_left, Sum.inl.injEq, Sum.inr.injEq, Prod.mk.injEq, nI_toInt, nI_clamp, am_ix_nI, am_ix_0, am_ix_1, am_ix_2, am_ix_3, am_n0, am_n1, am_n2, am_n3, am_n4, am_t0, am_t1, am_t2, am_t3, am_t4, am_tm1, am_nS, am_nP, am_nM, Int.ofNat_lt, Int.ofNat_le, Option.toList_some, Option.toList_none, List.cons_append, List.nil_append, List.append_nil]
    exact ⟨hQ0 (Or.inl q), fun z => absurd trivial z⟩
