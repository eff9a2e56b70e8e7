/-! the law: its loop -/
def lb15 (x : Int32) : Nat := (x &&& 15).toBitVec.toNat
theorem lb15_eq (x : Int32) : x &&& 15 = nI (lb15 x) := (nI_nz (x &&& 15)).symm
theorem lb15_lt (x : Int32) : lb15 x < 16 := by
  have : (x &&& 15).toBitVec.toNat = x.toBitVec.toNat &&& 15 := by
    rw [Int32.toBitVec_and, BitVec.toNat_and]
    rfl
  unfold lb15
  rw [this]
  exact Nat.lt_succ_of_le Nat.and_le_right
theorem lw_m5 : ∀ L, L < 325 → (nI L - 5).toInt = (L : Int) - 5 := by decide +kernel
theorem lw_58 {nm : String} {cc : ByteArray} {g : am_G} {l : Launch} {X b L d : Nat} {xs : Nat → Int32} {lim : Nat × Nat} {Q : Option Value → am_S → Prop} (hc : cc = code) (hL : L ≤ 324) (hd : 40 ≤ d) (hQ : ∀ σ, Q (some (.int 1)) σ) :
    ∀ (n i : Nat) (σ : am_S) (D : xx_D), L ≤ i + 4 + 5 * n → i ≤ 324 + 5 → lwI g σ X b L xs D → am_tp σ = lim.1 → am_us σ = lim.2 → am_W g l (mL_lawN nm cc) d lim Q 58 [some (.ref b), some (.ref X), some (.ref (X + 719)), some (.int (nI i))] [] σ := by
  intro n
  induction n with
  | zero =>
    intro i σ D hn hi9 h0 htp hus
    have hs := h0.2.2.2.2.1.1
    have h5 := lw_m5 L (by omega)
    have e5 : Int32.ofNat L = nI L := rfl
    refine kL_law_58 hc ?_
    simp (disch := omega) only [ax_const, ax_iload, ax_lload, ax_aload, ax_istore, ax_astore, ax_iinc, ax_i2, ax_i2n, ax_l2, ax_lsh, ax_ii, ax_il, ax_li, ax_pop, ax_dup, ax_dup2, ax_if, ax_cmp, ax_acmp, ax_goto, ax_getI, ax_getR, ax_putI, ax_putR, ax_gets, ax_getsT, ax_aldI, ax_aldR, ax_astI, ax_astR, ax_alen, ax_ret, ax_aret, ax_vret, am_st, am_kl, List.getElem?_cons_zero, List.getElem?_cons_succ, List.set_cons_zero, List.set_cons_succ, Value.category, true_and, and_true, if_true, if_false, reduceCtorEq, Bool.false_eq_true, false_implies, forall_const, Option.some.injEq, exists_eq_left', exists_eq_left, Sum.inl.injEq, Sum.inr.injEq, Prod.mk.injEq, nI_toInt, nI_clamp, am_ix_nI, am_ix_0, am_ix_1, am_ix_2, am_ix_3, am_n0, am_n1, am_n2, am_n3, am_n4, am_t0, am_t1, am_t2, am_t3, am_t4, am_tm1, am_nS, am_nP, am_nM, Int.ofNat_lt, Int.ofNat_le, hs]
    refine ⟨11, L, ⟨rfl, rfl⟩, ?_⟩
    rw [e5, h5]
    exact ⟨fun _ => ⟨Or.inr trivial, htp, hus, hQ σ⟩, fun z => by omega⟩
  | succ n ih =>
    intro i σ D hn hi9 h0 htp hus
    have hs := h0.2.2.2.2.1.1
    have h5 := lw_m5 L (by omega)
    have e5 : Int32.ofNat L = nI L := rfl
    refine kL_law_58 hc ?_
    simp (disch := omega) only [ax_const, ax_iload, ax_lload, ax_aload, ax_istore, ax_astore, ax_iinc, ax_i2, ax_i2n, ax_l2, ax_lsh, ax_ii, ax_il, ax_li, ax_pop, ax_dup, ax_dup2, ax_if, ax_cmp, ax_acmp, ax_goto, ax_getI, ax_getR, ax_putI, ax_putR, ax_gets, ax_getsT, ax_aldI, ax_aldR, ax_astI, ax_astR, ax_alen, ax_ret, ax_aret, ax_vret, am_st, am_kl, List.getElem?_cons_zero, List.getElem?_cons_succ, List.set_cons_zero, List.set_cons_succ, Value.category, true_and, and_true, if_true, if_false, reduceCtorEq, Bool.false_eq_true, false_implies, forall_const, Option.some.injEq, exists_eq_left', exists_eq_left, Sum.inl.injEq, Sum.inr.injEq, Prod.mk.injEq, nI_toInt, nI_clamp, am_ix_nI, am_ix_0, am_ix_1, am_ix_2, am_ix_3, am_n0, am_n1, am_n2, am_n3, am_n4, am_t0, am_t1, am_t2, am_t3, am_t4, am_tm1, am_nS, am_nP, am_nM, Int.ofNat_lt, Int.ofNat_le, hs, lb15_eq]
    refine ⟨11, L, ⟨rfl, rfl⟩, ?_⟩
    rw [e5, h5]
    refine ⟨fun _ => ⟨Or.inr trivial, htp, hus, hQ σ⟩, fun z => ⟨by omega, ?_⟩⟩
    have hi : i + 4 < L := by omega
    have hK : ∀ σ' D', lwI g σ' X b L xs D' → am_tp σ' = lim.1 → am_us σ' = lim.2 → am_W g l (mL_lawN nm cc) d lim Q 58 [some (.ref b), some (.ref X), some (.ref (X + 719)), some (.int (nI (i + 5)))] [] σ' := fun σ' D' h1 h2 h3 => ih (i + 5) σ' D' (by omega) (by omega) h1 h2 h3
    have hlt := lb15_lt (am_i σ b i)
    refine kL_law_72 hc hlt ?_
    generalize lb15 (am_i σ b i) = j at hlt ⊢
    have hj : j = 0 ∨ j = 1 ∨ j = 2 ∨ j = 3 ∨ j = 4 ∨ j = 5 ∨ j = 6 ∨ j = 7 ∨ j = 8 ∨ j = 9 ∨ j = 10 ∨ j = 11 ∨ j = 12 ∨ j = 13 ∨ j = 14 ∨ j = 15 := by omega
    rcases hj with rfl | rfl | rfl | rfl | rfl | rfl | rfl | rfl | rfl | rfl | rfl | rfl | rfl | rfl | rfl | rfl
    · exact lwc_write hc h0 hL hi hd htp hus hK
    · exact lwc_run hc h0 hL hi hd htp hus hK
    · exact lwc_begin hc h0 hL hi hd htp hus hK
    · exact lwc_commit hc h0 hL hi hd htp hus hK
    · exact lwc_abort hc h0 hL hi hd htp hus hK
    · exact lwc_checkpoint hc h0 hL hi hd htp hus hK
    · exact lwc_cut hc h0 hL hi hd htp hus hK
    · exact lwc_crash hc h0 hL hi hd htp hus hK
    · exact lwc_label hc h0 hL hi hd htp hus hK
    · exact lwc_busy hc h0 hL hi hd htp hus hK
    · exact lwc_log hc h0 hL hi hd htp hus hK
    · exact lwc_rows hc h0 hL hi hd htp hus hK
    · exact lwc_cell hc h0 hL hi hd htp hus hK
    · exact lwc_results hc h0 hL hi hd htp hus hK
    · exact lwc_value hc h0 hL hi hd htp hus hK
    · exact lwc_draft hc h0 hL hi hd htp hus hK
/-! the law: its beginning -/
def lw_c (xs : Nat → Int32) (L k : Nat) : Int32 := if k < L then xs k else 0
theorem c_Lcell {g : am_G} {l : Launch} {σ : am_S} {b L k : Nat} {xs : Nat → Int32} {Q : Option Value → am_S → Prop} (hs : am_sh σ b = some (.inr (11, L))) (hx : ∀ j, j < L → am_i σ b j = xs j) (hL : L ≤ 324) (hk : k < 4) (hQ : Q (some (.int (lw_c xs L k))) σ) : am_C g l mL_cell 0 (am_tp σ, am_us σ) [.ref b, .int (nI k)] σ Q := by
  have e5 : Int32.ofNat L = nI L := rfl
  unfold lw_c at hQ
  refine am_C.go [some (.ref b), some (.int (nI k))] (by decide +kernel) (Nat.le_of_ble_eq_true rfl) rfl (kL_cell_0 ?_)
  simp (disch := omega) only [ax_const, ax_iload, ax_lload, ax_aload, ax_istore, ax_astore, ax_iinc, ax_i2, ax_i2n, ax_l2, ax_lsh, ax_ii, ax_il, ax_li, ax_pop, ax_dup, ax_dup2, ax_if, ax_cmp, ax_acmp, ax_goto, ax_getI, ax_getR, ax_putI, ax_putR, ax_gets, ax_getsT, ax_aldI, ax_aldR, ax_astI, ax_astR, ax_alen, ax_ret, ax_aret, ax_vret, am_st, am_kl, List.getElem?_cons_zero, List.getElem?_cons_succ, List.set_cons_zero, List.set_cons_succ, Value.category, true_and, and_true, if_true, if_false, reduceCtorEq, Bool.false_eq_true, false_implies, forall_const, Option.some.injEq, exists_eq_left', exists_eq_left, Sum.inl.injEq, Sum.inr.injEq, Prod.mk.injEq, nI_toInt, nI_clamp, am_ix_nI, am_ix_0, am_ix_1, am_ix_2, am_ix_3, am_n0, am_n1, am_n2, am_n3, am_n4, am_t0, am_t1, am_t2, am_t3, am_t4, am_tm1, am_nS, am_nP, am_nM, Int.ofNat_lt, Int.ofNat_le, hs]
  refine ⟨11, L, ⟨rfl, rfl⟩, ?_⟩
  rw [e5, nI_toInt (by omega)]
  refine ⟨fun z => ⟨by omega, ?_⟩, fun z => ?_⟩
  · rw [hx k (by omega)]
    rw [if_pos (by omega)] at hQ
    exact hQ
  · rw [if_neg (by omega)] at hQ
    exact hQ
theorem lw_0 {nm : String} {cc : ByteArray} {g : am_G} {l : Launch} {σ : am_S} {b L d : Nat} {xs : Nat → Int32} {Q : Option Value → am_S → Prop} (hc : cc = code) (hL : L ≤ 324) (hd : 40 ≤ d) (hQ : ∀ σ, Q (some (.int 1)) σ) (hT : xt_T g σ) (hs : am_sh σ b = some (.inr (11, L))) (hx : ∀ j, j < L → am_i σ b j = xs j) (hb : b < g.2.2.1.size) (hsz : g.2.2.1.size ≤ am_tp σ) :
    am_W g l (mL_lawN nm cc) d (am_tp σ + 751, am_us σ + 9214) Q 0 [some (.ref b), none, none, none] [] σ := by
  have y0 : (0 : Int32) = nI 0 := rfl
  have y1 : (1 : Int32) = nI 1 := rfl
  have y2 : (2 : Int32) = nI 2 := rfl
  have y3 : (3 : Int32) = nI 3 := rfl
  have LE : ∀ {τ : am_S}, am_tp τ ≤ am_tp σ + 751 → am_us τ ≤ am_us σ + 9214 → am_tp τ ≤ (am_tp σ + 751, am_us σ + 9214).1 ∧ am_us τ ≤ (am_tp σ + 751, am_us σ + 9214).2 := fun a b => ⟨a, b⟩
  refine kL_law_0 hc ⟨by dsimp only; omega, by dsimp only; omega, ?_⟩
  have F1 : am_fa (fun b => am_tp σ ≤ b) σ (am_al σ (.inl 9) 5) := am_fa.rf.al (Nat.le_refl _)
  have s1 : am_sh (am_al σ (.inl 9) 5) b = some (.inr (11, L)) := by rw [(F1 b (by omega)).1]; exact hs
  have x1 : ∀ j, j < L → am_i (am_al σ (.inl 9) 5) b j = xs j := fun j hj => by rw [(F1 b (by omega)).2.1]; exact hx j hj
  have n1 : am_sh (am_al σ (.inl 9) 5) (am_tp σ) = some (.inl 9) := by simp only [ax_new, ax_newa, ax_mna, ax_oinit, List.map_nil, List.map_cons, List.sum_nil, List.sum_cons, am_sh_al, am_i_al, am_r_al, am_tp_al, am_us_al, am_sh_mna, am_i_mna, am_r_mna, am_tp_mna, am_us_mna, am_sh_wi, am_sh_wr, am_r_wi, am_i_wr, am_tp_wi, am_tp_wr, am_us_wi, am_us_wr, am_i_wi, am_r_wr, if_neg, if_pos, if_true, if_false, true_and, and_true, and_self, false_and, and_false]
  have t1 : am_tp (am_al σ (.inl 9) 5) = am_tp σ + 1 := rfl
  have u1 : am_us (am_al σ (.inl 9) 5) = am_us σ + 5 := rfl
  generalize am_al σ (.inl 9) 5 = σ1 at *
  simp only [ax_dup, ax_aload, ax_const, List.getElem?_cons_zero, Value.category, true_and, y0, y1, y2, y3]
  refine am_callK [.ref b, .int (nI 0)] [.ref (am_tp σ), .ref (am_tp σ)] (d' := 0) (lim' := (am_tp σ1, am_us σ1)) rfl (by omega) (by dsimp only; omega) (by dsimp only; omega) rfl (Nat.le_of_ble_eq_true rfl) am_stat ?_
  refine c_Lcell s1 x1 hL (by decide) (fun _ _ => ?_)
  simp only [Option.toList_some, Option.toList_none, List.cons_append, List.nil_append, List.append_nil, ax_aload, ax_const, List.getElem?_cons_zero]
  refine am_callK [.ref b, .int (nI 1)] [.int (lw_c xs L 0), .ref (am_tp σ), .ref (am_tp σ)] (d' := 0) (lim' := (am_tp σ1, am_us σ1)) rfl (by omega) (by dsimp only; omega) (by dsimp only; omega) rfl (Nat.le_of_ble_eq_true rfl) am_stat ?_
  refine c_Lcell s1 x1 hL (by decide) (fun _ _ => ?_)
  simp only [Option.toList_some, Option.toList_none, List.cons_append, List.nil_append, List.append_nil, ax_aload, ax_const, List.getElem?_cons_zero]
  refine am_callK [.ref b, .int (nI 2)] [.int (lw_c xs L 1), .int (lw_c xs L 0), .ref (am_tp σ), .ref (am_tp σ)] (d' := 0) (lim' := (am_tp σ1, am_us σ1)) rfl (by omega) (by dsimp only; omega) (by dsimp only; omega) rfl (Nat.le_of_ble_eq_true rfl) am_stat ?_
  refine c_Lcell s1 x1 hL (by decide) (fun _ _ => ?_)
  simp only [Option.toList_some, Option.toList_none, List.cons_append, List.nil_append, List.append_nil, ax_aload, ax_const, List.getElem?_cons_zero]
  refine am_callK [.ref b, .int (nI 3)] [.int (lw_c xs L 2), .int (lw_c xs L 1), .int (lw_c xs L 0), .ref (am_tp σ), .ref (am_tp σ)] (d' := 0) (lim' := (am_tp σ1, am_us σ1)) rfl (by omega) (by dsimp only; omega) (by dsimp only; omega) rfl (Nat.le_of_ble_eq_true rfl) am_stat ?_
  refine c_Lcell s1 x1 hL (by decide) (fun _ _ => ?_)
  simp only [Option.toList_some, Option.toList_none, List.cons_append, List.nil_append, List.append_nil]
  refine am_callK [.ref (am_tp σ), .int (lw_c xs L 0), .int (lw_c xs L 1), .int (lw_c xs L 2), .int (lw_c xs L 3)] [.ref (am_tp σ)] (d' := 5) (lim' := (am_tp σ + 719, am_us σ1 + 6485)) rfl (by omega) (by dsimp only; omega) (by dsimp only; omega) rfl (Nat.le_of_ble_eq_true rfl) (am_recv n1) ?_
  refine c_x9i n1 t1 (fun σ2 hB hS hE f2 t2 u2 => ?_)
  have t2 : am_tp σ2 = am_tp σ + 719 := t2
  have u2 : am_us σ2 = am_us σ + 6490 := by dsimp only at u2; omega
  have F2 := F1.tr f2
  simp only [Option.toList_some, Option.toList_none, List.cons_append, List.nil_append, List.append_nil, ax_astore, am_st, am_kl, List.getElem?_cons_zero, List.set_cons_succ, List.set_cons_zero]
  refine ⟨by dsimp only; omega, by dsimp only; omega, ?_⟩
  have G1 : am_fa (fun b => am_tp σ + 719 ≤ b) σ2 (am_al σ2 (.inl 10) 54) := am_fa.rf.al (by omega)
  have F3 := F2.tr (G1.mono (P' := fun b => am_tp σ ≤ b) (fun b x => by omega))
  have s3 : am_sh (am_al σ2 (.inl 10) 54) b = some (.inr (11, L)) := by rw [(F3 b (by omega)).1]; exact hs
  have x3 : ∀ j, j < L → am_i (am_al σ2 (.inl 10) 54) b j = xs j := fun j hj => by rw [(F3 b (by omega)).2.1]; exact hx j hj
  have n3 : am_sh (am_al σ2 (.inl 10) 54) (am_tp σ + 719) = some (.inl 10) := by simp only [ax_new, ax_newa, ax_mna, ax_oinit, List.map_nil, List.map_cons, List.sum_nil, List.sum_cons, am_sh_al, am_i_al, am_r_al, am_tp_al, am_us_al, am_sh_mna, am_i_mna, am_r_mna, am_tp_mna, am_us_mna, am_sh_wi, am_sh_wr, am_r_wi, am_i_wr, am_tp_wi, am_tp_wr, am_us_wi, am_us_wr, am_i_wi, am_r_wr, if_neg, if_pos, if_true, if_false, true_and, and_true, and_self, false_and, and_false, t2]
  have z3 : ∀ j, am_i (am_al σ2 (.inl 10) 54) (am_tp σ + 719) j = 0 := fun j => by simp only [ax_new, ax_newa, ax_mna, ax_oinit, List.map_nil, List.map_cons, List.sum_nil, List.sum_cons, am_sh_al, am_i_al, am_r_al, am_tp_al, am_us_al, am_sh_mna, am_i_mna, am_r_mna, am_tp_mna, am_us_mna, am_sh_wi, am_sh_wr, am_r_wi, am_i_wr, am_tp_wi, am_tp_wr, am_us_wi, am_us_wr, am_i_wi, am_r_wr, if_neg, if_pos, if_true, if_false, true_and, and_true, and_self, false_and, and_false, t2]
  have t3 : am_tp (am_al σ2 (.inl 10) 54) = am_tp σ + 719 + 1 := by rw [am_tp_al, t2]
  have u3 : am_us (am_al σ2 (.inl 10) 54) = am_us σ + 6544 := by rw [am_us_al, u2]
  rw [t2]
  generalize am_al σ2 (.inl 10) 54 = σ3 at *
  simp only [ax_dup, ax_aload, ax_const, List.getElem?_cons_zero, Value.category, true_and, y0, y1, y2, y3]
  refine am_callK [.ref b, .int (nI 0)] [.ref (am_tp σ + 719), .ref (am_tp σ + 719)] (d' := 0) (lim' := (am_tp σ3, am_us σ3)) rfl (by omega) (by dsimp only; omega) (by dsimp only; omega) rfl (Nat.le_of_ble_eq_true rfl) am_stat ?_
  refine c_Lcell s3 x3 hL (by decide) (fun _ _ => ?_)
  simp only [Option.toList_some, Option.toList_none, List.cons_append, List.nil_append, List.append_nil, ax_aload, ax_const, List.getElem?_cons_zero]
  refine kL_law_39 hc ?_
  refine am_callK [.ref b, .int (nI 1)] [.int (lw_c xs L 0), .ref (am_tp σ + 719), .ref (am_tp σ + 719)] (d' := 0) (lim' := (am_tp σ3, am_us σ3)) rfl (by omega) (by dsimp only; omega) (by dsimp only; omega) rfl (Nat.le_of_ble_eq_true rfl) am_stat ?_
  refine c_Lcell s3 x3 hL (by decide) (fun _ _ => ?_)
  simp only [Option.toList_some, Option.toList_none, List.cons_append, List.nil_append, List.append_nil, ax_aload, ax_const, List.getElem?_cons_zero, y2, y3]
  refine am_callK [.ref b, .int (nI 2)] [.int (lw_c xs L 1), .int (lw_c xs L 0), .ref (am_tp σ + 719), .ref (am_tp σ + 719)] (d' := 0) (lim' := (am_tp σ3, am_us σ3)) rfl (by omega) (by dsimp only; omega) (by dsimp only; omega) rfl (Nat.le_of_ble_eq_true rfl) am_stat ?_
  refine c_Lcell s3 x3 hL (by decide) (fun _ _ => ?_)
  simp only [Option.toList_some, Option.toList_none, List.cons_append, List.nil_append, List.append_nil, ax_aload, ax_const, List.getElem?_cons_zero]
  refine am_callK [.ref b, .int (nI 3)] [.int (lw_c xs L 2), .int (lw_c xs L 1), .int (lw_c xs L 0), .ref (am_tp σ + 719), .ref (am_tp σ + 719)] (d' := 0) (lim' := (am_tp σ3, am_us σ3)) rfl (by omega) (by dsimp only; omega) (by dsimp only; omega) rfl (Nat.le_of_ble_eq_true rfl) am_stat ?_
  refine c_Lcell s3 x3 hL (by decide) (fun _ _ => ?_)
  simp only [Option.toList_some, Option.toList_none, List.cons_append, List.nil_append, List.append_nil]
  refine am_callK [.ref (am_tp σ + 719), .int (lw_c xs L 0), .int (lw_c xs L 1), .int (lw_c xs L 2), .int (lw_c xs L 3)] [.ref (am_tp σ + 719)] (d' := 1) (lim' := (am_tp σ + 719 + 32, am_us σ3 + 2670)) rfl (by omega) (by dsimp only; omega) (by dsimp only; omega) rfl (Nat.le_of_ble_eq_true rfl) (am_recv n3) ?_
  refine c_yi n3 z3 t3 (fun σ4 hN f4 t4 u4 => ?_)
  simp only [Option.toList_some, Option.toList_none, List.cons_append, List.nil_append, List.append_nil, ax_astore, ax_const, ax_istore, am_st, am_kl, List.getElem?_cons_zero, List.getElem?_cons_succ, List.set_cons_succ, List.set_cons_zero]
  have G2 := G1.tr (f4.mono (fun b x => x))
  have F4 := F2.tr (G2.mono (P' := fun b => am_tp σ ≤ b) (fun b x => by omega))
  obtain ⟨hO, hq⟩ := hN.O
  have hB4 : x9_B g σ4 (am_tp σ) := hB.fa G2 (G2 _ (by omega)).1 (G2 _ (by omega)).1 (fun b x1 x2 x3 x4 z => by omega)
  have hX4 := x9_O hsz hB4 (hS.fa G2 (fun b x => x)) (hE.fa G2 (fun b x => x)) (hT.fa F4 (fun b x => by omega))
  have hG : GD (xx_D0 (lw_c xs L 0) (lw_c xs L 1) (lw_c xs L 2) (lw_c xs L 3)) := ⟨⟨fun lb hlb t ht => ⟨fun e he => by simp [xx_D0] at he, fun e he => by simp [xx_D0] at he⟩, fun lb hlb hq => rfl⟩, fun i hi c hc => by simp [xx_D0] at hc⟩
  have r := lw_58 (g := g) (l := l) (nm := nm) (cc := cc) (X := am_tp σ) (b := b) (L := L) (d := d) (xs := xs) (lim := (am_tp σ + 751, am_us σ + 9214)) (Q := Q) hc hL hd hQ 64 4 σ4 _ (by omega) (by omega) ⟨hX4, hO, hq, hG, ⟨by rw [(F4 b (by omega)).1]; exact hs, fun j hj => by rw [(F4 b (by omega)).2.1]; exact hx j hj⟩, hb⟩ t4 (by dsimp only at u4 ⊢; omega)
  exact r
