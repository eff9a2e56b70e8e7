/-! making: LabelledTables, whole -/
def lb7 (x : Int32) : Nat := (x &&& 7).toBitVec.toNat
theorem lb7_eq (x : Int32) : x &&& 7 = nI (lb7 x) := (nI_nz (x &&& 7)).symm
theorem lb7_lt (x : Int32) : lb7 x < 8 := by
  have : (x &&& 7).toBitVec.toNat = x.toBitVec.toNat &&& 7 := by
    rw [Int32.toBitVec_and, BitVec.toNat_and]
    rfl
  unfold lb7
  rw [this]
  exact Nat.lt_succ_of_le Nat.and_le_right
def lbs (q1 q2 q3 q4 : Int32) (i : Nat) : Nat := lb7 (if i = 0 then q1 else if i = 1 then q2 else if i = 2 then q3 else q4)
def xx_D0 (q1 q2 q3 q4 : Int32) : xx_D := (lbs q1 q2 q3 q4, fun _ _ => [], fun _ _ => [], fun _ => -1, fun _ => 0, fun _ => [], fun _ => 0, fun _ => 0, fun _ _ _ => 0)
theorem xt_W.fa {g : am_G} {P : Nat → Prop} {σ σ' : am_S} {b : Nat} {w : List Nat} (h : xt_W g σ b w) (hf : am_fa P σ σ') (hP : ∀ a, P a → g.2.2.1.size ≤ a) : xt_W g σ' b w := by
  obtain ⟨h1, h2, h3, h4, h5, y, h6, h7, h8, h9⟩ := h
  have nb := hf b (fun z => by have := hP b z; omega)
  have ny := hf y (fun z => by have := hP y z; omega)
  unfold xt_W
  rw [nb.1, nb.2.1, nb.2.2]
  refine ⟨h1, h2, h3, h4, h5, y, h6, h7, ?_, ?_⟩
  · rw [ny.1]; exact h8
  · rw [ny.2.1]; exact h9
theorem xt_T.fa {g : am_G} {P : Nat → Prop} {σ σ' : am_S} (h : xt_T g σ) (hf : am_fa P σ σ') (hP : ∀ a, P a → g.2.2.1.size ≤ a) : xt_T g σ' := by
  obtain ⟨h1, h2, ⟨h3, h4, h5⟩, h6, h7⟩ := h
  have n37 := hf (am_tk g 37) (fun z => by have := hP _ z; omega)
  refine ⟨fun t ht => ?_, fun t ht => ?_, ⟨h3, by rw [n37.1]; exact h4, fun t ht => by rw [n37.2.2]; exact h5 t ht⟩, h6, h7⟩
  · obtain ⟨a1, a2, a3, a4⟩ := h1 t ht
    have e := hf (am_tk g t) (fun z => by have := hP _ z; omega)
    exact ⟨by rw [e.1]; exact a1, a2, by rw [e.2.1]; exact a3, by rw [e.2.1]; exact a4⟩
  · obtain ⟨b, b1, b2⟩ := h2 t ht
    have e := hf (am_tk g t) (fun z => by have := hP _ z; have := (h1 t ht).2.1; omega)
    exact ⟨b, by rw [e.2.2]; exact b1, b2.fa hf hP⟩
theorem x9_O {g : am_G} {σ : am_S} {X : Nat} {q1 q2 q3 q4 : Int32} (hX : g.2.2.1.size ≤ X) (hB : x9_B g σ X) (hS : x9_S σ X 8) (hE : x9_E σ X 4 (lbs q1 q2 q3 q4)) (hT : xt_T g σ) : xx_O g σ X (xx_D0 q1 q2 q3 q4) := by
  obtain ⟨⟨a1, a2, a3, a4, a5, a6, a7, a8⟩, ⟨p, h2⟩, ⟨p1, p2, p3, p4, p5⟩, l1, l2, l3⟩ := hB
  exact ⟨⟨a1, a2, a3, a4, a5, a6, a7, a8, hX⟩, hS, hE, hT, ⟨p1, p2, p3, p4, p5.S.1, ⟨_, _, p5.S.2⟩, by omega⟩, ⟨p, _, h2⟩, l1, ⟨_, _, l2⟩, _, _, l3⟩
theorem x9_al {g : am_G} {σ : am_S} {X : Nat} (hB : x9_B g σ X) (hS : x9_S σ X 8) (ht : X + 547 ≤ am_tp σ) : am_sh (am_al σ (.inl 5) 6) X = some (.inl 9) ∧ am_r (am_al σ (.inl 5) 6) X 0 = some (X + 1) ∧ am_sh (am_al σ (.inl 5) 6) (X + 1) = some (.inr (4, 8)) ∧ ∀ q : Int32, am_r (am_al σ (.inl 5) 6) (X + 1) (lb7 q) = some (xx_st X (lb7 q)) := by
  obtain ⟨⟨a1, a2, a3, a4, a5, a6, a7, a8⟩, -⟩ := hB
  have F := am_fa.al (am_fa.rf (P := fun b => b = am_tp σ) (σ := σ)) (x := .inl 5) (n := 6) rfl
  have e0 := F X (by omega)
  have e1 := F (X + 1) (by omega)
  rw [e0.1, e0.2.2, e1.1, e1.2.2]
  exact ⟨a1, a2, a7, fun q => (hS _ (lb7_lt q)).1⟩
theorem c_x9i {g : am_G} {l : Launch} {σ : am_S} {X : Nat} {q1 q2 q3 q4 : Int32} {Q : Option Value → am_S → Prop} (ha : am_sh σ X = some (.inl 9)) (ht : am_tp σ = X + 1) (hQ : ∀ σ', x9_B g σ' X → x9_S σ' X 8 → x9_E σ' X 4 (lbs q1 q2 q3 q4) → am_fa (fun b => X ≤ b) σ σ' → Q none σ') : am_C g l mX9_init 5 (X + 719, am_us σ + 6485) [.ref X, .int q1, .int q2, .int q3, .int q4] σ Q := by
  refine am_C.at [some (.ref X), some (.int q1), some (.int q2), some (.int q3), some (.int q4), none] (by decide +kernel) (Nat.le_of_ble_eq_true rfl) rfl (by dsimp only; omega) (by dsimp only; omega) (kX9_init_0 (by decide) ?_)
  simp only [ax_aload, ax_oinit, ax_const, List.getElem?_cons_zero, List.map_nil, List.sum_nil]
  refine ⟨by decide, ?_⟩
  refine nw_a (f := 0) (o := 1) (n := 8) (T := []) (u := am_us σ) ⟨ha, fun q hq => by cases hq⟩ ht rfl rfl (by decide) (by dsimp only; omega) (by dsimp only; omega) (by decide) (fun σ1 T1 F1 t1 u1 => ?_)
  simp only [ax_aload, ax_const, List.getElem?_cons_zero]
  refine nw_a (f := 1) (o := 2) (n := 4) (u := am_us σ + 8) T1 t1 u1 rfl (by decide) (by dsimp only; omega) (by dsimp only; omega) (by decide) (fun σ2 T2 F2 t2 u2 => ?_)
  simp only [ax_aload, List.getElem?_cons_zero]
  have G2 : am_fa (fun b => X ≤ b) σ σ2 := (F1.1.mono (fun b x => by omega)).tr (F2.1.mono (fun b x => by omega))
  refine nw_2 (a := X + 3) (n := 48) (u := am_us σ + 12) (by decide) rfl (by decide) t2 u2 (by dsimp only; omega) (by dsimp only; omega) (Nat.le_of_ble_eq_true rfl) (fun σ3 hk f3 t3 u3 => ?_)
  have T3 := T2.fa f3 (by omega) (fun q hq => by
    have : ∀ q : Nat × Nat × Nat × Nat, q ∈ [(1, 2, 5, 4), (0, 1, 4, 8)] → q.2.1 < 3 := by decide
    have := this q hq
    omega)
  simp only [ax_aload, List.getElem?_cons_zero, ax_putR, T3.1, true_and]
  have T4 := T3.wr (f := 2) (v := some (X + 3)) (by decide)
  have hk4 : xr_R (am_wr σ3 X 2 (some (X + 3))) (X + 3) 48 (fun i => X + 3 + 2 + i) [] := hk.fa ((am_fa.rf (P := fun b => b = X)).wr rfl) (fun b x y => by omega)
  have G4 : am_fa (fun b => X ≤ b) σ (am_wr σ3 X 2 (some (X + 3))) := (G2.tr (f3.mono (fun b x => by omega))).wr (Nat.le_refl _)
  have r4 : am_r (am_wr σ3 X 2 (some (X + 3))) X 2 = some (X + 3) := by rw [am_r_wr, if_pos ⟨rfl, rfl⟩]
  have t4 : am_tp (am_wr σ3 X 2 (some (X + 3))) = X + 53 := t3
  have u4 : am_us (am_wr σ3 X 2 (some (X + 3))) = am_us σ + 254 := u3
  generalize am_wr σ3 X 2 (some (X + 3)) = σ4 at *
  refine nw_1 (by decide) t4 u4 (by dsimp only; omega) (by dsimp only; omega) (Nat.le_of_ble_eq_true rfl) (fun σ5 hp f5 t5 u5 => ?_)
  have e5 := f5 X (by omega)
  have T5 := T4.fa f5 (by omega) (fun q hq => by
    have : ∀ q : Nat × Nat × Nat × Nat, q ∈ [(1, 2, 5, 4), (0, 1, 4, 8)] → q.2.1 < 3 := by decide
    have := this q hq
    omega)
  simp only [ax_aload, List.getElem?_cons_zero, ax_putR, T5.1, true_and]
  have T6 := T5.wr (f := 3) (v := some (X + 53)) (by decide)
  have f6 : am_fa (fun b => b = X) σ5 (am_wr σ5 X 3 (some (X + 53))) := am_fa.rf.wr rfl
  have hk6 := (hk4.fa f5 (fun b x y => by omega)).fa f6 (fun b x y => by omega)
  have hp6 := hp.fa f6 (fun b x y => by omega)
  have G6 : am_fa (fun b => X ≤ b) σ (am_wr σ5 X 3 (some (X + 53))) := (G4.tr (f5.mono (fun b x => by omega))).wr (Nat.le_refl _)
  have r6 : am_r (am_wr σ5 X 3 (some (X + 53))) X 2 = some (X + 3) := by rw [am_r_wr, if_neg (fun z => absurd z.2 (by decide)), e5.2.2]; exact r4
  have r6' : am_r (am_wr σ5 X 3 (some (X + 53))) X 3 = some (X + 53) := by rw [am_r_wr, if_pos ⟨rfl, rfl⟩]
  have t6 : am_tp (am_wr σ5 X 3 (some (X + 53))) = X + 88 := t5
  have u6 : am_us (am_wr σ5 X 3 (some (X + 53))) = am_us σ + 3366 := u5
  generalize am_wr σ5 X 3 (some (X + 53)) = σ6 at *
  refine ⟨by dsimp only; omega, by dsimp only; omega, kX9_init_49 ?_⟩
  have g6 : am_fa (fun b => b = am_tp σ6) σ6 (am_al σ6 (.inl 4) 11) := am_fa.rf.al rfl
  have T7 := T6.fa g6 (by omega) (fun q hq => by
    have : ∀ q : Nat × Nat × Nat × Nat, q ∈ [(1, 2, 5, 4), (0, 1, 4, 8)] → q.2.1 < 3 := by decide
    have := this q hq
    omega)
  have e7 := g6 X (by omega)
  have e7b := g6 (X + 53) (by omega)
  have s7 : am_sh (am_al σ6 (.inl 4) 11) (X + 53) = some (.inl 1) := by rw [e7b.1]; exact hp6.1
  have q7 : am_r (am_al σ6 (.inl 4) 11) X 3 = some (X + 53) := by rw [e7.2.2]; exact r6'
  have q7b : am_r (am_al σ6 (.inl 4) 11) (X + 53) 0 = some (X + 54) := by rw [e7b.2.2]; exact hp6.2.1
  have hs : am_sh (am_al σ6 (.inl 4) 11) (X + 88) = some (.inl 4) := by simp only [ax_new, ax_newa, ax_mna, ax_oinit, List.map_nil, List.map_cons, List.sum_nil, List.sum_cons, am_sh_al, am_i_al, am_r_al, am_tp_al, am_us_al, am_sh_mna, am_i_mna, am_r_mna, am_tp_mna, am_us_mna, am_sh_wi, am_sh_wr, am_r_wi, am_i_wr, am_tp_wi, am_tp_wr, am_us_wi, am_us_wr, am_i_wi, am_r_wr, if_neg, if_pos, if_true, if_false, true_and, and_true, and_self, false_and, and_false, t6]
  rw [t6]
  simp only [ax_dup, ax_aload, ax_getR, List.getElem?_cons_zero, Value.category, true_and, T7.1, q7, q7b, s7, Option.some.injEq, exists_eq_left']
  refine am_callK [.ref (X + 88), .ref (X + 54)] [.ref (X + 88), .ref X] (d' := 2) (lim' := (X + 88 + 107, am_us (am_al σ6 (.inl 4) 11) + 724)) rfl (by decide) (by dsimp only; omega) (by simp only [ax_new, ax_newa, ax_mna, ax_oinit, List.map_nil, List.map_cons, List.sum_nil, List.sum_cons, am_sh_al, am_i_al, am_r_al, am_tp_al, am_us_al, am_sh_mna, am_i_mna, am_r_mna, am_tp_mna, am_us_mna, am_sh_wi, am_sh_wr, am_r_wi, am_i_wr, am_tp_wi, am_tp_wr, am_us_wi, am_us_wr, am_i_wi, am_r_wr, if_neg, if_pos, if_true, if_false, true_and, and_true, and_self, false_and, and_false, u6]; omega) rfl (Nat.le_of_ble_eq_true rfl) (am_recv hs) ?_
  refine c_x4i hs (by simp only [ax_new, ax_newa, ax_mna, ax_oinit, List.map_nil, List.map_cons, List.sum_nil, List.sum_cons, am_sh_al, am_i_al, am_r_al, am_tp_al, am_us_al, am_sh_mna, am_i_mna, am_r_mna, am_tp_mna, am_us_mna, am_sh_wi, am_sh_wr, am_r_wi, am_i_wr, am_tp_wi, am_tp_wr, am_us_wi, am_us_wr, am_i_wi, am_r_wr, if_neg, if_pos, if_true, if_false, true_and, and_true, and_self, false_and, and_false, t6]) (fun σ8 hl f8 t8 u8 => ?_)
  have u8 : am_us σ8 = am_us σ + 4101 := by rw [u8]; simp only [ax_new, ax_newa, ax_mna, ax_oinit, List.map_nil, List.map_cons, List.sum_nil, List.sum_cons, am_sh_al, am_i_al, am_r_al, am_tp_al, am_us_al, am_sh_mna, am_i_mna, am_r_mna, am_tp_mna, am_us_mna, am_sh_wi, am_sh_wr, am_r_wi, am_i_wr, am_tp_wi, am_tp_wr, am_us_wi, am_us_wr, am_i_wi, am_r_wr, if_neg, if_pos, if_true, if_false, true_and, and_true, and_self, false_and, and_false, u6]
  have f9 : am_fa (fun b => X + 88 ≤ b ∧ b < X + 195) σ6 σ8 := (g6.mono (fun b x => by omega)).tr (f8.mono (fun b x => by omega))
  have T8 := T6.fa f9 (by omega) (fun q hq => by
    have : ∀ q : Nat × Nat × Nat × Nat, q ∈ [(1, 2, 5, 4), (0, 1, 4, 8)] → q.2.1 < 3 := by decide
    have := this q hq
    omega)
  have e9 := f9 X (by omega)
  simp only [Option.toList_some, Option.toList_none, List.cons_append, List.nil_append, List.append_nil, ax_putR, ax_const, ax_istore, T8.1, true_and, am_st, am_kl, List.getElem?_cons_zero, List.getElem?_cons_succ, List.set_cons_succ, List.set_cons_zero]
  have T9 := T8.wr (f := 4) (v := some (X + 88)) (by decide)
  have f10 : am_fa (fun b => b = X) σ8 (am_wr σ8 X 4 (some (X + 88))) := am_fa.rf.wr rfl
  have G9 : am_fa (fun b => X ≤ b) σ (am_wr σ8 X 4 (some (X + 88))) := (G6.tr (f9.mono (fun b x => by omega))).wr (Nat.le_refl _)
  have hB : x9_B g (am_wr σ8 X 4 (some (X + 88))) X := by
    refine ⟨⟨T9.1, (T9.2 (0, 1, 4, 8) (by decide)).1, (T9.2 (1, 2, 5, 4) (by decide)).1, ?_, ?_, ?_, (T9.2 (0, 1, 4, 8) (by decide)).2.1, (T9.2 (1, 2, 5, 4) (by decide)).2.1⟩, ⟨_, (hk6.fa f9 (fun b x y => by omega)).fa f10 (fun b x y => by omega)⟩, (hp6.fa f9 (fun b x y => by omega)).fa f10 (fun b x y => by omega), hl.fa f10 (fun b x y => by omega)⟩
    · rw [am_r_wr, if_neg (fun z => absurd z.2 (by decide)), e9.2.2]; exact r6
    · rw [am_r_wr, if_neg (fun z => absurd z.2 (by decide)), e9.2.2]; exact r6'
    · rw [am_r_wr, if_pos ⟨rfl, rfl⟩]
  refine x9i_66 (q1 := q1) (q2 := q2) (q3 := q3) (q4 := q4) (σ0 := σ) (lim := (X + 719, am_us σ + 6485)) (by decide) (by dsimp only; omega) (fun σ9 hB9 hS9 t9 u9 f11 => ?_) 8 0 _ rfl (by rw [am_tp_wr, t8]) (by rw [am_us_wr, u8]) hB (fun i hi => absurd hi (Nat.not_lt_zero _)) G9
  obtain ⟨⟨a1, a2, a3, a4, a5, a6, a7, a8⟩, -⟩ := id hB9
  obtain ⟨m1, m2, m3, m4⟩ := x9_al hB9 hS9 (by omega)
  have y0 : (0 : Int32) = nI 0 := rfl
  have y1 : (1 : Int32) = nI 1 := rfl
  have y2 : (2 : Int32) = nI 2 := rfl
  have y3 : (3 : Int32) = nI 3 := rfl
  have l1 := lb7_lt q1
  have l2 := lb7_lt q2
  have l3 := lb7_lt q3
  have l4 := lb7_lt q4
  simp only [ax_aload, ax_getR, ax_const, List.getElem?_cons_zero, a1, a3, true_and, Option.some.injEq, exists_eq_left']
  refine ⟨by dsimp only; omega, by dsimp only; omega, ?_⟩
  simp (disch := omega) only [ax_const, ax_iload, ax_lload, ax_aload, ax_istore, ax_astore, ax_iinc, ax_i2, ax_i2n, ax_l2, ax_lsh, ax_ii, ax_il, ax_li, ax_pop, ax_dup, ax_dup2, ax_if, ax_cmp, ax_acmp, ax_goto, ax_getI, ax_getR, ax_putI, ax_putR, ax_gets, ax_getsT, ax_aldI, ax_aldR, ax_astI, ax_astR, ax_alen, ax_ret, ax_aret, ax_vret, am_st, am_kl, List.getElem?_cons_zero, List.getElem?_cons_succ, List.set_cons_zero, List.set_cons_succ, Value.category, true_and, and_true, if_true, if_false, reduceCtorEq, Bool.false_eq_true, false_implies, forall_const, Option.some.injEq, exists_eq_left', exists_eq_left, Sum.inl.injEq, Sum.inr.injEq, Prod.mk.injEq, nI_toInt, nI_clamp, am_ix_nI, am_ix_0, am_ix_1, am_ix_2, am_ix_3, am_n0, am_n1, am_n2, am_n3, am_n4, am_t0, am_t1, am_t2, am_t3, am_t4, am_tm1, am_nS, am_nP, am_nM, Int.ofNat_lt, Int.ofNat_le, m1, m2, m3, m4, lb7_eq]
  refine ⟨l1, ?_⟩
  refine x9i_s (D1 := lbs q1 q2 q3 q4) (j := 0) (lim := (X + 719, am_us σ + 6485)) (by decide) (by decide) l1 (by dsimp only; omega) (by dsimp only; omega) hB9 hS9 (fun i hi => absurd hi (Nat.not_lt_zero _)) rfl t9 (fun σ10 hB10 hS10 hE10 t10 u10 f12 => ?_)
  obtain ⟨⟨a1, a2, a3, a4, a5, a6, a7, a8⟩, -⟩ := id hB10
  obtain ⟨m1, m2, m3, m4⟩ := x9_al hB10 hS10 (by omega)
  simp only [ax_aload, ax_getR, ax_const, List.getElem?_cons_zero, a1, a3, true_and, Option.some.injEq, exists_eq_left']
  refine ⟨by dsimp only; omega, by dsimp only; omega, ?_⟩
  simp (disch := omega) only [ax_const, ax_iload, ax_lload, ax_aload, ax_istore, ax_astore, ax_iinc, ax_i2, ax_i2n, ax_l2, ax_lsh, ax_ii, ax_il, ax_li, ax_pop, ax_dup, ax_dup2, ax_if, ax_cmp, ax_acmp, ax_goto, ax_getI, ax_getR, ax_putI, ax_putR, ax_gets, ax_getsT, ax_aldI, ax_aldR, ax_astI, ax_astR, ax_alen, ax_ret, ax_aret, ax_vret, am_st, am_kl, List.getElem?_cons_zero, List.getElem?_cons_succ, List.set_cons_zero, List.set_cons_succ, Value.category, true_and, and_true, if_true, if_false, reduceCtorEq, Bool.false_eq_true, false_implies, forall_const, Option.some.injEq, exists_eq_left', exists_eq_left, Sum.inl.injEq, Sum.inr.injEq, Prod.mk.injEq, nI_toInt, nI_clamp, am_ix_nI, am_ix_0, am_ix_1, am_ix_2, am_ix_3, am_n0, am_n1, am_n2, am_n3, am_n4, am_t0, am_t1, am_t2, am_t3, am_t4, am_tm1, am_nS, am_nP, am_nM, Int.ofNat_lt, Int.ofNat_le, m1, m2, m3, m4, lb7_eq]
  refine kX9_init_134 ?_
  simp (disch := omega) only [ax_aldR, nI_toInt, nI_clamp, am_ix_nI, am_ix_0, am_ix_1, am_ix_2, am_ix_3, am_n0, am_n1, am_n2, am_n3, am_n4, am_t0, am_t1, am_t2, am_t3, am_t4, am_tm1, am_nS, am_nP, am_nM, Int.ofNat_lt, Int.ofNat_le, m1, m2, m3, m4, lb7_eq, Option.some.injEq, Sum.inr.injEq, Prod.mk.injEq, true_and, exists_eq_left', exists_eq_left]
  refine ⟨l2, ?_⟩
  refine x9i_s (D1 := lbs q1 q2 q3 q4) (j := 1) (lim := (X + 719, am_us σ + 6485)) (by decide) (by decide) l2 (by dsimp only; omega) (by dsimp only; omega) hB10 hS10 hE10 rfl t10 (fun σ11 hB11 hS11 hE11 t11 u11 f13 => ?_)
  obtain ⟨⟨a1, a2, a3, a4, a5, a6, a7, a8⟩, -⟩ := id hB11
  obtain ⟨m1, m2, m3, m4⟩ := x9_al hB11 hS11 (by omega)
  simp only [ax_aload, ax_getR, ax_const, List.getElem?_cons_zero, a1, a3, true_and, Option.some.injEq, exists_eq_left']
  refine ⟨by dsimp only; omega, by dsimp only; omega, ?_⟩
  simp (disch := omega) only [ax_const, ax_iload, ax_lload, ax_aload, ax_istore, ax_astore, ax_iinc, ax_i2, ax_i2n, ax_l2, ax_lsh, ax_ii, ax_il, ax_li, ax_pop, ax_dup, ax_dup2, ax_if, ax_cmp, ax_acmp, ax_goto, ax_getI, ax_getR, ax_putI, ax_putR, ax_gets, ax_getsT, ax_aldI, ax_aldR, ax_astI, ax_astR, ax_alen, ax_ret, ax_aret, ax_vret, am_st, am_kl, List.getElem?_cons_zero, List.getElem?_cons_succ, List.set_cons_zero, List.set_cons_succ, Value.category, true_and, and_true, if_true, if_false, reduceCtorEq, Bool.false_eq_true, false_implies, forall_const, Option.some.injEq, exists_eq_left', exists_eq_left, Sum.inl.injEq, Sum.inr.injEq, Prod.mk.injEq, nI_toInt, nI_clamp, am_ix_nI, am_ix_0, am_ix_1, am_ix_2, am_ix_3, am_n0, am_n1, am_n2, am_n3, am_n4, am_t0, am_t1, am_t2, am_t3, am_t4, am_tm1, am_nS, am_nP, am_nM, Int.ofNat_lt, Int.ofNat_le, m1, m2, m3, m4, lb7_eq]
  refine ⟨l3, ?_⟩
  refine x9i_s (D1 := lbs q1 q2 q3 q4) (j := 2) (lim := (X + 719, am_us σ + 6485)) (by decide) (by decide) l3 (by dsimp only; omega) (by dsimp only; omega) hB11 hS11 hE11 rfl t11 (fun σ12 hB12 hS12 hE12 t12 u12 f14 => ?_)
  obtain ⟨⟨a1, a2, a3, a4, a5, a6, a7, a8⟩, -⟩ := id hB12
  obtain ⟨m1, m2, m3, m4⟩ := x9_al hB12 hS12 (by omega)
  simp only [ax_aload, ax_getR, ax_const, List.getElem?_cons_zero, a1, a3, true_and, Option.some.injEq, exists_eq_left']
  refine ⟨by dsimp only; omega, by dsimp only; omega, ?_⟩
  simp (disch := omega) only [ax_const, ax_iload, ax_lload, ax_aload, ax_istore, ax_astore, ax_iinc, ax_i2, ax_i2n, ax_l2, ax_lsh, ax_ii, ax_il, ax_li, ax_pop, ax_dup, ax_dup2, ax_if, ax_cmp, ax_acmp, ax_goto, ax_getI, ax_getR, ax_putI, ax_putR, ax_gets, ax_getsT, ax_aldI, ax_aldR, ax_astI, ax_astR, ax_alen, ax_ret, ax_aret, ax_vret, am_st, am_kl, List.getElem?_cons_zero, List.getElem?_cons_succ, List.set_cons_zero, List.set_cons_succ, Value.category, true_and, and_true, if_true, if_false, reduceCtorEq, Bool.false_eq_true, false_implies, forall_const, Option.some.injEq, exists_eq_left', exists_eq_left, Sum.inl.injEq, Sum.inr.injEq, Prod.mk.injEq, nI_toInt, nI_clamp, am_ix_nI, am_ix_0, am_ix_1, am_ix_2, am_ix_3, am_n0, am_n1, am_n2, am_n3, am_n4, am_t0, am_t1, am_t2, am_t3, am_t4, am_tm1, am_nS, am_nP, am_nM, Int.ofNat_lt, Int.ofNat_le, m1, m2, m3, m4, lb7_eq]
  refine kX9_init_174 ?_
  simp (disch := omega) only [ax_const, ax_iload, ax_lload, ax_aload, ax_istore, ax_astore, ax_iinc, ax_i2, ax_i2n, ax_l2, ax_lsh, ax_ii, ax_il, ax_li, ax_pop, ax_dup, ax_dup2, ax_if, ax_cmp, ax_acmp, ax_goto, ax_getI, ax_getR, ax_putI, ax_putR, ax_gets, ax_getsT, ax_aldI, ax_aldR, ax_astI, ax_astR, ax_alen, ax_ret, ax_aret, ax_vret, am_st, am_kl, List.getElem?_cons_zero, List.getElem?_cons_succ, List.set_cons_zero, List.set_cons_succ, Value.category, true_and, and_true, if_true, if_false, reduceCtorEq, Bool.false_eq_true, false_implies, forall_const, Option.some.injEq, exists_eq_left', exists_eq_left, Sum.inl.injEq, Sum.inr.injEq, Prod.mk.injEq, nI_toInt, nI_clamp, am_ix_nI, am_ix_0, am_ix_1, am_ix_2, am_ix_3, am_n0, am_n1, am_n2, am_n3, am_n4, am_t0, am_t1, am_t2, am_t3, am_t4, am_tm1, am_nS, am_nP, am_nM, Int.ofNat_lt, Int.ofNat_le, m1, m2, m3, m4, lb7_eq]
  refine ⟨l4, ?_⟩
  refine x9i_s (D1 := lbs q1 q2 q3 q4) (j := 3) (lim := (X + 719, am_us σ + 6485)) (by decide) (by decide) l4 (by dsimp only; omega) (by dsimp only; omega) hB12 hS12 hE12 rfl t12 (fun σ13 hB13 hS13 hE13 t13 u13 f15 => ?_)
  have G := (((f11.tr f12).tr f13).tr f14).tr f15
  exact ⟨rfl, t13, by dsimp only; omega, hQ σ13 hB13 hS13 hE13 G⟩
theorem x9_S.fa {P : Nat → Prop} {σ σ' : am_S} {X : Nat} (h : x9_S σ X 8) (hf : am_fa P σ σ') (hd : ∀ b, P b → X + 719 ≤ b) : x9_S σ' X 8 := fun i hi => by
  obtain ⟨k1, k2⟩ := h i hi
  have n : ∀ b, b < X + 719 → ¬ P b := fun b hb z => by have := hd b z; omega
  refine ⟨by rw [(hf (X + 1) (n _ (by omega))).2.2]; exact k1, ?_⟩
  unfold xx_st at k2 ⊢
  exact k2.fa hf (fun b x y => n b (by omega))
theorem x9_E.fa {P : Nat → Prop} {σ σ' : am_S} {X : Nat} {D1 : Nat → Nat} (h : x9_E σ X 4 D1) (hf : am_fa P σ σ') (hd : ∀ b, P b → X + 719 ≤ b) : x9_E σ' X 4 D1 := fun i hi => by
  obtain ⟨k1, k2, k3⟩ := h i hi
  have n : ∀ b, b < X + 719 → ¬ P b := fun b hb z => by have := hd b z; omega
  refine ⟨by rw [(hf (X + 2) (n _ (by omega))).2.2]; exact k1, k2, ?_⟩
  unfold xx_se at k3 ⊢
  exact k3.fa hf (fun b x y => n b (by omega))
