/-! the statement's fields, the kinds and the steps of its codes, where the reading is -/
abbrev xp_W : Type := (Nat → Int32) × (Nat → Nat) × (Nat → List (Nat × Int32)) × xp_M
def xp_Z (g : am_G) (σ : am_S) (pa : Nat) (ts : List (Nat × Int32)) (W : xp_W) (v : Nat) : Prop :=
  xp_J g σ pa ts W.2.1 W.2.2.1 9 W.2.2.2 ∧ (∀ i, 1 ≤ i → i < 7 → am_i σ (pa + 1) i = W.1 i) ∧ am_r σ (pa + 1) 0 = some (am_tk g v)
def xp_sf (i : Nat) (x : Int32) (W : xp_W) : xp_W := (fun q => if q = i then x else W.1 q, W.2)
def xp_om (f : xp_M → xp_M) (W : xp_W) : xp_W := (W.1, W.2.1, W.2.2.1, f W.2.2.2)
def xp_oc (j kd : Nat) (m : xp_M) (W : xp_W) : xp_W := (W.1, fun q => if q = j then kd else W.2.1 q, fun q => if q = j then m.2.2.1 else W.2.2.1 q, (m.1, m.2.1, [], m.2.2.2))
def xp_cin (j : Nat) (W : xp_W) : xp_M := (W.2.2.2.1, W.2.2.2.2.1, W.2.2.1 j, W.2.2.2.2.2.2)
def xp_fr (pa : Nat) (σ σ' : am_S) : Prop := am_fm (fun b => pa ≤ b ∧ b < pa + 35) σ σ'
theorem xp_fr.pa {pa : Nat} {σ σ' : am_S} (h : am_fm (fun b => b = pa) σ σ') : xp_fr pa σ σ' := h.mono (fun b x => ⟨by omega, by omega⟩)
theorem xp_fr.q {pa j : Nat} {σ σ' : am_S} (hj : j < 6) (h : am_fm (xp_Q pa j) σ σ') : xp_fr pa σ σ' := h.mono (fun b x => by
  have hca := xs_ca_in (pa + 1) j hj
  unfold xp_Q at x
  omega)
theorem xp_Z.into {g : am_G} {σ : am_S} {pa v : Nat} {ts : List (Nat × Int32)} {W : xp_W} (h : xp_Z g σ pa ts W v) (j : Nat) : xp_J g σ pa ts W.2.1 W.2.2.1 j (xp_cin j W) :=
  h.1.extk (fun _ _ => rfl) (fun q hq => by
    rw [if_neg (by omega)]
    by_cases e : q = j
    · rw [if_pos e, e]; rfl
    · rw [if_neg e]) rfl rfl rfl
theorem xp_Z.out {g : am_G} {σ σ' : am_S} {pa v j kd : Nat} {ts : List (Nat × Int32)} {W : xp_W} {m : xp_M} {k' : Nat → Nat} {ss : Nat → List (Nat × Int32)} (h : xp_Z g σ pa ts W v) (hj : j < 6) (hJ : xp_J g σ' pa ts k' ss j m) (hk : ∀ q, q < 6 → k' q = if q = j then kd else W.2.1 q) (hs : ∀ q, q < 6 → q ≠ j → ss q = W.2.2.1 q) (hf : am_fm (xp_Q pa j) σ σ') : xp_Z g σ' pa ts (xp_oc j kd m W) v := by
  have hca := xs_ca_in (pa + 1) j hj
  have hn : ¬ xp_Q pa j (pa + 1) := by unfold xp_Q; omega
  refine ⟨hJ.extk hk (fun q hq => ?_) rfl rfl rfl, fun i h1 h2 => ?_, ?_⟩
  · show _ = if q = 9 then [] else (if q = j then m.2.2.1 else W.2.2.1 q)
    rw [if_neg (show ¬ q = 9 by omega)]
    by_cases e : q = j
    · rw [if_pos e, if_pos e]
    · rw [if_neg e, if_neg e, hs q hq e]
  · rw [(hf.2.2.2 _ hn).1]
    exact h.2.1 i h1 h2
  · rw [(hf.2.2.2 _ hn).2]
    exact h.2.2
theorem xp_Z.om {g : am_G} {σ σ' : am_S} {pa v : Nat} {ts : List (Nat × Int32)} {W : xp_W} {f : xp_M → xp_M} (h : xp_Z g σ pa ts W v) (hJ : xp_J g σ' pa ts W.2.1 W.2.2.1 9 (f W.2.2.2)) (hf : am_fm (fun b => b = pa) σ σ') : xp_Z g σ' pa ts (xp_om f W) v := by
  refine ⟨hJ, fun i h1 h2 => ?_, ?_⟩
  · rw [(hf.2.2.2 (pa + 1) (by omega)).1]
    exact h.2.1 i h1 h2
  · rw [(hf.2.2.2 (pa + 1) (by omega)).2]
    exact h.2.2
theorem xp_Z.sf {g : am_G} {σ : am_S} {pa v i : Nat} {x : Int32} {ts : List (Nat × Int32)} {W : xp_W} (h : xp_Z g σ pa ts W v) : xp_Z g (am_wi σ (pa + 1) i x) pa ts (xp_sf i x W) v := by
  have hf : am_fm (fun b => b = pa + 1) σ (am_wi σ (pa + 1) i x) := am_fm.rf.wi rfl
  obtain ⟨⟨g1, g2, g3, g4, g5, g6, g7, g8, g9, g10, g11, g12, g13⟩, h2, h3⟩ := h
  refine ⟨⟨g1.fm hf (fun b x => by omega), g2, g3, g4, g5, g6.fm hf (by omega) (by omega), by rw [am_i_wi, if_neg (by omega)]; exact g7, by rw [am_i_wi, if_neg (by omega)]; exact g8, g9, g10.fm hf (fun b x y z => by omega), fun t ht => by rw [am_i_wi, if_neg (by omega)]; exact g11 t ht, g12, g13⟩, fun q q1 q2 => ?_, h3⟩
  show am_i (am_wi σ (pa + 1) i x) (pa + 1) q = if q = i then x else W.1 q
  rw [am_i_wi]
  by_cases e : q = i
  · rw [if_pos ⟨rfl, e⟩, if_pos e]
  · rw [if_neg (fun z => e z.2), if_neg e]
    exact h2 q q1 q2
/-! the calls -/
theorem z_need {g : am_G} {l : Launch} {σ : am_S} {pa v t d : Nat} {lim : Nat × Nat} {ts : List (Nat × Int32)} {W : xp_W} {K : am_K} {L : List (Option Value)} {rest : List Value} (h : xp_Z g σ pa ts W v) (ht : t < 36) (hd : 0 < d) (h1 : am_tp σ = lim.1) (h2 : am_us σ = lim.2) (hc : (rest.map fun v => v.category).sum ≤ 8)
    (hK : ∀ σ', xp_Z g σ' pa ts (xp_om (xp_need ts t) W) v → xp_fr pa σ σ' → am_tp σ' = lim.1 → am_us σ' = lim.2 → K L rest σ') : ax_call g l d lim mX1_need (some 1) 2 K L (.ref (am_tk g t) :: .ref pa :: rest) σ := by
  refine am_callK [.ref pa, .ref (am_tk g t)] rest (d' := 0) (lim' := (am_tp σ, am_us σ)) rfl hd (by rw [h1]; exact Nat.le_refl _) (by rw [h2]; exact Nat.le_refl _) rfl hc (am_recv h.1.2.1) ?_
  refine c_pneed h.1 ht (fun σ' hJ hf t1 u1 => ?_)
  exact hK σ' (h.om hJ hf) (.pa hf) (t1.trans h1) (u1.trans h2)
theorem z_take {g : am_G} {l : Launch} {σ : am_S} {pa v t d : Nat} {lim : Nat × Nat} {ts : List (Nat × Int32)} {W : xp_W} {K : am_K} {L : List (Option Value)} {rest : List Value} (h : xp_Z g σ pa ts W v) (ht : t < 36) (hd : 0 < d) (h1 : am_tp σ = lim.1) (h2 : am_us σ = lim.2) (hc : (rest.map fun v => v.category).sum ≤ 8)
    (hK1 : xp_hd ts W.2.2.2.1 = t → ∀ σ', xp_Z g σ' pa ts (xp_om xp_adv W) v → xp_fr pa σ σ' → am_tp σ' = lim.1 → am_us σ' = lim.2 → K L (.int 1 :: rest) σ') (hK0 : xp_hd ts W.2.2.2.1 ≠ t → K L (.int 0 :: rest) σ) : ax_call g l d lim mX1_take (some 1) 2 K L (.ref (am_tk g t) :: .ref pa :: rest) σ := by
  refine am_callK [.ref pa, .ref (am_tk g t)] rest (d' := 0) (lim' := (am_tp σ, am_us σ)) rfl hd (by rw [h1]; exact Nat.le_refl _) (by rw [h2]; exact Nat.le_refl _) rfl hc (am_recv h.1.2.1) ?_
  refine c_ptake h.1 ht (fun q σ' hJ hf t1 u1 => ?_) (fun q _ _ => hK0 q)
  exact hK1 q σ' (h.om hJ hf) (.pa hf) (t1.trans h1) (u1.trans h2)
theorem z_table {g : am_G} {l : Launch} {σ : am_S} {pa v d : Nat} {lim : Nat × Nat} {ts : List (Nat × Int32)} {W : xp_W} {K : am_K} {L : List (Option Value)} {rest : List Value} (h : xp_Z g σ pa ts W v) (hd : 1 < d) (h1 : am_tp σ = lim.1) (h2 : am_us σ = lim.2) (hc : (rest.map fun v => v.category).sum ≤ 8)
    (hK : ∀ σ', xp_Z g σ' pa ts (xp_om (fun m => (xp_tbl ts m).2) W) v → xp_fr pa σ σ' → am_tp σ' = lim.1 → am_us σ' = lim.2 → K L (.int (nI (xp_tbl ts W.2.2.2).1) :: rest) σ') : ax_call g l d lim mX1_readTable (some 1) 1 K L (.ref pa :: rest) σ := by
  refine am_callK [.ref pa] rest (d' := 1) (lim' := (am_tp σ, am_us σ)) rfl hd (by rw [h1]; exact Nat.le_refl _) (by rw [h2]; exact Nat.le_refl _) rfl hc (am_recv h.1.2.1) ?_
  refine c_ptable h.1 (fun σ' hJ hf t1 u1 => ?_)
  exact hK σ' (h.om (f := fun m => (xp_tbl ts m).2) hJ hf) (.pa hf) (t1.trans h1) (u1.trans h2)
def xp_oE (ts : List (Nat × Int32)) (j : Nat) (W : xp_W) : xp_W := xp_oc j (W.2.1 j) (xp_E ts 6 (xp_cin j W)) W
def xp_oX (ts : List (Nat × Int32)) (j : Nat) (W : xp_W) : xp_W := xp_oc j (xp_Xm ts (xp_cin j W)).1 (xp_Xm ts (xp_cin j W)).2 W
theorem xp_iteS {k : Nat → Nat} {q j : Nat} : k q = if q = j then k j else k q := by
  by_cases e : q = j
  · rw [if_pos e, e]
  · rw [if_neg e]
theorem z_E {g : am_G} {l : Launch} {σ : am_S} {pa v j d : Nat} {lim : Nat × Nat} {ts : List (Nat × Int32)} {W : xp_W} {K : am_K} {L : List (Option Value)} (h : xp_Z g σ pa ts W v) (hj : j < 6) (hl : (W.2.2.1 j).length + 2 ≤ 2 * W.2.2.2.1) (hd : 23 < d) (h1 : am_tp σ = lim.1) (h2 : am_us σ = lim.2)
    (hK : ∀ σ', xp_Z g σ' pa ts (xp_oE ts j W) v → xp_fr pa σ σ' → am_tp σ' = lim.1 → am_us σ' = lim.2 → K L [] σ') : ax_call g l d lim mX1_readE (some 1) 3 K L [.int 0, .ref (xs_ca (pa + 1) j), .ref pa] σ := by
  refine am_callK [.ref pa, .ref (xs_ca (pa + 1) j), .int (nI (6 - 6))] [] (d' := 5 + 3 * 6) (lim' := (am_tp σ, am_us σ)) rfl hd (by rw [h1]; exact Nat.le_refl _) (by rw [h2]; exact Nat.le_refl _) rfl (by decide) (am_recv h.1.2.1) ?_
  refine (xp_Fall hj 6 (by decide)).2 σ _ _ _ _ (h.into j) hl (fun σ' hJ hf t1 u1 => ?_)
  exact hK σ' (h.out hj hJ (fun q hq => xp_iteS) (fun q _ _ => rfl) hf) (.q hj hf) (t1.trans h1) (u1.trans h2)
theorem z_X {g : am_G} {l : Launch} {σ : am_S} {pa v j d : Nat} {lim : Nat × Nat} {ts : List (Nat × Int32)} {W : xp_W} {K : am_K} {L : List (Option Value)} (h : xp_Z g σ pa ts W v) (hj : j < 6) (hl : (W.2.2.1 j).length + 2 ≤ 2 * W.2.2.2.1) (hd : 24 < d) (h1 : am_tp σ = lim.1) (h2 : am_us σ = lim.2)
    (hK : ∀ σ', xp_Z g σ' pa ts (xp_oX ts j W) v → xp_fr pa σ σ' → am_tp σ' = lim.1 → am_us σ' = lim.2 → K L [] σ') : ax_call g l d lim mX1_readX (some 1) 2 K L [.ref (xs_ca (pa + 1) j), .ref pa] σ := by
  refine am_callK [.ref pa, .ref (xs_ca (pa + 1) j)] [] (d' := 24) (lim' := (am_tp σ, am_us σ)) rfl hd (by rw [h1]; exact Nat.le_refl _) (by rw [h2]; exact Nat.le_refl _) rfl (by decide) (am_recv h.1.2.1) ?_
  refine c_pX hj (h.into j) hl (fun σ' hJ hf t1 u1 => ?_)
  exact hK σ' (h.out hj hJ (fun q hq => rfl) (fun q _ _ => rfl) hf) (.q hj hf) (t1.trans h1) (u1.trans h2)
/-! where -/
def xp_oW (ts : List (Nat × Int32)) (W : xp_W) : xp_W := if xp_hd ts W.2.2.2.1 = 6 then xp_oc 3 1 (xp_C ts 6 (xp_cin 3 (xp_om xp_adv W))) (xp_om xp_adv W) else W
theorem c_pwhere {g : am_G} {l : Launch} {σ : am_S} {pa v : Nat} {ts : List (Nat × Int32)} {W : xp_W} {Q : Option Value → am_S → Prop} (h : xp_Z g σ pa ts W v) (hl : W.2.2.1 3 = [])
    (hQ : ∀ σ', xp_Z g σ' pa ts (xp_oW ts W) v → xp_fr pa σ σ' → Q none σ') : am_C g l mX1_readWhere 27 (am_tp σ, am_us σ) [.ref pa] σ Q := by
  have o1 : ¬ (1 : Int32) = 0 := by decide
  unfold xp_oW at hQ
  refine am_C.go [some (.ref pa)] (by decide +kernel) (Nat.le_of_ble_eq_true rfl) rfl (kX1_readWhere_0 ?_)
  simp (disch := omega) only [ax_const, ax_iload, ax_lload, ax_aload, ax_istore, ax_astore, ax_iinc, ax_i2, ax_i2n, ax_l2, ax_lsh, ax_ii, ax_il, ax_li, ax_pop, ax_dup, ax_dup2, ax_if, ax_cmp, ax_acmp, ax_goto, ax_getI, ax_getR, ax_putI, ax_putR, ax_gets, ax_getsT, ax_aldI, ax_aldR, ax_astI, ax_astR, ax_alen, ax_ret, ax_aret, ax_vret, am_st, am_kl, List.getElem?_cons_zero, List.getElem?_cons_succ, List.set_cons_zero, List.set_cons_succ, Value.category, true_and, and_true, if_true, if_false, reduceCtorEq, Bool.false_eq_true, false_implies, forall_const, Option.some.injEq, exists_eq_left', exists_eq_left, Sum.inl.injEq, Sum.inr.injEq, Prod.mk.injEq, nI_toInt, nI_clamp, am_ix_nI, am_ix_0, am_ix_1, am_ix_2, am_ix_3, am_n0, am_n1, am_n2, am_n3, am_n4, am_t0, am_t1, am_t2, am_t3, am_t4, am_tm1, am_nS, am_nP, am_nM, Int.ofNat_lt, Int.ofNat_le]
  refine z_take h (by decide) (by decide) rfl rfl (by decide) (fun q σ1 h1 f1 t1 u1 => ?_) (fun q => ?_)
  · rw [if_pos q] at hQ
    have e3 : xs_ca (pa + 1) 3 = pa + 1 + 2 := rfl
    obtain ⟨g1, g2, g3, g4, g5, g6, g7, g8, g9, g10, g11, g12, g13⟩ := id h1.1
    have hcs := ((h1.into 3).code (by decide)).1
    rw [e3] at hcs
    simp (disch := omega) only [ax_const, ax_iload, ax_lload, ax_aload, ax_istore, ax_astore, ax_iinc, ax_i2, ax_i2n, ax_l2, ax_lsh, ax_ii, ax_il, ax_li, ax_pop, ax_dup, ax_dup2, ax_if, ax_cmp, ax_acmp, ax_goto, ax_getI, ax_getR, ax_putI, ax_putR, ax_gets, ax_getsT, ax_aldI, ax_aldR, ax_astI, ax_astR, ax_alen, ax_ret, ax_aret, ax_vret, am_st, am_kl, List.getElem?_cons_zero, List.getElem?_cons_succ, List.set_cons_zero, List.set_cons_succ, Value.category, true_and, and_true, if_true, if_false, reduceCtorEq, Bool.false_eq_true, false_implies, forall_const, Option.some.injEq, exists_eq_left', exists_eq_left, Sum.inl.injEq, Sum.inr.injEq, Prod.mk.injEq, nI_toInt, nI_clamp, am_ix_nI, am_ix_0, am_ix_1, am_ix_2, am_ix_3, am_n0, am_n1, am_n2, am_n3, am_n4, am_t0, am_t1, am_t2, am_t3, am_t4, am_tm1, am_nS, am_nP, am_nM, Int.ofNat_lt, Int.ofNat_le, Option.toList_some, Option.toList_none, List.cons_append, List.nil_append, List.append_nil, am_sh_wi, am_sh_wr, am_r_wi, am_i_wr, am_tp_wi, am_tp_wr, am_us_wi, am_us_wr, am_i_wi, am_r_wr, o1, g2, g3, g9.1, g9.2.2.1, hcs]
    intro _
    have h2 := (h1.into 3).kind (j := 3) (kd := 1) (by decide) (by decide)
    have hf2 : am_fm (xp_Q pa 3) σ1 (am_wi σ1 (pa + 1 + 2) 0 1) := am_fm.rf.wi (Or.inr (Or.inr ⟨by omega, by omega⟩))
    refine am_callK [.ref pa, .ref (xs_ca (pa + 1) 3), .int (nI (6 - 6))] [] (d' := 8 + 3 * 6) (lim' := (am_tp σ1, am_us σ1)) rfl (by decide) (by rw [t1]; exact Nat.le_refl _) (by rw [u1]; exact Nat.le_refl _) rfl (by decide) (am_recv h2.2.1) ?_
    refine (xp_Nall (by decide) 6 (by decide)).2 _ _ _ _ _ h2 ?_ (fun σ' hJ hf t2 u2 => ?_)
    · show (W.2.2.1 3).length + 2 ≤ 2 * (W.2.2.2.1 + 1)
      rw [hl]
      show 0 + 2 ≤ 2 * (W.2.2.2.1 + 1)
      omega
    · simp (disch := omega) only [ax_const, ax_iload, ax_lload, ax_aload, ax_istore, ax_astore, ax_iinc, ax_i2, ax_i2n, ax_l2, ax_lsh, ax_ii, ax_il, ax_li, ax_pop, ax_dup, ax_dup2, ax_if, ax_cmp, ax_acmp, ax_goto, ax_getI, ax_getR, ax_putI, ax_putR, ax_gets, ax_getsT, ax_aldI, ax_aldR, ax_astI, ax_astR, ax_alen, ax_ret, ax_aret, ax_vret, am_st, am_kl, List.getElem?_cons_zero, List.getElem?_cons_succ, List.set_cons_zero, List.set_cons_succ, Value.category, true_and, and_true, if_true, if_false, reduceCtorEq, Bool.false_eq_true, false_implies, forall_const, Option.some.injEq, exists_eq_left', exists_eq_left, Sum.inl.injEq, Sum.inr.injEq, Prod.mk.injEq, nI_toInt, nI_clamp, am_ix_nI, am_ix_0, am_ix_1, am_ix_2, am_ix_3, am_n0, am_n1, am_n2, am_n3, am_n4, am_t0, am_t1, am_t2, am_t3, am_t4, am_tm1, am_nS, am_nP, am_nM, Int.ofNat_lt, Int.ofNat_le, Option.toList_some, Option.toList_none, List.cons_append, List.nil_append, List.append_nil]
      exact ⟨t2.trans t1, u2.trans u1, hQ σ' (h1.out (by decide) hJ (fun q hq => rfl) (fun q _ _ => rfl) (hf2.tr hf)) (f1.tr (xp_fr.q (j := 3) (by decide) (hf2.tr hf)))⟩
  · rw [if_neg q] at hQ
    simp (disch := omega) only [ax_const, ax_iload, ax_lload, ax_aload, ax_istore, ax_astore, ax_iinc, ax_i2, ax_i2n, ax_l2, ax_lsh, ax_ii, ax_il, ax_li, ax_pop, ax_dup, ax_dup2, ax_if, ax_cmp, ax_acmp, ax_goto, ax_getI, ax_getR, ax_putI, ax_putR, ax_gets, ax_getsT, ax_aldI, ax_aldR, ax_astI, ax_astR, ax_alen, ax_ret, ax_aret, ax_vret, am_st, am_kl, List.getElem?_cons_zero, List.getElem?_cons_succ, List.set_cons_zero, List.set_cons_succ, Value.category, true_and, and_true, if_true, if_false, reduceCtorEq, Bool.false_eq_true, false_implies, forall_const, Option.some.injEq, exists_eq_left', exists_eq_left, Sum.inl.injEq, Sum.inr.injEq, Prod.mk.injEq, nI_toInt, nI_clamp, am_ix_nI, am_ix_0, am_ix_1, am_ix_2, am_ix_3, am_n0, am_n1, am_n2, am_n3, am_n4, am_t0, am_t1, am_t2, am_t3, am_t4, am_tm1, am_nS, am_nP, am_nM, Int.ofNat_lt, Int.ofNat_le, Option.toList_some, Option.toList_none, List.cons_append, List.nil_append, List.append_nil]
    exact ⟨hQ σ h .rf, fun z => absurd trivial z⟩
