/-! pointFound, valueFor -/
def xl_ok (two : Bool) (L1 L2 : List xr_E) (FL : List (Nat × Nat)) : Prop := ∀ (q i j : Nat), FL[q]? = some (i, j) → i < L1.length ∧ (two = true → j < L2.length) ∧ j < 2 ^ 31
theorem c_lpfound {g : am_G} {l : Launch} {σ : am_S} {e S f s q i j : Nat} {k : Nat → Nat} {ss : Nat → List (Nat × Int32)} {two top : Bool} {L1 L2 : List xr_E} {FL : List (Nat × Nat)} {Q : Option Value → am_S → Prop} (h : xl_J g σ e S k ss f s two top L1 L2) (hFL : xl_FL σ e FL) (hok : xl_ok two L1 L2 FL) (hq : FL[q]? = some (i, j))
    (hQ : ∀ σ', xl_J g σ' e S k ss f s two top L1 L2 → xl_en two f s (xs_ev σ' S) (L1.getD i xr_0) (L2.getD j xr_0) → am_fm (fun b => b = S + 15) σ σ' → Q none σ') : am_C g l mX4_pointFound 2 (am_tp σ, am_us σ) [.ref e, .int (nI q)] σ Q := by
  obtain ⟨y1, y2, y3, y4, y5, y6, y7, y8, y9, y10, y11⟩ := h.2.1
  obtain ⟨f1, f2, f3⟩ := hFL
  obtain ⟨o1, o2, o3⟩ := hok q i j hq
  obtain ⟨v1, v2⟩ := f3 q i j hq
  have hql := (List.getElem?_eq_some_iff.mp hq).1
  have w0 := y11 0 (by decide)
  have w1 := y11 1 (by decide)
  rw [Nat.add_zero] at w0
  have w1 : am_sh σ (e + 102) = some (.inr (0, 40)) := w1
  refine am_C.go [some (.ref e), some (.int (nI q))] (by decide +kernel) (Nat.le_of_ble_eq_true rfl) rfl (kX4_pointFound_0 ?_)
  simp (disch := omega) only [ax_const, ax_iload, ax_lload, ax_aload, ax_istore, ax_astore, ax_iinc, ax_i2, ax_i2n, ax_l2, ax_lsh, ax_ii, ax_il, ax_li, ax_pop, ax_dup, ax_dup2, ax_if, ax_cmp, ax_acmp, ax_goto, ax_getI, ax_getR, ax_putI, ax_putR, ax_gets, ax_getsT, ax_aldI, ax_aldR, ax_astI, ax_astR, ax_alen, ax_ret, ax_aret, ax_vret, am_st, am_kl, List.getElem?_cons_zero, List.getElem?_cons_succ, List.set_cons_zero, List.set_cons_succ, Value.category, true_and, and_true, if_true, if_false, reduceCtorEq, Bool.false_eq_true, false_implies, forall_const, Option.some.injEq, exists_eq_left', exists_eq_left, Sum.inl.injEq, Sum.inr.injEq, Prod.mk.injEq, nI_toInt, nI_clamp, am_ix_nI, am_ix_0, am_ix_1, am_ix_2, am_ix_3, am_n0, am_n1, am_n2, am_n3, am_n4, am_t0, am_t1, am_t2, am_t3, am_t4, am_tm1, am_nS, am_nP, am_nM, Int.ofNat_lt, Int.ofNat_le, y1, y5, y6, w0, w1, v1, v2]
  refine ⟨by omega, by omega, ?_⟩
  refine am_callK [.ref e, .int (nI i), .int (nI j)] [] (d' := 1) (lim' := (am_tp σ, am_us σ)) rfl (by decide) (Nat.le_refl _) (Nat.le_refl _) rfl (Nat.le_of_ble_eq_true rfl) (am_recv y1) ?_
  refine c_lpoint h (xl_get o1) (fun z => xl_get (o2 z)) o3 (fun σ1 hJ hen hf t1 u1 => ?_)
  simp (disch := omega) only [ax_const, ax_iload, ax_lload, ax_aload, ax_istore, ax_astore, ax_iinc, ax_i2, ax_i2n, ax_l2, ax_lsh, ax_ii, ax_il, ax_li, ax_pop, ax_dup, ax_dup2, ax_if, ax_cmp, ax_acmp, ax_goto, ax_getI, ax_getR, ax_putI, ax_putR, ax_gets, ax_getsT, ax_aldI, ax_aldR, ax_astI, ax_astR, ax_alen, ax_ret, ax_aret, ax_vret, am_st, am_kl, List.getElem?_cons_zero, List.getElem?_cons_succ, List.set_cons_zero, List.set_cons_succ, Value.category, true_and, and_true, if_true, if_false, reduceCtorEq, Bool.false_eq_true, false_implies, forall_const, Option.some.injEq, exists_eq_left', exists_eq_left, Sum.inl.injEq, Sum.inr.injEq, Prod.mk.injEq, nI_toInt, nI_clamp, am_ix_nI, am_ix_0, am_ix_1, am_ix_2, am_ix_3, am_n0, am_n1, am_n2, am_n3, am_n4, am_t0, am_t1, am_t2, am_t3, am_t4, am_tm1, am_nS, am_nP, am_nM, Int.ofNat_lt, Int.ofNat_le, Option.toList_some, Option.toList_none, List.cons_append, List.nil_append, List.append_nil]
  exact ⟨t1, u1, hQ σ1 hJ hen hf⟩
/-- what code j gives -/
def xl_V (c : Nat) (val : xr_E → xr_E → Int32) (f s : Nat) (two : Bool) (ss : Nat → List (Nat × Int32)) (L1 L2 : List xr_E) : Prop :=
  ∀ (i j : Nat), i < L1.length → (two = true → j < L2.length) → ∀ env, xl_en two f s env (L1.getD i xr_0) (L2.getD j xr_0) → xk_run env (ss c) [] = some [val (L1.getD i xr_0) (L2.getD j xr_0)]
def xl_at (val : xr_E → xr_E → Int32) (L1 L2 : List xr_E) (FL : List (Nat × Nat)) (q : Nat) : Int32 := val (L1.getD (FL.getD q (0, 0)).1 xr_0) (L2.getD (FL.getD q (0, 0)).2 xr_0)
theorem xl_Jwork {g : am_G} {σ σ' : am_S} {e S f s c : Nat} {k : Nat → Nat} {ss : Nat → List (Nat × Int32)} {two top : Bool} {L1 L2 : List xr_E} (h : xl_J g σ e S k ss f s two top L1 L2) (hc : c < 6) (hf : am_fm (fun b => b = xs_ca S c + 3) σ σ') : xl_J g σ' e S k ss f s two top L1 L2 := by
  have hca := xs_ca_in S c hc
  have hse := h.2.2.2.2.2.2.2.2.2.2.2.2.2
  exact h.up (hf.mono (fun b x => Or.inl (by omega))) (h.2.2.2.2.1.fm hf (by omega) (by omega) (by omega)) (hf.2.2.2 e (by omega)).2
def xl_vf (kd : Nat) (v : Nat → Int32) (gp : Nat) : List Nat → Nat → Int32 → Int32
  | [], _, t => t
  | x :: r, i, t => if x = gp then (if kd = 1 then v i else xl_vf kd v gp r (i + 1) (t + (if kd = 2 then 1 else v i))) else xl_vf kd v gp r (i + 1) t
/-- the groups of the found ones -/
def xl_GO (σ : am_S) (e : Nat) (GO : List Nat) : Prop := ∀ (q x : Nat), GO[q]? = some x → x < 64 ∧ am_i σ (e + 103) q = nI x
theorem xl_vf_loop {g : am_G} {l : Launch} {e S f s c gp d tp us : Nat} {k : Nat → Nat} {ss : Nat → List (Nat × Int32)} {two top : Bool} {L1 L2 : List xr_E} {FL : List (Nat × Nat)} {GO : List Nat} {val : xr_E → xr_E → Int32} {R : Int32} {Q : Option Value → am_S → Prop} {σ0 : am_S} (hd : 3 ≤ d) (hc : c < 6) (hgp : gp < 64) (hV : k c ≠ 2 → xl_V c val f s two ss L1 L2) (hok : xl_ok two L1 L2 FL) (hlen : GO.length = FL.length)
    (hQ : ∀ σ', xl_J g σ' e S k ss f s two top L1 L2 → am_fm (fun b => b = S + 15 ∨ b = xs_ca S c + 3) σ0 σ' → Q (some (.int R)) σ') :
    ∀ (T pre : List Nat) (t : Int32) (σ : am_S), GO = pre ++ T → xl_vf (k c) (xl_at val L1 L2 FL) gp T pre.length t = R → xl_J g σ e S k ss f s two top L1 L2 → xl_FL σ e FL → xl_GO σ e GO → am_fm (fun b => b = S + 15 ∨ b = xs_ca S c + 3) σ0 σ → am_tp σ = tp → am_us σ = us →
      am_W g l mX4_valueFor d (tp, us) Q 5 [some (.ref e), some (.ref (xs_ca S c)), some (.int (nI gp)), some (.int t), some (.int (nI pre.length))] [] σ := by
  have hca := xs_ca_in S c hc
  intro T
  induction T with
  | nil =>
    intro pre t σ hT hR hJ hFL hGO hf h1 h2
    have hl : GO.length = pre.length := by rw [hT]; simp
    have h40 := hFL.2.1
    obtain ⟨y1, y2, y3, y4, y5, y6, y7, y8, y9, y10, y11⟩ := hJ.2.1
    have hR : t = R := hR
    refine kX4_valueFor_5 ?_
    simp (disch := omega) only [ax_const, ax_iload, ax_lload, ax_aload, ax_istore, ax_astore, ax_iinc, ax_i2, ax_i2n, ax_l2, ax_lsh, ax_ii, ax_il, ax_li, ax_pop, ax_dup, ax_dup2, ax_if, ax_cmp, ax_acmp, ax_goto, ax_getI, ax_getR, ax_putI, ax_putR, ax_gets, ax_getsT, ax_aldI, ax_aldR, ax_astI, ax_astR, ax_alen, ax_ret, ax_aret, ax_vret, am_st, am_kl, List.getElem?_cons_zero, List.getElem?_cons_succ, List.set_cons_zero, List.set_cons_succ, Value.category, true_and, and_true, if_true, if_false, reduceCtorEq, Bool.false_eq_true, false_implies, forall_const, Option.some.injEq, exists_eq_left', exists_eq_left, Sum.inl.injEq, Sum.inr.injEq, Prod.mk.injEq, nI_toInt, nI_clamp, am_ix_nI, am_ix_0, am_ix_1, am_ix_2, am_ix_3, am_n0, am_n1, am_n2, am_n3, am_n4, am_t0, am_t1, am_t2, am_t3, am_t4, am_tm1, am_nS, am_nP, am_nM, Int.ofNat_lt, Int.ofNat_le, y1, hFL.1]
    rw [hR]
    exact ⟨fun z => by omega, fun _ => ⟨h1, h2, hQ σ hJ hf⟩⟩
  | cons x T ih =>
    intro pre t σ hT hR hJ hFL hGO hf h1 h2
    have hl : GO.length = pre.length + (T.length + 1) := by rw [hT]; simp
    have h40 := hFL.2.1
    have hse := hJ.2.2.2.2.2.2.2.2.2.2.2.2.2
    have hB := hJ.2.2.2.2.2.2.2.2.2.2.2.2.1
    obtain ⟨y1, y2, y3, y4, y5, y6, y7, y8, y9, y10, y11⟩ := hJ.2.1
    have w2 : am_sh σ (e + 103) = some (.inr (0, 40)) := y11 2 (by decide)
    obtain ⟨x1, x2⟩ := hGO pre.length x (by rw [hT]; simp)
    have ex : nI x = nI gp ↔ x = gp := nI_inj (by omega) (by omega)
    rw [xl_vf] at hR
    have ihn : ∀ (t : Int32) (σ : am_S), xl_vf (k c) (xl_at val L1 L2 FL) gp T (pre.length + 1) t = R → xl_J g σ e S k ss f s two top L1 L2 → xl_FL σ e FL → xl_GO σ e GO → am_fm (fun b => b = S + 15 ∨ b = xs_ca S c + 3) σ0 σ → am_tp σ = tp → am_us σ = us →
      am_W g l mX4_valueFor d (tp, us) Q 5 [some (.ref e), some (.ref (xs_ca S c)), some (.int (nI gp)), some (.int t), some (.int (nI (pre.length + 1)))] [] σ := by
      intro t σ k1 k2 k3 k4 k5 k6 k7
      have := ih (pre ++ [x]) t σ (by rw [hT]; simp) (by rw [List.length_append]; exact k1) k2 k3 k4 k5 k6 k7
      rw [List.length_append] at this
      exact this
    refine kX4_valueFor_5 ?_
    simp (disch := omega) only [ax_const, ax_iload, ax_lload, ax_aload, ax_istore, ax_astore, ax_iinc, ax_i2, ax_i2n, ax_l2, ax_lsh, ax_ii, ax_il, ax_li, ax_pop, ax_dup, ax_dup2, ax_if, ax_cmp, ax_acmp, ax_goto, ax_getI, ax_getR, ax_putI, ax_putR, ax_gets, ax_getsT, ax_aldI, ax_aldR, ax_astI, ax_astR, ax_alen, ax_ret, ax_aret, ax_vret, am_st, am_kl, List.getElem?_cons_zero, List.getElem?_cons_succ, List.set_cons_zero, List.set_cons_succ, Value.category, true_and, and_true, if_true, if_false, reduceCtorEq, Bool.false_eq_true, false_implies, forall_const, Option.some.injEq, exists_eq_left', exists_eq_left, Sum.inl.injEq, Sum.inr.injEq, Prod.mk.injEq, nI_toInt, nI_clamp, am_ix_nI, am_ix_0, am_ix_1, am_ix_2, am_ix_3, am_n0, am_n1, am_n2, am_n3, am_n4, am_t0, am_t1, am_t2, am_t3, am_t4, am_tm1, am_nS, am_nP, am_nM, Int.ofNat_lt, Int.ofNat_le, y1, y7, w2, hFL.1, x2, ex]
    refine ⟨fun _ => ⟨by omega, fun q => ?_, fun q => ?_⟩, fun z => by omega⟩
    · rw [if_pos q] at hR
      obtain ⟨p, hp⟩ : ∃ p, FL[pre.length]? = some p := ⟨_, List.getElem?_eq_getElem (by omega)⟩
      obtain ⟨pi, pj⟩ := p
      obtain ⟨o1, o2, o3⟩ := hok _ _ _ hp
      have eat : xl_at val L1 L2 FL pre.length = val (L1.getD pi xr_0) (L2.getD pj xr_0) := by
        unfold xl_at
        rw [List.getD_eq_getElem?_getD (l := FL), hp]
        rfl
      refine am_callK [.ref e, .int (nI pre.length)] [] (d' := 2) (lim' := (am_tp σ, am_us σ)) rfl (by omega) (by rw [h1]; exact Nat.le_refl _) (by rw [h2]; exact Nat.le_refl _) rfl (by decide) (am_recv y1) ?_
      refine c_lpfound hJ hFL hok hp (fun σ1 hJ1 hen hf1 t1 u1 => ?_)
      have t1 := t1.trans h1
      have u1 := u1.trans h2
      have hFL1 := hFL.fm hf1 (by omega) (by omega) (by omega)
      have hGO1 : xl_GO σ1 e GO := fun q x hq => by rw [(hf1.2.2.2 (e + 103) (by omega)).1]; exact hGO q x hq
      have hf01 := hf.tr (hf1.mono (fun b x => Or.inl x))
      have hcode := hJ1.2.2.2.2.2.1 c hc
      have hkind := hcode.2.2.2.2.2.2.2.1
      have hk3 := hcode.2.2.2.2.2.2.2.2.2.2.1
      obtain ⟨z1, z2, z3, z4, z5, z6, z7, z8, z9, z10, z11⟩ := hJ1.2.1
      have e1 : nI (k c) = 1 ↔ k c = 1 := nI_inj (b := 1) (by omega) (by omega)
      have e2 : nI (k c) = 2 ↔ k c = 2 := nI_inj (b := 2) (by omega) (by omega)
      simp (disch := omega) only [ax_const, ax_iload, ax_lload, ax_aload, ax_istore, ax_astore, ax_iinc, ax_i2, ax_i2n, ax_l2, ax_lsh, ax_ii, ax_il, ax_li, ax_pop, ax_dup, ax_dup2, ax_if, ax_cmp, ax_acmp, ax_goto, ax_getI, ax_getR, ax_putI, ax_putR, ax_gets, ax_getsT, ax_aldI, ax_aldR, ax_astI, ax_astR, ax_alen, ax_ret, ax_aret, ax_vret, am_st, am_kl, List.getElem?_cons_zero, List.getElem?_cons_succ, List.set_cons_zero, List.set_cons_succ, Value.category, true_and, and_true, if_true, if_false, reduceCtorEq, Bool.false_eq_true, false_implies, forall_const, Option.some.injEq, exists_eq_left', exists_eq_left, Sum.inl.injEq, Sum.inr.injEq, Prod.mk.injEq, nI_toInt, nI_clamp, am_ix_nI, am_ix_0, am_ix_1, am_ix_2, am_ix_3, am_n0, am_n1, am_n2, am_n3, am_n4, am_t0, am_t1, am_t2, am_t3, am_t4, am_tm1, am_nS, am_nP, am_nM, Int.ofNat_lt, Int.ofNat_le, Option.toList_some, Option.toList_none, List.cons_append, List.nil_append, List.append_nil, hcode.1, hkind, e1, e2, z1, z4]
      have hwork : ∀ (rest : List Value) (K : am_K) (L : List (Option Value)), k c ≠ 2 → (rest.map fun v => v.category).sum ≤ 8 → (∀ σ2, xl_J g σ2 e S k ss f s two top L1 L2 → xl_FL σ2 e FL → xl_GO σ2 e GO → am_fm (fun b => b = S + 15 ∨ b = xs_ca S c + 3) σ0 σ2 → am_tp σ2 = tp → am_us σ2 = us → K L (.int (xl_at val L1 L2 FL pre.length) :: rest) σ2) → ax_call g l d (tp, us) mX6_workOut (some 6) 2 K L (.ref (xs_ca S c) :: .ref S :: rest) σ1 := by
        intro rest K L n2 hr hK
        refine am_callK [.ref S, .ref (xs_ca S c)] rest (d' := 2) (lim' := (am_tp σ1, am_us σ1)) rfl (by omega) (by rw [t1]; exact Nat.le_refl _) (by rw [u1]; exact Nat.le_refl _) rfl hr (am_recv hJ1.2.2.2.2.1.1) ?_
        refine c_swork hJ1.1 hJ1.2.2.2.2.1 (by omega) hcode (hV n2 pi pj o1 o2 _ hen) (fun σ2 hf2 t2 u2 => ?_)
        rw [← eat]
        exact hK σ2 (xl_Jwork hJ1 hc hf2) (hFL1.fm hf2 (by omega) (by omega) (by omega)) (fun q x hq => by rw [(hf2.2.2.2 (e + 103) (by omega)).1]; exact hGO1 q x hq) (hf01.tr (hf2.mono (fun b x => Or.inr x))) (t2.trans t1) (u2.trans u1)
      refine ⟨fun c1 => ?_, fun c1 => ⟨fun c2 => ?_, fun c2 => ?_⟩⟩
      · rw [if_pos c1] at hR
        refine hwork [] _ _ (by omega) (by decide) (fun σ2 b1 b2 b3 b4 b5 b6 => ?_)
        simp (disch := omega) only [ax_const, ax_iload, ax_lload, ax_aload, ax_istore, ax_astore, ax_iinc, ax_i2, ax_i2n, ax_l2, ax_lsh, ax_ii, ax_il, ax_li, ax_pop, ax_dup, ax_dup2, ax_if, ax_cmp, ax_acmp, ax_goto, ax_getI, ax_getR, ax_putI, ax_putR, ax_gets, ax_getsT, ax_aldI, ax_aldR, ax_astI, ax_astR, ax_alen, ax_ret, ax_aret, ax_vret, am_st, am_kl, List.getElem?_cons_zero, List.getElem?_cons_succ, List.set_cons_zero, List.set_cons_succ, Value.category, true_and, and_true, if_true, if_false, reduceCtorEq, Bool.false_eq_true, false_implies, forall_const, Option.some.injEq, exists_eq_left', exists_eq_left, Sum.inl.injEq, Sum.inr.injEq, Prod.mk.injEq, nI_toInt, nI_clamp, am_ix_nI, am_ix_0, am_ix_1, am_ix_2, am_ix_3, am_n0, am_n1, am_n2, am_n3, am_n4, am_t0, am_t1, am_t2, am_t3, am_t4, am_tm1, am_nS, am_nP, am_nM, Int.ofNat_lt, Int.ofNat_le]
        rw [hR]
        exact ⟨b5, b6, hQ σ2 b1 b4⟩
      · rw [if_neg c1, if_pos c2] at hR
        exact ihn _ σ1 hR hJ1 hFL1 hGO1 hf01 t1 u1
      · rw [if_neg c1, if_neg c2] at hR
        refine hwork [.int t] _ _ c2 (Nat.le_of_ble_eq_true rfl) (fun σ2 b1 b2 b3 b4 b5 b6 => ?_)
        simp (disch := omega) only [ax_const, ax_iload, ax_lload, ax_aload, ax_istore, ax_astore, ax_iinc, ax_i2, ax_i2n, ax_l2, ax_lsh, ax_ii, ax_il, ax_li, ax_pop, ax_dup, ax_dup2, ax_if, ax_cmp, ax_acmp, ax_goto, ax_getI, ax_getR, ax_putI, ax_putR, ax_gets, ax_getsT, ax_aldI, ax_aldR, ax_astI, ax_astR, ax_alen, ax_ret, ax_aret, ax_vret, am_st, am_kl, List.getElem?_cons_zero, List.getElem?_cons_succ, List.set_cons_zero, List.set_cons_succ, Value.category, true_and, and_true, if_true, if_false, reduceCtorEq, Bool.false_eq_true, false_implies, forall_const, Option.some.injEq, exists_eq_left', exists_eq_left, Sum.inl.injEq, Sum.inr.injEq, Prod.mk.injEq, nI_toInt, nI_clamp, am_ix_nI, am_ix_0, am_ix_1, am_ix_2, am_ix_3, am_n0, am_n1, am_n2, am_n3, am_n4, am_t0, am_t1, am_t2, am_t3, am_t4, am_tm1, am_nS, am_nP, am_nM, Int.ofNat_lt, Int.ofNat_le]
        exact ihn _ σ2 hR b1 b2 b3 b4 b5 b6
    · rw [if_neg q] at hR
      exact ihn t σ hR hJ hFL hGO hf h1 h2
theorem c_lvalue {g : am_G} {l : Launch} {σ : am_S} {e S f s c gp : Nat} {k : Nat → Nat} {ss : Nat → List (Nat × Int32)} {two top : Bool} {L1 L2 : List xr_E} {FL : List (Nat × Nat)} {GO : List Nat} {val : xr_E → xr_E → Int32} {Q : Option Value → am_S → Prop} (hc : c < 6) (hgp : gp < 64) (hV : k c ≠ 2 → xl_V c val f s two ss L1 L2) (hok : xl_ok two L1 L2 FL) (hlen : GO.length = FL.length) (hJ : xl_J g σ e S k ss f s two top L1 L2) (hFL : xl_FL σ e FL) (hGO : xl_GO σ e GO)
    (hQ : ∀ σ', xl_J g σ' e S k ss f s two top L1 L2 → am_fm (fun b => b = S + 15 ∨ b = xs_ca S c + 3) σ σ' → Q (some (.int (xl_vf (k c) (xl_at val L1 L2 FL) gp GO 0 0))) σ') : am_C g l mX4_valueFor 3 (am_tp σ, am_us σ) [.ref e, .ref (xs_ca S c), .int (nI gp)] σ Q := by
  refine am_C.go [some (.ref e), some (.ref (xs_ca S c)), some (.int (nI gp)), none, none] (by decide +kernel) (Nat.le_of_ble_eq_true rfl) rfl (kX4_valueFor_0 ?_)
  simp (disch := omega) only [ax_const, ax_iload, ax_lload, ax_aload, ax_istore, ax_astore, ax_iinc, ax_i2, ax_i2n, ax_l2, ax_lsh, ax_ii, ax_il, ax_li, ax_pop, ax_dup, ax_dup2, ax_if, ax_cmp, ax_acmp, ax_goto, ax_getI, ax_getR, ax_putI, ax_putR, ax_gets, ax_getsT, ax_aldI, ax_aldR, ax_astI, ax_astR, ax_alen, ax_ret, ax_aret, ax_vret, am_st, am_kl, List.getElem?_cons_zero, List.getElem?_cons_succ, List.set_cons_zero, List.set_cons_succ, Value.category, true_and, and_true, if_true, if_false, reduceCtorEq, Bool.false_eq_true, false_implies, forall_const, Option.some.injEq, exists_eq_left', exists_eq_left, Sum.inl.injEq, Sum.inr.injEq, Prod.mk.injEq, nI_toInt, nI_clamp, am_ix_nI, am_ix_0, am_ix_1, am_ix_2, am_ix_3, am_n0, am_n1, am_n2, am_n3, am_n4, am_t0, am_t1, am_t2, am_t3, am_t4, am_tm1, am_nS, am_nP, am_nM, Int.ofNat_lt, Int.ofNat_le]
  exact xl_vf_loop (Nat.le_refl _) hc hgp hV hok hlen hQ GO [] 0 σ rfl rfl hJ hFL hGO .rf rfl rfl
