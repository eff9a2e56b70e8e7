/-! select -/
def xl_T (g : am_G) (σ : am_S) (e S se st : Nat) (dr : List Nat) (k : Nat → Nat) (ss : Nat → List (Nat × Int32)) (f s : Nat) (two top : Bool) (L1 L2 : List xr_E) (FL : List (Nat × Nat)) (GO SO : List Nat) (gr n0 : Nat) : Prop :=
  xl_J g σ e S k ss f s two top L1 L2 ∧ xl_FL σ e FL ∧ xl_GO σ e GO ∧ am_i σ e 6 = nI gr ∧ xl_SO σ e SO ∧ xe_Q σ se st dr ∧ am_i σ S 6 = nI n0 ∧ am_i σ se 4 = nI gr ∧ am_i σ se 5 = nI n0
def xl_CL (σ : am_S) (se : Nat) (rv : Nat → Nat → Int32) (n0 r c : Nat) : Prop := ∀ r' c', c' < n0 → (r' < r ∨ (r' = r ∧ c' < c)) → am_i σ (se + 3 + r') c' = rv r' c'
def xl_rv (k : Nat → Nat) (val : Nat → xr_E → xr_E → Int32) (L1 L2 : List xr_E) (FL : List (Nat × Nat)) (GO SO : List Nat) (r c : Nat) : Int32 := xl_vf (k c) (xl_at (val c) L1 L2 FL) (SO.getD r 0) GO 0 0
/-- where a select writes -/
def xl_Ps (S e se b : Nat) : Prop := xl_P S e b ∨ (se ≤ b ∧ b < se + 43)
theorem xl_sel_in {g : am_G} {l : Launch} {e S se st f s d tp us gr n0 r : Nat} {dr : List Nat} {k : Nat → Nat} {ss : Nat → List (Nat × Int32)} {two top : Bool} {L1 L2 : List xr_E} {FL : List (Nat × Nat)} {GO SO : List Nat} {val : Nat → xr_E → xr_E → Int32} {Q : Option Value → am_S → Prop} {σ0 : am_S} (hd : 4 ≤ d) (hgr : gr ≤ 40) (hn3 : n0 ≤ 3) (hse : e + 107 ≤ se) (hr : r < gr) (hSl : SO.length = gr) (hV : ∀ c, c < n0 → k c ≠ 2 → xl_V c (val c) f s two ss L1 L2) (hok : xl_ok two L1 L2 FL) (hlen : GO.length = FL.length)
    (hK : ∀ σ' z, xl_T g σ' e S se st dr k ss f s two top L1 L2 FL GO SO gr n0 → xl_CL σ' se (xl_rv k val L1 L2 FL GO SO) n0 (r + 1) 0 → am_fm (xl_Ps S e se) σ0 σ' → am_tp σ' = tp → am_us σ' = us → am_W g l mX4_select d (tp, us) Q 39 [some (.ref e), some (.ref se), some (.int (nI (r + 1))), z] [] σ') :
    ∀ (n c : Nat) (σ : am_S), n + c = n0 → xl_T g σ e S se st dr k ss f s two top L1 L2 FL GO SO gr n0 → xl_CL σ se (xl_rv k val L1 L2 FL GO SO) n0 r c → am_fm (xl_Ps S e se) σ0 σ → am_tp σ = tp → am_us σ = us →
      am_W g l mX4_select d (tp, us) Q 49 [some (.ref e), some (.ref se), some (.int (nI r)), some (.int (nI c))] [] σ := by
  intro n
  induction n with
  | zero =>
    intro c σ hn hT hCL hf h1 h2
    obtain ⟨hJ, hFL, hGO, hg, hSO, hE, hx, h4, h5⟩ := id hT
    obtain ⟨y1, y2, y3, y4, y5, y6, y7, y8, y9, y10, y11⟩ := id hJ.2.1
    refine kX4_select_49 ?_
    simp (disch := omega) only [ax_const, ax_iload, ax_lload, ax_aload, ax_istore, ax_astore, ax_iinc, ax_i2, ax_i2n, ax_l2, ax_lsh, ax_ii, ax_il, ax_li, ax_pop, ax_dup, ax_dup2, ax_if, ax_cmp, ax_acmp, ax_goto, ax_getI, ax_getR, ax_putI, ax_putR, ax_gets, ax_getsT, ax_aldI, ax_aldR, ax_astI, ax_astR, ax_alen, ax_ret, ax_aret, ax_vret, am_st, am_kl, List.getElem?_cons_zero, List.getElem?_cons_succ, List.set_cons_zero, List.set_cons_succ, Value.category, true_and, and_true, if_true, if_false, reduceCtorEq, Bool.false_eq_true, false_implies, forall_const, Option.some.injEq, exists_eq_left', exists_eq_left, Sum.inl.injEq, Sum.inr.injEq, Prod.mk.injEq, nI_toInt, nI_clamp, am_ix_nI, am_ix_0, am_ix_1, am_ix_2, am_ix_3, am_n0, am_n1, am_n2, am_n3, am_n4, am_t0, am_t1, am_t2, am_t3, am_t4, am_tm1, am_nS, am_nP, am_nM, Int.ofNat_lt, Int.ofNat_le, y1, y4, hJ.2.2.2.2.1.1, hx]
    exact ⟨fun z => by omega, fun _ => hK σ _ hT (fun r' c' q1 q2 => hCL r' c' q1 (by omega)) hf h1 h2⟩
  | succ n ih =>
    intro c σ hn hT hCL hf h1 h2
    obtain ⟨hJ, hFL, hGO, hg, hSO, hE, hx, h4, h5⟩ := id hT
    obtain ⟨y1, y2, y3, y4, y5, y6, y7, y8, y9, y10, y11⟩ := id hJ.2.1
    have hSe := hJ.2.2.2.2.2.2.2.2.2.2.2.2.2
    obtain ⟨x1, x2, x3, x4, x5, x6, x7, x8, x9, x10⟩ := id hE
    obtain ⟨v1, v2⟩ := x7 r (by omega)
    obtain ⟨u1, u2⟩ := hSO r (by omega)
    have w5 : am_sh σ (e + 106) = some (.inr (0, 40)) := y11 5 (by decide)
    obtain ⟨a1, a2, a3, a4, a5, a6, a7, a8, a9, a10, a11, a12⟩ := id hJ.2.2.2.2.1
    have a9c := a9 c (by omega)
    have hca : xs_ca S c = S + 19 + 4 * c := by have := xs_ca_in S c (by omega); omega
    refine kX4_select_49 ?_
    simp (disch := omega) only [ax_const, ax_iload, ax_lload, ax_aload, ax_istore, ax_astore, ax_iinc, ax_i2, ax_i2n, ax_l2, ax_lsh, ax_ii, ax_il, ax_li, ax_pop, ax_dup, ax_dup2, ax_if, ax_cmp, ax_acmp, ax_goto, ax_getI, ax_getR, ax_putI, ax_putR, ax_gets, ax_getsT, ax_aldI, ax_aldR, ax_astI, ax_astR, ax_alen, ax_ret, ax_aret, ax_vret, am_st, am_kl, List.getElem?_cons_zero, List.getElem?_cons_succ, List.set_cons_zero, List.set_cons_succ, Value.category, true_and, and_true, if_true, if_false, reduceCtorEq, Bool.false_eq_true, false_implies, forall_const, Option.some.injEq, exists_eq_left', exists_eq_left, Sum.inl.injEq, Sum.inr.injEq, Prod.mk.injEq, nI_toInt, nI_clamp, am_ix_nI, am_ix_0, am_ix_1, am_ix_2, am_ix_3, am_n0, am_n1, am_n2, am_n3, am_n4, am_t0, am_t1, am_t2, am_t3, am_t4, am_tm1, am_nS, am_nP, am_nM, Int.ofNat_lt, Int.ofNat_le, y1, y4, y10, a1, a2, a8, a9c, hx, x1, x4, x6, v1, w5, u1]
    refine ⟨fun _ => ⟨by omega, by omega, by omega, ?_⟩, fun z => by omega⟩
    rw [← hca]
    refine am_callK [.ref e, .ref (xs_ca S c), .int (nI (SO.getD r 0))] [.int (nI c), .ref (se + 3 + r)] (d' := 3) (lim' := (am_tp σ, am_us σ)) rfl (by omega) (by rw [h1]; exact Nat.le_refl _) (by rw [h2]; exact Nat.le_refl _) rfl (Nat.le_of_ble_eq_true rfl) (am_recv y1) ?_
    refine c_lvalue (by omega) (by omega) (hV c (by omega)) hok hlen hJ hFL hGO (fun σ1 hJ1 hf1 t1 w1 => ?_)
    rw [hca] at hf1
    have v21 : am_sh σ1 (se + 3 + r) = some (.inr (0, 3)) := by rw [hf1.1]; exact v2
    simp (disch := omega) only [ax_const, ax_iload, ax_lload, ax_aload, ax_istore, ax_astore, ax_iinc, ax_i2, ax_i2n, ax_l2, ax_lsh, ax_ii, ax_il, ax_li, ax_pop, ax_dup, ax_dup2, ax_if, ax_cmp, ax_acmp, ax_goto, ax_getI, ax_getR, ax_putI, ax_putR, ax_gets, ax_getsT, ax_aldI, ax_aldR, ax_astI, ax_astR, ax_alen, ax_ret, ax_aret, ax_vret, am_st, am_kl, List.getElem?_cons_zero, List.getElem?_cons_succ, List.set_cons_zero, List.set_cons_succ, Value.category, true_and, and_true, if_true, if_false, reduceCtorEq, Bool.false_eq_true, false_implies, forall_const, Option.some.injEq, exists_eq_left', exists_eq_left, Sum.inl.injEq, Sum.inr.injEq, Prod.mk.injEq, nI_toInt, nI_clamp, am_ix_nI, am_ix_0, am_ix_1, am_ix_2, am_ix_3, am_n0, am_n1, am_n2, am_n3, am_n4, am_t0, am_t1, am_t2, am_t3, am_t4, am_tm1, am_nS, am_nP, am_nM, Int.ofNat_lt, Int.ofNat_le, Option.toList_some, Option.toList_none, List.cons_append, List.nil_append, List.append_nil, v21]
    have fw : am_fm (fun b => b = S + 15 ∨ b = S + 19 + 4 * c + 3 ∨ b = se + 3 + r) σ (am_wi σ1 (se + 3 + r) c (xl_vf (k c) (xl_at (val c) L1 L2 FL) (SO.getD r 0) GO 0 0)) := am_fm.wi (hf1.mono (fun b x => by omega)) (Or.inr (Or.inr rfl))
    have fw1 : am_fm (fun b => b = se + 3 + r) σ1 (am_wi σ1 (se + 3 + r) c (xl_vf (k c) (xl_at (val c) L1 L2 FL) (SO.getD r 0) GO 0 0)) := am_fm.rf.wi rfl
    have hJ2 : xl_J g (am_wi σ1 (se + 3 + r) c (xl_vf (k c) (xl_at (val c) L1 L2 FL) (SO.getD r 0) GO 0 0)) e S k ss f s two top L1 L2 := by
      obtain ⟨j1, j2, ⟨p, j3⟩, j4, j5, j6, j7, j8, j9, j10, j11, j12, j13, j14⟩ := hJ1
      refine ⟨j1.fm fw1 (fun b x => by omega), j2, ⟨p, j3.fm fw1 (fun b x y => by omega)⟩, fun q => ?_, j5.fm fw1 (by omega) (by omega) (by omega), j6.fm fw1 (fun b x y z => by omega), by rw [am_i_wi, if_neg (by omega)]; exact j7, by rw [am_i_wi, if_neg (by omega)]; exact j8, by rw [am_i_wi, if_neg (by omega)]; exact j9, j10, j11, j12, j13, j14⟩
      obtain ⟨p2, j4⟩ := j4 q
      exact ⟨p2, j4.fm fw1 (fun b x y => by omega)⟩
    refine ⟨by omega, ih (c + 1) _ (by omega) ⟨hJ2, hFL.fm fw (by omega) (by omega) (by omega), fun q x hq => by rw [(fw.2.2.2 (e + 103) (by omega)).1]; exact hGO q x hq, by rw [(fw.2.2.2 e (by omega)).1]; exact hg, fun q hq => by rw [(fw.2.2.2 (e + 106) (by omega)).1]; exact hSO q hq, hE.fm fw (fun b x => by omega), by rw [(fw.2.2.2 S (by omega)).1]; exact hx, by rw [(fw.2.2.2 se (by omega)).1]; exact h4, by rw [(fw.2.2.2 se (by omega)).1]; exact h5⟩ (fun r' c' q1 q2 => ?_) (hf.tr (fw.mono (fun b x => by unfold xl_Ps xl_P; omega))) (t1.trans h1) (w1.trans h2)⟩
    rw [am_i_wi]
    by_cases q : r' = r ∧ c' = c
    · rw [if_pos ⟨by omega, q.2⟩, q.1, q.2]
      rfl
    · rw [if_neg (fun z => q ⟨by omega, z.2⟩), (hf1.2.2.2 (se + 3 + r') (by omega)).1]
      exact hCL r' c' q1 (by omega)
theorem xl_sel_out {g : am_G} {l : Launch} {e S se st f s d tp us gr n0 : Nat} {dr : List Nat} {k : Nat → Nat} {ss : Nat → List (Nat × Int32)} {two top : Bool} {L1 L2 : List xr_E} {FL : List (Nat × Nat)} {GO SO : List Nat} {val : Nat → xr_E → xr_E → Int32} {Q : Option Value → am_S → Prop} {σ0 : am_S} (hd : 4 ≤ d) (hgr : gr ≤ 40) (hn3 : n0 ≤ 3) (hse : e + 107 ≤ se) (hSl : SO.length = gr) (hV : ∀ c, c < n0 → k c ≠ 2 → xl_V c (val c) f s two ss L1 L2) (hok : xl_ok two L1 L2 FL) (hlen : GO.length = FL.length)
    (hQ : ∀ σ', xl_J g σ' e S k ss f s two top L1 L2 → xe_S σ' se st dr gr n0 (xl_rv k val L1 L2 FL GO SO) → am_fm (xl_Ps S e se) σ0 σ' → Q (some (.int (nI gr))) σ') :
    ∀ (n r : Nat) (σ : am_S) (z : Option Value), n + r = gr → xl_T g σ e S se st dr k ss f s two top L1 L2 FL GO SO gr n0 → xl_CL σ se (xl_rv k val L1 L2 FL GO SO) n0 r 0 → am_fm (xl_Ps S e se) σ0 σ → am_tp σ = tp → am_us σ = us →
      am_W g l mX4_select d (tp, us) Q 39 [some (.ref e), some (.ref se), some (.int (nI r)), z] [] σ := by
  intro n
  induction n with
  | zero =>
    intro r σ z hn hT hCL hf h1 h2
    obtain ⟨hJ, hFL, hGO, hg, hSO, hE, hx, h4, h5⟩ := id hT
    obtain ⟨y1, y2, y3, y4, y5, y6, y7, y8, y9, y10, y11⟩ := id hJ.2.1
    obtain ⟨x1, x2, x3, x4, x5, x6, x7, x8, x9, x10⟩ := id hE
    refine kX4_select_39 ?_
    simp (disch := omega) only [ax_const, ax_iload, ax_lload, ax_aload, ax_istore, ax_astore, ax_iinc, ax_i2, ax_i2n, ax_l2, ax_lsh, ax_ii, ax_il, ax_li, ax_pop, ax_dup, ax_dup2, ax_if, ax_cmp, ax_acmp, ax_goto, ax_getI, ax_getR, ax_putI, ax_putR, ax_gets, ax_getsT, ax_aldI, ax_aldR, ax_astI, ax_astR, ax_alen, ax_ret, ax_aret, ax_vret, am_st, am_kl, List.getElem?_cons_zero, List.getElem?_cons_succ, List.set_cons_zero, List.set_cons_succ, Value.category, true_and, and_true, if_true, if_false, reduceCtorEq, Bool.false_eq_true, false_implies, forall_const, Option.some.injEq, exists_eq_left', exists_eq_left, Sum.inl.injEq, Sum.inr.injEq, Prod.mk.injEq, nI_toInt, nI_clamp, am_ix_nI, am_ix_0, am_ix_1, am_ix_2, am_ix_3, am_n0, am_n1, am_n2, am_n3, am_n4, am_t0, am_t1, am_t2, am_t3, am_t4, am_tm1, am_nS, am_nP, am_nM, Int.ofNat_lt, Int.ofNat_le, y1, hg]
    exact ⟨fun z => by omega, fun _ => ⟨h1, h2, hQ σ hJ ⟨x1, x2, x3, x4, x5, x6, x7, x8, x9, x10, h4, h5, hgr, hn3, fun r' c' q1 q2 => hCL r' c' q2 (Or.inl (by omega))⟩ hf⟩⟩
  | succ n ih =>
    intro r σ z hn hT hCL hf h1 h2
    obtain ⟨hJ, hFL, hGO, hg, hSO, hE, hx, h4, h5⟩ := id hT
    obtain ⟨y1, y2, y3, y4, y5, y6, y7, y8, y9, y10, y11⟩ := id hJ.2.1
    refine kX4_select_39 ?_
    simp (disch := omega) only [ax_const, ax_iload, ax_lload, ax_aload, ax_istore, ax_astore, ax_iinc, ax_i2, ax_i2n, ax_l2, ax_lsh, ax_ii, ax_il, ax_li, ax_pop, ax_dup, ax_dup2, ax_if, ax_cmp, ax_acmp, ax_goto, ax_getI, ax_getR, ax_putI, ax_putR, ax_gets, ax_getsT, ax_aldI, ax_aldR, ax_astI, ax_astR, ax_alen, ax_ret, ax_aret, ax_vret, am_st, am_kl, List.getElem?_cons_zero, List.getElem?_cons_succ, List.set_cons_zero, List.set_cons_succ, Value.category, true_and, and_true, if_true, if_false, reduceCtorEq, Bool.false_eq_true, false_implies, forall_const, Option.some.injEq, exists_eq_left', exists_eq_left, Sum.inl.injEq, Sum.inr.injEq, Prod.mk.injEq, nI_toInt, nI_clamp, am_ix_nI, am_ix_0, am_ix_1, am_ix_2, am_ix_3, am_n0, am_n1, am_n2, am_n3, am_n4, am_t0, am_t1, am_t2, am_t3, am_t4, am_tm1, am_nS, am_nP, am_nM, Int.ofNat_lt, Int.ofNat_le, y1, hg]
    refine ⟨fun _ => ?_, fun z => by omega⟩
    exact xl_sel_in hd hgr hn3 hse (by omega) hSl hV hok hlen (fun σ' z a b c t u => ih (r + 1) σ' z (by omega) a b c t u) n0 0 σ (Nat.add_zero _) hT hCL hf h1 h2
