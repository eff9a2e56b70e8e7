/-! delete -/
/-- what the statement's condition says of a row, in table f -/
def xo_wh (B : xr_E → Bool) (f : Nat) (k : Nat → Nat) (ss : Nat → List (Nat × Int32)) (e : xr_E) : Prop := ∀ env, xs_m env f e → xs_m env 2 e → (k 3 = 0 ∧ B e = true) ∨ (k 3 = 1 ∧ xk_run env (ss 3) [] = some [if B e then 1 else 0])
theorem c_pointed {σ' : am_S} {S f a : Nat} {e : xr_E} (h1 : am_r σ' (S + 15) f = some a) (h2 : am_sh σ' a = some (.inr (0, 4))) (h3 : xr_at σ' a e) : xs_m (xs_ev σ' S) f e := xs_pt.m ⟨a, h1, h2, h3⟩
theorem xr_erase {T R : List xr_E} {e : xr_E} : (T ++ e :: R).eraseIdx T.length = T ++ R := by
  rw [List.eraseIdx_append_of_length_le (Nat.le_refl _), Nat.sub_self]
  rfl
theorem xo_del_loop {g : am_G} {l : Launch} {s lab n S f d tp us N : Nat} {C U : Nat → List xr_E} {F : List xr_E} {B : xr_E → Bool} {hh : Int32} {k : Nat → Nat} {ss : Nat → List (Nat × Int32)} {Q : Option Value → am_S → Prop} {σ0 : am_S} (hd : 3 ≤ d) (hB : g.2.2.1.size ≤ S) (hsep : S + 31 ≤ s) (hf2 : f < 2)
    (hQ : ∀ σ', xo_S σ' s lab C (fun j => if j = f then F else U j) hh n → xs_S σ' S → xs_CS g σ' S k ss → am_fm (xo_P S s) σ0 σ' → Q (some (.int (nI N))) σ') :
    ∀ (j : Nat) (T R : List xr_E) (c : Nat) (σ : am_S), T.length = j → c + j ≤ 6 → (∀ e, e ∈ T → xo_wh B f k ss e) → T.filter (fun e => !B e) ++ R = F → c + (T.filter B).length = N → xt_K g σ → xo_S σ s lab C (fun j => if j = f then T ++ R else U j) hh n → xs_S σ S → xs_CS g σ S k ss → am_i σ S 3 = nI f → am_fm (xo_P S s) σ0 σ → am_tp σ = tp → am_us σ = us →
      am_W g l mX7_delete d (tp, us) Q 10 [some (.ref s), some (.ref S), some (.ref (s + 20 + 16 * f)), some (.int (nI c)), some (.int (nI j + (-1)))] [] σ := by
  intro j
  induction j with
  | zero =>
    intro T R c σ hT hc6 hw hF hN hK H h hc hf3 hf h1 h2
    have eT : T = [] := List.length_eq_zero_iff.mp hT
    subst eT
    have e0 : nI 0 + (-1) = -1 := by rw [show nI 0 = 0 from rfl, Int32.zero_add]
    rw [e0]
    refine kX7_delete_10 ?_
    simp (disch := omega) only [ax_const, ax_iload, ax_lload, ax_aload, ax_istore, ax_astore, ax_iinc, ax_i2, ax_i2n, ax_l2, ax_lsh, ax_ii, ax_il, ax_li, ax_pop, ax_dup, ax_dup2, ax_if, ax_cmp, ax_acmp, ax_goto, ax_getI, ax_getR, ax_putI, ax_putR, ax_gets, ax_getsT, ax_aldI, ax_aldR, ax_astI, ax_astR, ax_alen, ax_ret, ax_aret, ax_vret, am_st, am_kl, List.getElem?_cons_zero, List.getElem?_cons_succ, List.set_cons_zero, List.set_cons_succ, Value.category, true_and, and_true, if_true, if_false, reduceCtorEq, Bool.false_eq_true, false_implies, forall_const, Option.some.injEq, exists_eq_left', exists_eq_left, Sum.inl.injEq, Sum.inr.injEq, Prod.mk.injEq, nI_toInt, nI_clamp, am_ix_nI, am_ix_0, am_ix_1, am_ix_2, am_ix_3, am_n0, am_n1, am_n2, am_n3, am_n4, am_t0, am_t1, am_t2, am_t3, am_t4, am_tm1, am_nS, am_nP, am_nM, Int.ofNat_lt, Int.ofNat_le, am_tm1]
    have eN : c = N := hN
    rw [eN]
    have eF : R = F := hF
    rw [eF] at H
    exact ⟨fun _ => ⟨h1, h2, hQ σ H h hc hf⟩, fun z => by omega⟩
  | succ j ih =>
    intro T R c σ hT hc6 hw hF hN hK H h hc hf3 hf h1 h2
    have hne : T ≠ [] := by intro e; subst e; cases hT
    obtain ⟨T', e, rfl⟩ : ∃ T' e, T = T' ++ [e] := ⟨T.dropLast, T.getLast hne, (List.dropLast_concat_getLast hne).symm⟩
    have hT' : T'.length = j := by simpa using hT
    have e0 : nI (j + 1) + (-1) = nI j := by rw [am_nM (by omega)]; rfl
    rw [e0]
    obtain ⟨x1, x2, x3, x4, x5, x6, x7, x8, x9⟩ := H.1
    obtain ⟨⟨p1, g1⟩, ⟨p2, g2⟩, g3, g4⟩ := H.2.2.2.2.2.2 f hf2
    dsimp only at g2 g4
    rw [if_pos rfl] at g2 g4
    obtain ⟨b0, b1, b2, b3, b4, b5, b6, b7, b8⟩ := g2.get (i := j) (e := e) (by rw [← hT']; simp)
    have h9 := h
    obtain ⟨a1, a2, a3, a4, a5, a6, a7, a8, a9, a10, a11, a12⟩ := h
    refine kX7_delete_10 ?_
    simp (disch := omega) only [ax_const, ax_iload, ax_lload, ax_aload, ax_istore, ax_astore, ax_iinc, ax_i2, ax_i2n, ax_l2, ax_lsh, ax_ii, ax_il, ax_li, ax_pop, ax_dup, ax_dup2, ax_if, ax_cmp, ax_acmp, ax_goto, ax_getI, ax_getR, ax_putI, ax_putR, ax_gets, ax_getsT, ax_aldI, ax_aldR, ax_astI, ax_astR, ax_alen, ax_ret, ax_aret, ax_vret, am_st, am_kl, List.getElem?_cons_zero, List.getElem?_cons_succ, List.set_cons_zero, List.set_cons_succ, Value.category, true_and, and_true, if_true, if_false, reduceCtorEq, Bool.false_eq_true, false_implies, forall_const, Option.some.injEq, exists_eq_left', exists_eq_left, Sum.inl.injEq, Sum.inr.injEq, Prod.mk.injEq, nI_toInt, nI_clamp, am_ix_nI, am_ix_0, am_ix_1, am_ix_2, am_ix_3, am_n0, am_n1, am_n2, am_n3, am_n4, am_t0, am_t1, am_t2, am_t3, am_t4, am_tm1, am_nS, am_nP, am_nM, Int.ofNat_lt, Int.ofNat_le, g2.1, g2.2.1, g2.2.2.2.2.2.1, b1]
    refine ⟨fun z => by omega, fun _ => ⟨by omega, ?_⟩⟩
    refine am_callK [.ref S, .ref (p2 j)] [] (d' := 0) (lim' := (am_tp σ, am_us σ)) rfl (by omega) (by rw [h1]; exact Nat.le_refl _) (by rw [h2]; exact Nat.le_refl _) rfl (by decide) (am_recv a1) ?_
    refine c_spoint h9 hf3 hf2 b4 (fun σ1 k1 k2 k3 k4 k5 k6 k7 => ?_)
    simp (disch := omega) only [ax_const, ax_iload, ax_lload, ax_aload, ax_istore, ax_astore, ax_iinc, ax_i2, ax_i2n, ax_l2, ax_lsh, ax_ii, ax_il, ax_li, ax_pop, ax_dup, ax_dup2, ax_if, ax_cmp, ax_acmp, ax_goto, ax_getI, ax_getR, ax_putI, ax_putR, ax_gets, ax_getsT, ax_aldI, ax_aldR, ax_astI, ax_astR, ax_alen, ax_ret, ax_aret, ax_vret, am_st, am_kl, List.getElem?_cons_zero, List.getElem?_cons_succ, List.set_cons_zero, List.set_cons_succ, Value.category, true_and, and_true, if_true, if_false, reduceCtorEq, Bool.false_eq_true, false_implies, forall_const, Option.some.injEq, exists_eq_left', exists_eq_left, Sum.inl.injEq, Sum.inr.injEq, Prod.mk.injEq, nI_toInt, nI_clamp, am_ix_nI, am_ix_0, am_ix_1, am_ix_2, am_ix_3, am_n0, am_n1, am_n2, am_n3, am_n4, am_t0, am_t1, am_t2, am_t3, am_t4, am_tm1, am_nS, am_nP, am_nM, Int.ofNat_lt, Int.ofNat_le, Option.toList_some, Option.toList_none, List.cons_append, List.nil_append, List.append_nil]
    have r4 : am_sh σ1 (p2 j) = some (.inr (0, 4)) := by rw [k5.1]; exact b4
    have rat : xr_at σ1 (p2 j) e := by
      unfold xr_at
      rw [(k5.2.2.2 (p2 j) (by omega)).1]
      exact ⟨b5, b6, b7, b8⟩
    have hw1 := hw e (by simp) _ (c_pointed k2 r4 rat) (c_pointed k3 r4 rat)
    have H1 := H.fm k5 (fun b x y z => by omega)
    have hc1 := hc.fm k5 (fun b x y z => by omega)
    have hK1 := hK.fm k5 (fun b x => by omega)
    refine am_callK [.ref S] [] (d' := 2) (lim' := (am_tp σ1, am_us σ1)) rfl (by omega) (by rw [k6, h1]; exact Nat.le_refl _) (by rw [k7, h2]; exact Nat.le_refl _) rfl (by decide) (am_recv k1.1) ?_
    refine c_sholds hK1 k1 hB (hc1 3 (by decide)) hw1 (fun σ2 m1 m2 m3 => ?_)
    simp (disch := omega) only [ax_const, ax_iload, ax_lload, ax_aload, ax_istore, ax_astore, ax_iinc, ax_i2, ax_i2n, ax_l2, ax_lsh, ax_ii, ax_il, ax_li, ax_pop, ax_dup, ax_dup2, ax_if, ax_cmp, ax_acmp, ax_goto, ax_getI, ax_getR, ax_putI, ax_putR, ax_gets, ax_getsT, ax_aldI, ax_aldR, ax_astI, ax_astR, ax_alen, ax_ret, ax_aret, ax_vret, am_st, am_kl, List.getElem?_cons_zero, List.getElem?_cons_succ, List.set_cons_zero, List.set_cons_succ, Value.category, true_and, and_true, if_true, if_false, reduceCtorEq, Bool.false_eq_true, false_implies, forall_const, Option.some.injEq, exists_eq_left', exists_eq_left, Sum.inl.injEq, Sum.inr.injEq, Prod.mk.injEq, nI_toInt, nI_clamp, am_ix_nI, am_ix_0, am_ix_1, am_ix_2, am_ix_3, am_n0, am_n1, am_n2, am_n3, am_n4, am_t0, am_t1, am_t2, am_t3, am_t4, am_tm1, am_nS, am_nP, am_nM, Int.ofNat_lt, Int.ofNat_le, Option.toList_some, Option.toList_none, List.cons_append, List.nil_append, List.append_nil]
    have H2 := H1.fm m1 (fun b x y z => by omega)
    have h20 := k1.fm m1 (by omega) (by omega) (by omega)
    have hc2 := hc1.fm m1 (fun b x y z => by omega)
    have hK2 := hK1.fm m1 (fun b x => by omega)
    have f02 : am_fm (fun b => b = S + 15 ∨ b = S + 5) σ σ2 := (k5.mono (fun b x => Or.inl x)).tr (m1.mono (fun b x => Or.inr x))
    have hf32 : am_i σ2 S 3 = nI f := by rw [(f02.2.2.2 S (by omega)).1]; exact hf3
    have fz : am_fm (xo_P S s) σ0 σ2 := hf.tr (f02.mono (fun b x => by unfold xo_P; omega))
    have t2 : am_tp σ2 = tp := m2.trans (k6.trans h1)
    have u2 : am_us σ2 = us := m3.trans (k7.trans h2)
    cases hBe : B e with
    | false =>
      simp only [if_true, if_false, Bool.false_eq_true, forall_const, not_true_eq_false, false_implies, and_true]
      refine ih T' (e :: R) c σ2 hT' (by omega) (fun x hx => hw x (by simp [hx])) ?_ ?_ hK2 (H2.ext (fun _ _ => rfl) (fun i hi => by simp)) h20 hc2 hf32 fz t2 u2
      · rw [← hF, List.filter_append, List.append_assoc]
        simp [hBe]
      · rw [← hN, List.filter_append]
        simp [hBe]
    | true =>
      obtain ⟨⟨p3, g5⟩, ⟨p4, g6⟩, g7, g8⟩ := H2.2.2.2.2.2.2 f hf2
      dsimp only at g6 g8
      rw [if_pos rfl] at g6 g8
      have o1 : ¬ (1 : Int32) = 0 := by decide
      simp only [if_true, o1, false_implies, true_and, not_false_eq_true, forall_const]
      refine am_callK [.ref (s + 20 + 16 * f), .int (nI j)] [] (d' := 0) (lim' := (am_tp σ2, am_us σ2)) rfl (by omega) (by rw [t2]; exact Nat.le_refl _) (by rw [u2]; exact Nat.le_refl _) rfl (by decide) (am_recv g6.1) ?_
      refine c_remove g6 (by simp; omega) (fun σ3 q hR hf' n2 n3 => ?_)
      simp (disch := omega) only [ax_const, ax_iload, ax_lload, ax_aload, ax_istore, ax_astore, ax_iinc, ax_i2, ax_i2n, ax_l2, ax_lsh, ax_ii, ax_il, ax_li, ax_pop, ax_dup, ax_dup2, ax_if, ax_cmp, ax_acmp, ax_goto, ax_getI, ax_getR, ax_putI, ax_putR, ax_gets, ax_getsT, ax_aldI, ax_aldR, ax_astI, ax_astR, ax_alen, ax_ret, ax_aret, ax_vret, am_st, am_kl, List.getElem?_cons_zero, List.getElem?_cons_succ, List.set_cons_zero, List.set_cons_succ, Value.category, true_and, and_true, if_true, if_false, reduceCtorEq, Bool.false_eq_true, false_implies, forall_const, Option.some.injEq, exists_eq_left', exists_eq_left, Sum.inl.injEq, Sum.inr.injEq, Prod.mk.injEq, nI_toInt, nI_clamp, am_ix_nI, am_ix_0, am_ix_1, am_ix_2, am_ix_3, am_n0, am_n1, am_n2, am_n3, am_n4, am_t0, am_t1, am_t2, am_t3, am_t4, am_tm1, am_nS, am_nP, am_nM, Int.ofNat_lt, Int.ofNat_le, Option.toList_some, Option.toList_none, List.cons_append, List.nil_append, List.append_nil]
      have el : (T' ++ [e] ++ R).eraseIdx j = T' ++ R := by rw [← hT', List.append_assoc]; exact xr_erase
      rw [el] at hR
      have sl : xo_ss (T' ++ R) := by
        have := List.Pairwise.sublist (List.eraseIdx_sublist (T' ++ [e] ++ R) j) g8
        rw [el] at this
        exact this
      refine ih T' R (c + 1) σ3 hT' (by omega) (fun x hx => hw x (by simp [hx])) ?_ ?_ (hK2.fm hf' (fun b x => by omega)) ((H2.setU hf2 ⟨q, hR⟩ sl hf').ext (fun _ _ => rfl) (fun i hi => by split <;> simp_all)) (h20.fm hf' (by omega) (by omega) (by omega)) (hc2.fm hf' (fun b x y z => by omega)) (by rw [(hf'.2.2.2 S (by omega)).1]; exact hf32) (fz.tr (hf'.mono (fun b x => Or.inr ⟨by omega, by omega⟩))) (n2.trans t2) (n3.trans u2)
      · rw [← hF, List.filter_append]
        simp [hBe]
      · rw [← hN, List.filter_append]
        simp [hBe]
        omega
theorem c_odelete {g : am_G} {l : Launch} {σ : am_S} {s lab n S f : Nat} {C U : Nat → List xr_E} {B : xr_E → Bool} {hh : Int32} {k : Nat → Nat} {ss : Nat → List (Nat × Int32)} {Q : Option Value → am_S → Prop} (hK : xt_K g σ) (H : xo_S σ s lab C U hh n) (h : xs_S σ S) (hc : xs_CS g σ S k ss) (hB : g.2.2.1.size ≤ S) (hsep : S + 31 ≤ s) (hf2 : f < 2) (hf3 : am_i σ S 3 = nI f) (hw : ∀ e, e ∈ U f → xo_wh B f k ss e)
    (hQ : ∀ σ', xo_S σ' s lab C (fun j => if j = f then (U f).filter (fun e => !B e) else U j) hh n → xs_S σ' S → xs_CS g σ' S k ss → am_fm (xo_P S s) σ σ' → Q (some (.int (nI ((U f).filter B).length))) σ') : am_C g l mX7_delete 3 (am_tp σ, am_us σ) [.ref s, .ref S, .ref (s + 20 + 16 * f)] σ Q := by
  obtain ⟨⟨p1, g1⟩, ⟨p2, g2⟩, g3, g4⟩ := H.2.2.2.2.2.2 f hf2
  have hl := g2.2.2.2.1
  refine am_C.go [some (.ref s), some (.ref S), some (.ref (s + 20 + 16 * f)), none, none] (by decide +kernel) (Nat.le_of_ble_eq_true rfl) rfl (kX7_delete_0 ?_)
  have e1 : nI (U f).length - 1 = nI (U f).length + (-1) := Int32.sub_eq_add_neg _ _
  simp (disch := omega) only [ax_const, ax_iload, ax_lload, ax_aload, ax_istore, ax_astore, ax_iinc, ax_i2, ax_i2n, ax_l2, ax_lsh, ax_ii, ax_il, ax_li, ax_pop, ax_dup, ax_dup2, ax_if, ax_cmp, ax_acmp, ax_goto, ax_getI, ax_getR, ax_putI, ax_putR, ax_gets, ax_getsT, ax_aldI, ax_aldR, ax_astI, ax_astR, ax_alen, ax_ret, ax_aret, ax_vret, am_st, am_kl, List.getElem?_cons_zero, List.getElem?_cons_succ, List.set_cons_zero, List.set_cons_succ, Value.category, true_and, and_true, if_true, if_false, reduceCtorEq, Bool.false_eq_true, false_implies, forall_const, Option.some.injEq, exists_eq_left', exists_eq_left, Sum.inl.injEq, Sum.inr.injEq, Prod.mk.injEq, g2.1, g2.2.2.1, e1]
  exact xo_del_loop (Nat.le_refl _) hB hsep hf2 hQ (U f).length (U f) [] 0 σ rfl (by omega) hw (by simp) (by simp) hK (H.ext (fun _ _ => rfl) (fun i hi => by split <;> simp_all)) h hc hf3 .rf rfl rfl
