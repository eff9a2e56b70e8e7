/-! changed -/
theorem ym_O.work {σ σ' : am_S} {m lab t : Nat} {D : xx_D} {P : Nat → List xr_E} {L' : List xr_E} (h : ym_O σ m D) (a4 : ∀ lb, lb < 8 → ∀ t, t < 2 → P (ym_pt 0 lb t) = D.2.1 lb t ∧ (D.2.2.2.1 lb ≠ -1 → P (ym_pt 1 lb t) = D.2.2.1 lb t)) (hlab : lab < 8) (ht : t < 2) (hne : D.2.2.2.1 lab ≠ -1) (hf : ym_f (fun b => (m + 2 ≤ b ∧ b ≤ m + 5) ∨ ym_sc m b) σ σ') (hP : ym_P σ' m (fun q => if q = ym_pt 1 lab t then L' else P q)) :
    ym_O σ' m (xx_ds D lab (D.2.1 lab) (fun j => if j = t then L' else D.2.2.1 lab j) (D.2.2.2.1 lab) (D.2.2.2.2.1 lab)) := by
  obtain ⟨a1, a2, -, a5, a6⟩ := h
  have n : ∀ b, b = m + 1 ∨ (m + 6 ≤ b ∧ b ≤ m + 9) ∨ m + 29 ≤ b → ¬ ((m + 2 ≤ b ∧ b ≤ m + 5) ∨ ym_sc m b) := fun b x y => by unfold ym_sc at y; omega
  have i1 : ∀ lb t', lb < 8 → t' < 2 → ym_pt 0 lb t' ≠ ym_pt 1 lab t := fun lb t' h1 h2 => by unfold ym_pt; omega
  have i2 : ∀ lb t', lb < 8 → t' < 2 → (ym_pt 1 lb t' = ym_pt 1 lab t ↔ lb = lab ∧ t' = t) := fun lb t' h1 h2 => by unfold ym_pt; omega
  refine ⟨a1.f hf, by rw [hf.i (n _ (by omega))]; exact a2, ⟨_, hP, fun lb hlb t' ht' => ⟨?_, fun z => ?_⟩⟩, fun lb hlb => ?_, fun i hi => (a6 i hi).f hf (n _ (by omega)) (n _ (by omega)) (n _ (by omega)) (n _ (by omega)) (n _ (by omega))⟩
  · show (if ym_pt 0 lb t' = ym_pt 1 lab t then L' else P (ym_pt 0 lb t')) = (if lb = lab then D.2.1 lab else D.2.1 lb) t'
    rw [if_neg (i1 lb t' hlb ht'), (a4 lb hlb t' ht').1]
    split
    · rename_i e; rw [e]
    · rfl
  · have z : (if lb = lab then D.2.2.2.1 lab else D.2.2.2.1 lb) ≠ -1 := z
    show (if ym_pt 1 lb t' = ym_pt 1 lab t then L' else P (ym_pt 1 lb t')) = (if lb = lab then (fun j => if j = t then L' else D.2.2.1 lab j) else D.2.2.1 lb) t'
    by_cases e : lb = lab
    · subst e
      rw [if_pos rfl]
      by_cases e2 : t' = t
      · rw [if_pos ((i2 lb t' hlb ht').mpr ⟨rfl, e2⟩), e2]
        exact (if_pos rfl).symm
      · rw [if_neg (fun q => e2 ((i2 lb t' hlb ht').mp q).2), (a4 lb hlb t' ht').2 hne]
        exact (if_neg e2).symm
    · rw [if_neg e] at z
      rw [if_neg (fun q => e ((i2 lb t' hlb ht').mp q).1), if_neg e, (a4 lb hlb t' ht').2 z]
  · show ym_h _ (if lb = lab then D.2.2.2.1 lab else D.2.2.2.1 lb) ∧ _ = nI (if lb = lab then D.2.2.2.2.1 lab else D.2.2.2.2.1 lb) ∧ (if lb = lab then D.2.2.2.2.1 lab else D.2.2.2.2.1 lb) ≤ 30
    rw [hf.i (n _ (by omega)), hf.i (n _ (by omega))]
    by_cases e : lb = lab
    · rw [if_pos e, if_pos e, e]; exact a5 lab hlab
    · rw [if_neg e, if_neg e]; exact a5 lb hlb
def ygF (m : Nat) (σ σ' : am_S) : Prop := ym_f (fun b => (m + 2 ≤ b ∧ b ≤ m + 5) ∨ (m + 20 ≤ b ∧ b ≤ m + 23)) σ σ'
theorem ygF.O {m : Nat} {σ σ' : am_S} (h : ygF m σ σ') : ym_f (fun b => (m + 2 ≤ b ∧ b ≤ m + 5) ∨ ym_sc m b) σ σ' := h.mono (fun b x => by unfold ym_sc; omega)
/-- what a change finds -/
def yCh (σ : am_S) (m i t : Nat) (T : Nat → Nat) (o : yp_O) (D : xx_D) : Prop := ym_O σ m D ∧ i < 4 ∧ t < 2 ∧ D.2.2.2.1 (D.1 i) ≠ -1 ∧ xx_lb D ∧ xo_ss (D.2.2.1 (D.1 i) t) ∧ yR σ m T ∧ ykI σ m o.length T o ∧ o.length ≤ 99 ∧ yk o ∧ ∀ q, q ∈ o → q.1 < 100
def yD' (D : xx_D) (lab t : Nat) (L' : List xr_E) : xx_D := xx_ds D lab (D.2.1 lab) (fun j => if j = t then L' else D.2.2.1 lab j) (D.2.2.2.1 lab) (D.2.2.2.2.1 lab)
theorem yR.fr {σ σ' : am_S} {m : Nat} {T : Nat → Nat} (h : yR σ m T) (h0 : am_i σ' m = am_i σ m) (h1 : am_i σ' (m + 16) = am_i σ (m + 16)) (h2 : am_i σ' (m + 17) = am_i σ (m + 17)) (h3 : am_i σ' (m + 18) = am_i σ (m + 18)) (h4 : am_i σ' (m + 19) = am_i σ (m + 19)) : yR σ' m T := by
  unfold yR
  rw [h0, h1, h2, h3, h4]
  exact h
theorem yR.gF {σ σ' : am_S} {m : Nat} {T : Nat → Nat} (h : yR σ m T) (hf : ygF m σ σ') : yR σ' m T := h.fr (hf.i (by omega)) (hf.i (by omega)) (hf.i (by omega)) (hf.i (by omega)) (hf.i (by omega))
theorem ykI.gF {σ σ' : am_S} {m i : Nat} {T : Nat → Nat} {o : yp_O} (h : ykI σ m i T o) (hf : ygF m σ σ') : ykI σ' m i T o := h.f (by rw [hf.i (a := m) (by omega)]) (hf.i (by omega)) (hf.i (by omega))
theorem c_ychDU {g : am_G} {l : Launch} {σ : am_S} {m i t : Nat} {T : Nat → Nat} {o cm : yp_O} {D : xx_D} {B : xr_E → Bool} {Q : Option Value → am_S → Prop} (h : yCh σ m i t T o D) (h24 : am_i σ m 24 ≠ yw_c (xt_w 0)) (hp : yUp T o cm B)
    (hDel : am_i σ m 24 = yw_c (xt_w 2) → ∀ σ' L', L' = (D.2.2.1 (D.1 i) t).filter (fun e => !B e) → ym_O σ' m (yD' D (D.1 i) t L') → ygF m σ σ' → Q (some (.int (nI ((D.2.2.1 (D.1 i) t).filter B).length))) σ')
    (hUpd : am_i σ m 24 ≠ yw_c (xt_w 2) → ∃ (cv : yp_O) (val : xr_E → Int32) (col : Nat), yUv T o cv val ∧ T 3 = col ∧ (col = 1 ∨ col = 2) ∧ ∀ σ' Bz L', (xo_up B val (D.1 i) col (xx_V D (D.1 i) t) (D.2.2.1 (D.1 i) t) 0 = none ∧ Bz = (-5 : Int32) ∧ L' = D.2.2.1 (D.1 i) t ∨ ∃ c, xo_up B val (D.1 i) col (xx_V D (D.1 i) t) (D.2.2.1 (D.1 i) t) 0 = some (L', c) ∧ Bz = nI c) → ym_O σ' m (yD' D (D.1 i) t L') → ygF m σ σ' → Q (some (.int Bz)) σ') :
    am_C g l mX10_changed 5 (am_tp σ, am_us σ) [.ref m, .int (nI i), .int (nI (D.1 i)), .int (nI t)] σ Q := by
  obtain ⟨hO, hi, ht, hne, hB, hss, hR, hI, ho, hk, hc⟩ := h
  have hH := hO.1
  have hlab := (hO.2.1 i hi).2
  refine am_C.go [some (.ref m), some (.int (nI i)), some (.int (nI (D.1 i))), some (.int (nI t)), none, none, none, none] (by decide +kernel) (Nat.le_of_ble_eq_true rfl) rfl (kX10_changed_0 ?_)
  have y1 : (1 : Int32) = nI 1 := rfl
  simp (disch := omega) only [ax_const, ax_iload, ax_lload, ax_aload, ax_istore, ax_astore, ax_iinc, ax_i2, ax_i2n, ax_l2, ax_lsh, ax_ii, ax_il, ax_li, ax_pop, ax_dup, ax_dup2, ax_if, ax_cmp, ax_acmp, ax_goto, ax_getI, ax_getR, ax_putI, ax_putR, ax_gets, ax_getsT, ax_aldI, ax_aldR, ax_astI, ax_astR, ax_alen, ax_ret, ax_aret, ax_vret, am_st, am_kl, List.getElem?_cons_zero, List.getElem?_cons_succ, List.set_cons_zero, List.set_cons_succ, Value.category, true_and, and_true, if_true, if_false, reduceCtorEq, Bool.false_eq_true, false_implies, forall_const, Option.some.injEq, exists_eq_left', exists_eq_left, Sum.inl.injEq, Sum.inr.injEq, Prod.mk.injEq, y1]
  refine am_callK [.int (nI 1), .int (nI (D.1 i)), .int (nI t)] [] (d' := 0) (lim' := (am_tp σ, am_us σ)) rfl (by decide) (Nat.le_refl _) (Nat.le_refl _) rfl (Nat.le_of_ble_eq_true rfl) am_stat ?_
  refine c_ypart (fun _ _ => ?_)
  simp (disch := omega) only [ax_const, ax_iload, ax_lload, ax_aload, ax_istore, ax_astore, ax_iinc, ax_i2, ax_i2n, ax_l2, ax_lsh, ax_ii, ax_il, ax_li, ax_pop, ax_dup, ax_dup2, ax_if, ax_cmp, ax_acmp, ax_goto, ax_getI, ax_getR, ax_putI, ax_putR, ax_gets, ax_getsT, ax_aldI, ax_aldR, ax_astI, ax_astR, ax_alen, ax_ret, ax_aret, ax_vret, am_st, am_kl, List.getElem?_cons_zero, List.getElem?_cons_succ, List.set_cons_zero, List.set_cons_succ, Value.category, true_and, and_true, if_true, if_false, reduceCtorEq, Bool.false_eq_true, false_implies, forall_const, Option.some.injEq, exists_eq_left', exists_eq_left, Sum.inl.injEq, Sum.inr.injEq, Prod.mk.injEq, Option.toList_some, Option.toList_none, List.cons_append, List.nil_append, List.append_nil, hH.1]
  refine am_callK [.int 105, .int 110, .int 115, .int 101, .int 114, .int 116] [.int (am_i σ m 24)] (d' := 0) (lim' := (am_tp σ, am_us σ)) rfl (by decide) (Nat.le_refl _) (Nat.le_refl _) rfl (Nat.le_of_ble_eq_true rfl) am_stat ?_
  refine c_yword (fun _ _ => ?_)
  rw [yw_insert]
  have y0 : (0 : Int32) = nI 0 := rfl
  simp (disch := omega) only [ax_const, ax_iload, ax_lload, ax_aload, ax_istore, ax_astore, ax_iinc, ax_i2, ax_i2n, ax_l2, ax_lsh, ax_ii, ax_il, ax_li, ax_pop, ax_dup, ax_dup2, ax_if, ax_cmp, ax_acmp, ax_goto, ax_getI, ax_getR, ax_putI, ax_putR, ax_gets, ax_getsT, ax_aldI, ax_aldR, ax_astI, ax_astR, ax_alen, ax_ret, ax_aret, ax_vret, am_st, am_kl, List.getElem?_cons_zero, List.getElem?_cons_succ, List.set_cons_zero, List.set_cons_succ, Value.category, true_and, and_true, if_true, if_false, reduceCtorEq, Bool.false_eq_true, false_implies, forall_const, Option.some.injEq, exists_eq_left', exists_eq_left, Sum.inl.injEq, Sum.inr.injEq, Prod.mk.injEq, Option.toList_some, Option.toList_none, List.cons_append, List.nil_append, List.append_nil, h24, y0]
  intro _
  refine am_callK [.ref m, .int (nI (D.1 i)), .int (nI t), .int (nI 0)] [] (d' := 1) (lim' := (am_tp σ, am_us σ)) rfl (by decide) (Nat.le_refl _) (Nat.le_refl _) rfl (Nat.le_of_ble_eq_true rfl) (am_recv hH.1) ?_
  refine c_ylook hO hB (by decide) hlab ht (fun z => absurd z hne) (fun σ1 hN f1 g1 g2 t1 u1 => ?_)
  have fg1 : ygF m σ σ1 := f1.mono (fun b x => by omega)
  have hH1 := hH.f f1
  have e24 : am_i σ1 m 24 = am_i σ m 24 := by rw [f1.i (a := m) (by omega)]
  have hU : yUs σ1 m T o (xx_V D (D.1 i) t) := ⟨hH1, hR.gF fg1, hI.gF fg1, hN⟩
  obtain ⟨a1, a2, ⟨P, a3, a4⟩, a5, a6⟩ := id hO
  have hpt : ym_pt 1 (D.1 i) t < 32 := by unfold ym_pt; omega
  have hPp : P (ym_pt 1 (D.1 i) t) = D.2.2.1 (D.1 i) t := (a4 _ hlab t ht).2 hne
  have hP1 : ym_P σ1 m P := a3.f f1 (by omega) (by omega) (by omega) (by omega)
  have hown := xx_V_own hB hlab ht hss
  simp (disch := omega) only [ax_const, ax_iload, ax_lload, ax_aload, ax_istore, ax_astore, ax_iinc, ax_i2, ax_i2n, ax_l2, ax_lsh, ax_ii, ax_il, ax_li, ax_pop, ax_dup, ax_dup2, ax_if, ax_cmp, ax_acmp, ax_goto, ax_getI, ax_getR, ax_putI, ax_putR, ax_gets, ax_getsT, ax_aldI, ax_aldR, ax_astI, ax_astR, ax_alen, ax_ret, ax_aret, ax_vret, am_st, am_kl, List.getElem?_cons_zero, List.getElem?_cons_succ, List.set_cons_zero, List.set_cons_succ, Value.category, true_and, and_true, if_true, if_false, reduceCtorEq, Bool.false_eq_true, false_implies, forall_const, Option.some.injEq, exists_eq_left', exists_eq_left, Sum.inl.injEq, Sum.inr.injEq, Prod.mk.injEq, Option.toList_some, Option.toList_none, List.cons_append, List.nil_append, List.append_nil, hH1.1]
  refine am_callK [.int 100, .int 101, .int 108, .int 101, .int 116, .int 101] [.int (am_i σ1 m 24)] (d' := 0) (lim' := (am_tp σ1, am_us σ1)) rfl (by decide) (Nat.le_of_eq f1.tp) (Nat.le_of_eq f1.us) rfl (Nat.le_of_ble_eq_true rfl) am_stat ?_
  refine c_yword (fun _ _ => ?_)
  rw [yw_delete, e24]
  simp (disch := omega) only [ax_const, ax_iload, ax_lload, ax_aload, ax_istore, ax_astore, ax_iinc, ax_i2, ax_i2n, ax_l2, ax_lsh, ax_ii, ax_il, ax_li, ax_pop, ax_dup, ax_dup2, ax_if, ax_cmp, ax_acmp, ax_goto, ax_getI, ax_getR, ax_putI, ax_putR, ax_gets, ax_getsT, ax_aldI, ax_aldR, ax_astI, ax_astR, ax_alen, ax_ret, ax_aret, ax_vret, am_st, am_kl, List.getElem?_cons_zero, List.getElem?_cons_succ, List.set_cons_zero, List.set_cons_succ, Value.category, true_and, and_true, if_true, if_false, reduceCtorEq, Bool.false_eq_true, false_implies, forall_const, Option.some.injEq, exists_eq_left', exists_eq_left, Sum.inl.injEq, Sum.inr.injEq, Prod.mk.injEq, Option.toList_some, Option.toList_none, List.cons_append, List.nil_append, List.append_nil]
  have toO : ∀ σ' L', ym_P σ' m (fun q => if q = ym_pt 1 (D.1 i) t then L' else P q) → ygF m σ σ' → ym_O σ' m (yD' D (D.1 i) t L') := fun σ' L' hP' hf' => hO.work a4 hlab ht hne hf'.O hP'
  have fG : ∀ σ', yuG m σ1 σ' → ygF m σ σ' := fun σ' hf => ym_f.tr fg1 (hf.mono (fun b x => by omega))
  refine ⟨fun cd => ?_, fun cd => ?_⟩
  · refine am_callK [.ref m, .int (nI (ym_pt 1 (D.1 i) t)), .int (nI (D.1 i))] [] (d' := 3) (lim' := (am_tp σ1, am_us σ1)) rfl (by decide) (Nat.le_of_eq f1.tp) (Nat.le_of_eq f1.us) rfl (Nat.le_of_ble_eq_true rfl) (am_recv hH1.1) ?_
    refine c_ydel hp hU hP1 hpt (by rw [hPp]; exact hown) (by rw [hPp]; exact hss) (fun σ2 hP2 f2 t2 u2 => ?_)
    rw [hPp] at hP2 ⊢
    simp (disch := omega) only [ax_const, ax_iload, ax_lload, ax_aload, ax_istore, ax_astore, ax_iinc, ax_i2, ax_i2n, ax_l2, ax_lsh, ax_ii, ax_il, ax_li, ax_pop, ax_dup, ax_dup2, ax_if, ax_cmp, ax_acmp, ax_goto, ax_getI, ax_getR, ax_putI, ax_putR, ax_gets, ax_getsT, ax_aldI, ax_aldR, ax_astI, ax_astR, ax_alen, ax_ret, ax_aret, ax_vret, am_st, am_kl, List.getElem?_cons_zero, List.getElem?_cons_succ, List.set_cons_zero, List.set_cons_succ, Value.category, true_and, and_true, if_true, if_false, reduceCtorEq, Bool.false_eq_true, false_implies, forall_const, Option.some.injEq, exists_eq_left', exists_eq_left, Sum.inl.injEq, Sum.inr.injEq, Prod.mk.injEq, Option.toList_some, Option.toList_none, List.cons_append, List.nil_append, List.append_nil]
    exact ⟨t2.trans t1, u2.trans u1, hDel cd σ2 _ rfl (toO σ2 _ hP2 (fG σ2 f2)) (fG σ2 f2)⟩
  · obtain ⟨cv, val, col, hv, hc1, hc2, hfin⟩ := hUpd cd
    refine am_callK [.ref m, .int (nI (ym_pt 1 (D.1 i) t)), .int (nI (D.1 i))] [] (d' := 4) (lim' := (am_tp σ1, am_us σ1)) rfl (by decide) (Nat.le_of_eq f1.tp) (Nat.le_of_eq f1.us) rfl (Nat.le_of_ble_eq_true rfl) (am_recv hH1.1) ?_
    refine c_yupd (lab := D.1 i) hp hv ⟨hc1, hc2⟩ hU hP1 hpt (by rw [hPp]; exact yo_K.start hown hss) (fun hn σ2 f2 t2 u2 => ?_) (fun L' c hs σ2 hP2 f2 t2 u2 => ?_)
    · rw [hPp] at hn
      have hP2 : ym_P σ2 m (fun q => if q = ym_pt 1 (D.1 i) t then D.2.2.1 (D.1 i) t else P q) := (hP1.u f2).ext (fun q => by
        split
        · rename_i e; rw [e, hPp]
        · rfl)
      simp (disch := omega) only [ax_const, ax_iload, ax_lload, ax_aload, ax_istore, ax_astore, ax_iinc, ax_i2, ax_i2n, ax_l2, ax_lsh, ax_ii, ax_il, ax_li, ax_pop, ax_dup, ax_dup2, ax_if, ax_cmp, ax_acmp, ax_goto, ax_getI, ax_getR, ax_putI, ax_putR, ax_gets, ax_getsT, ax_aldI, ax_aldR, ax_astI, ax_astR, ax_alen, ax_ret, ax_aret, ax_vret, am_st, am_kl, List.getElem?_cons_zero, List.getElem?_cons_succ, List.set_cons_zero, List.set_cons_succ, Value.category, true_and, and_true, if_true, if_false, reduceCtorEq, Bool.false_eq_true, false_implies, forall_const, Option.some.injEq, exists_eq_left', exists_eq_left, Sum.inl.injEq, Sum.inr.injEq, Prod.mk.injEq, Option.toList_some, Option.toList_none, List.cons_append, List.nil_append, List.append_nil]
      exact ⟨t2.trans t1, u2.trans u1, hfin σ2 _ _ (Or.inl ⟨hn, rfl, rfl⟩) (toO σ2 _ hP2 (fG σ2 (yuG.of f2))) (fG σ2 (yuG.of f2))⟩
    · rw [hPp] at hs
      simp (disch := omega) only [ax_const, ax_iload, ax_lload, ax_aload, ax_istore, ax_astore, ax_iinc, ax_i2, ax_i2n, ax_l2, ax_lsh, ax_ii, ax_il, ax_li, ax_pop, ax_dup, ax_dup2, ax_if, ax_cmp, ax_acmp, ax_goto, ax_getI, ax_getR, ax_putI, ax_putR, ax_gets, ax_getsT, ax_aldI, ax_aldR, ax_astI, ax_astR, ax_alen, ax_ret, ax_aret, ax_vret, am_st, am_kl, List.getElem?_cons_zero, List.getElem?_cons_succ, List.set_cons_zero, List.set_cons_succ, Value.category, true_and, and_true, if_true, if_false, reduceCtorEq, Bool.false_eq_true, false_implies, forall_const, Option.some.injEq, exists_eq_left', exists_eq_left, Sum.inl.injEq, Sum.inr.injEq, Prod.mk.injEq, Option.toList_some, Option.toList_none, List.cons_append, List.nil_append, List.append_nil]
      exact ⟨t2.trans t1, u2.trans u1, hfin σ2 _ L' (Or.inr ⟨c, hs, rfl⟩) (toO σ2 _ hP2 (fG σ2 f2)) (fG σ2 f2)⟩
