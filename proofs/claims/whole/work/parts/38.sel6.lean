theorem xl_pu_get {SO : List Nat} {p x : Nat} (hp : p ≤ SO.length) (q : Nat) : (xl_pu SO p x)[q]? = if q < p then SO[q]? else if q = p then some x else SO[q - 1]? := by
  unfold xl_pu
  have hl2 : (SO.take p).length = p := by rw [List.length_take]; omega
  by_cases h1 : q < p
  · rw [if_pos h1, List.getElem?_append_left (by omega), List.getElem?_take, if_pos h1]
  · rw [if_neg h1, List.getElem?_append_right (by omega), hl2]
    by_cases h2 : q = p
    · rw [if_pos h2, h2, Nat.sub_self]
      rfl
    · rw [if_neg h2]
      obtain ⟨j, hj⟩ : ∃ j, q - p = j + 1 := ⟨q - p - 1, by omega⟩
      rw [hj, List.getElem?_cons_succ, List.getElem?_drop]
      congr 1
      omega
theorem xl_ps_le (lt : Nat → Nat → Bool) (gp : Nat) (SO : List Nat) : ∀ n, xl_ps lt gp SO n ≤ n
  | 0 => Nat.le_refl _
  | n + 1 => by
    rw [xl_ps]
    split
    · exact Nat.le_succ_of_le (xl_ps_le lt gp SO n)
    · exact Nat.le_refl _
theorem xl_pu_len {SO : List Nat} {p x : Nat} (hp : p ≤ SO.length) : (xl_pu SO p x).length = SO.length + 1 := by
  unfold xl_pu
  simp
  omega
theorem xl_pu_lt {SO : List Nat} {p gp : Nat} (hp : p ≤ SO.length) (hl : SO.length = gp) (hb : ∀ q, q < gp → SO.getD q 0 < gp) : ∀ q, q < gp + 1 → (xl_pu SO p gp).getD q 0 < gp + 1 := by
  intro q hq
  rw [List.getD_eq_getElem?_getD, xl_pu_get hp]
  by_cases h1 : q < p
  · rw [if_pos h1, ← List.getD_eq_getElem?_getD]
    have := hb q (by omega)
    omega
  · rw [if_neg h1]
    by_cases h2 : q = p
    · rw [if_pos h2]
      show gp < gp + 1
      omega
    · rw [if_neg h2, ← List.getD_eq_getElem?_getD]
      have := hb (q - 1) (by omega)
      omega
def xl_rk (k : Nat → Nat) (val : xr_E → xr_E → Int32) (L1 L2 : List xr_E) (FL : List (Nat × Nat)) (GO : List Nat) (gp : Nat) : Int32 := if k 5 = 0 then 0 else xl_vf (k 5) (xl_at val L1 L2 FL) gp GO 0 0
/-- the sorted groups -/
def xl_SO (σ : am_S) (e : Nat) (SO : List Nat) : Prop := ∀ q, q < SO.length → am_i σ (e + 106) q = nI (SO.getD q 0) ∧ SO.getD q 0 < SO.length
theorem xl_sort_loop {g : am_G} {l : Launch} {e S f s d tp us gr : Nat} {k : Nat → Nat} {ss : Nat → List (Nat × Int32)} {two top desc : Bool} {L1 L2 : List xr_E} {FL : List (Nat × Nat)} {GO R : List Nat} {val : xr_E → xr_E → Int32} {Q : Option Value → am_S → Prop} {σ0 : am_S} (hd : 4 ≤ d) (hgr : gr ≤ 40) (hV : k 5 ≠ 0 → k 5 ≠ 2 → xl_V 5 val f s two ss L1 L2) (hok : xl_ok two L1 L2 FL) (hlen : GO.length = FL.length)
    (hQ : ∀ σ', xl_J g σ' e S k ss f s two top L1 L2 → am_fm (xl_P S e) σ0 σ' → xl_FL σ' e FL → xl_GO σ' e GO → am_i σ' e 6 = nI gr → xl_SO σ' e R → R.length = gr → Q none σ') :
    ∀ (n gp : Nat) (SO : List Nat) (σ : am_S) (z : Option Value), n + gp = gr → xl_so (xl_lt desc (xl_rk k val L1 L2 FL GO)) n gp SO = R → SO.length = gp → xl_SO σ e SO → (∀ q, q < gp → am_i σ (e + 105) q = xl_rk k val L1 L2 FL GO q) → xl_J g σ e S k ss f s two top L1 L2 → (am_i σ S 2 = 0 ↔ desc = false) → xl_FL σ e FL → xl_GO σ e GO → am_i σ e 6 = nI gr → am_fm (xl_P S e) σ0 σ → am_tp σ = tp → am_us σ = us →
      am_W g l mX4_sort d (tp, us) Q 21 [some (.ref e), some (.int (if k 5 = 0 then 0 else 1)), some (.int (nI gp)), z] [] σ := by
  intro n
  induction n with
  | zero =>
    intro gp SO σ z hn hR hl hSO hrk hJ hds hFL hGO hg hf h1 h2
    have hR : SO = R := hR
    subst hR
    obtain ⟨y1, y2, y3, y4, y5, y6, y7, y8, y9, y10, y11⟩ := id hJ.2.1
    refine kX4_sort_21 ?_
    simp (disch := omega) only [ax_const, ax_iload, ax_lload, ax_aload, ax_istore, ax_astore, ax_iinc, ax_i2, ax_i2n, ax_l2, ax_lsh, ax_ii, ax_il, ax_li, ax_pop, ax_dup, ax_dup2, ax_if, ax_cmp, ax_acmp, ax_goto, ax_getI, ax_getR, ax_putI, ax_putR, ax_gets, ax_getsT, ax_aldI, ax_aldR, ax_astI, ax_astR, ax_alen, ax_ret, ax_aret, ax_vret, am_st, am_kl, List.getElem?_cons_zero, List.getElem?_cons_succ, List.set_cons_zero, List.set_cons_succ, Value.category, true_and, and_true, if_true, if_false, reduceCtorEq, Bool.false_eq_true, false_implies, forall_const, Option.some.injEq, exists_eq_left', exists_eq_left, Sum.inl.injEq, Sum.inr.injEq, Prod.mk.injEq, nI_toInt, nI_clamp, am_ix_nI, am_ix_0, am_ix_1, am_ix_2, am_ix_3, am_n0, am_n1, am_n2, am_n3, am_n4, am_t0, am_t1, am_t2, am_t3, am_t4, am_tm1, am_nS, am_nP, am_nM, Int.ofNat_lt, Int.ofNat_le, y1, hg]
    exact ⟨fun z => by omega, fun _ => ⟨h1, h2, hQ σ hJ hf hFL hGO hg hSO (by omega)⟩⟩
  | succ n ih =>
    intro gp SO σ z hn hR hl hSO hrk hJ hds hFL hGO hg hf h1 h2
    have hse := hJ.2.2.2.2.2.2.2.2.2.2.2.2.2
    obtain ⟨y1, y2, y3, y4, y5, y6, y7, y8, y9, y10, y11⟩ := id hJ.2.1
    have w4 : am_sh σ (e + 105) = some (.inr (0, 40)) := y11 4 (by decide)
    rw [xl_so] at hR
    have main : ∀ (σ1 : am_S), am_fm (fun b => b = S + 15 ∨ b = xs_ca S 5 + 3) σ σ1 → xl_J g σ1 e S k ss f s two top L1 L2 → am_tp σ1 = tp → am_us σ1 = us →
        am_W g l mX4_sort d (tp, us) Q 57 [some (.ref e), some (.int (if k 5 = 0 then 0 else 1)), some (.int (nI gp)), some (.int (nI gp))] [] (am_wi σ1 (e + 105) gp (xl_rk k val L1 L2 FL GO gp)) := by
      intro σ1 hf1 hJ1 t1 u1
      have hca : xs_ca S 5 = S + 10 := rfl
      rw [hca] at hf1
      have fw : am_fm (fun b => b = S + 15 ∨ b = S + 10 + 3 ∨ b = e + 105) σ (am_wi σ1 (e + 105) gp (xl_rk k val L1 L2 FL GO gp)) := am_fm.wi (hf1.mono (fun b x => by omega)) (Or.inr (Or.inr rfl))
      have fw2 : am_fm (xl_P S e) σ1 (am_wi σ1 (e + 105) gp (xl_rk k val L1 L2 FL GO gp)) := am_fm.rf.wi (Or.inr (Or.inr ⟨by omega, by omega⟩))
      have hJ2 := hJ1.up fw2 hJ1.2.2.2.2.1 rfl
      have hds2 : am_i (am_wi σ1 (e + 105) gp (xl_rk k val L1 L2 FL GO gp)) S 2 = 0 ↔ desc = false := by rw [(fw.2.2.2 S (by omega)).1]; exact hds
      have hrk2 : ∀ q, q ≤ gp → am_i (am_wi σ1 (e + 105) gp (xl_rk k val L1 L2 FL GO gp)) (e + 105) q = xl_rk k val L1 L2 FL GO q := by
        intro q hq
        rw [am_i_wi]
        by_cases c : q = gp
        · rw [if_pos ⟨rfl, c⟩, c]
        · rw [if_neg (fun w => c w.2), (hf1.2.2.2 (e + 105) (by omega)).1]
          exact hrk q (by omega)
      refine xl_so57 (g := g) (l := l) (S := S) (desc := desc) (rk := xl_rk k val L1 L2 FL GO) (SO := SO) (by omega) (by omega) hl (fun q hq => by have := (hSO q (by omega)).2; omega) hrk2 hJ2.2.1 hJ2.2.2.2.2.1.1 hds2 (by omega) (fun σ3 p hp hq3 hr3 hf3 => ?_) gp _ (Nat.le_refl _) rfl (fun q hq hqp => ?_) rfl .rf t1 u1
      · have hple : p ≤ SO.length := by rw [hp, hl]; exact xl_ps_le _ _ _ _
        have f03 : am_fm (fun b => b = S + 15 ∨ b = S + 10 + 3 ∨ b = e + 105 ∨ b = e + 106) σ σ3 := (fw.mono (fun b x => by omega)).tr (hf3.mono (fun b x => by omega))
        have hJ3 := hJ2.up (hf3.mono (fun b x => Or.inr (Or.inr ⟨by omega, by omega⟩))) (hJ2.2.2.2.2.1.fm hf3 (by omega) (by omega) (by omega)) (by rw [hr3])
        have hlen3 := xl_pu_len (x := gp) hple
        refine ih (gp + 1) (xl_pu SO p gp) σ3 _ (by omega) (by rw [← hR, hp, hl]) (by omega) (fun q hq => ⟨hq3 q (by omega), ?_⟩) (fun q hq => by rw [(hf3.2.2.2 (e + 105) (by omega)).1]; exact hrk2 q (by omega)) hJ3 (by rw [(f03.2.2.2 S (by omega)).1]; exact hds) (hFL.fm f03 (by omega) (by omega) (by omega)) (fun q x hq => by rw [(f03.2.2.2 (e + 103) (by omega)).1]; exact hGO q x hq) (by rw [(f03.2.2.2 e (by omega)).1]; exact hg) (hf.tr (f03.mono (fun b x => by unfold xl_P; omega))) (f03.2.1.trans h1) (f03.2.2.1.trans h2)
        have := xl_pu_lt hple hl (fun q hq => by have := (hSO q (by omega)).2; omega) q (by omega)
        omega
      · rw [if_pos (by omega), (fw.2.2.2 (e + 106) (by omega)).1]
        exact (hSO q (by omega)).1
    refine kX4_sort_21 ?_
    simp (disch := omega) only [ax_const, ax_iload, ax_lload, ax_aload, ax_istore, ax_astore, ax_iinc, ax_i2, ax_i2n, ax_l2, ax_lsh, ax_ii, ax_il, ax_li, ax_pop, ax_dup, ax_dup2, ax_if, ax_cmp, ax_acmp, ax_goto, ax_getI, ax_getR, ax_putI, ax_putR, ax_gets, ax_getsT, ax_aldI, ax_aldR, ax_astI, ax_astR, ax_alen, ax_ret, ax_aret, ax_vret, am_st, am_kl, List.getElem?_cons_zero, List.getElem?_cons_succ, List.set_cons_zero, List.set_cons_succ, Value.category, true_and, and_true, if_true, if_false, reduceCtorEq, Bool.false_eq_true, false_implies, forall_const, Option.some.injEq, exists_eq_left', exists_eq_left, Sum.inl.injEq, Sum.inr.injEq, Prod.mk.injEq, nI_toInt, nI_clamp, am_ix_nI, am_ix_0, am_ix_1, am_ix_2, am_ix_3, am_n0, am_n1, am_n2, am_n3, am_n4, am_t0, am_t1, am_t2, am_t3, am_t4, am_tm1, am_nS, am_nP, am_nM, Int.ofNat_lt, Int.ofNat_le, y1, hg, y9]
    refine ⟨fun _ => ?_, fun z => by omega⟩
    by_cases c0 : k 5 = 0
    · have er : xl_rk k val L1 L2 FL GO gp = 0 := by unfold xl_rk; rw [if_pos c0]
      have hm := main σ .rf hJ h1 h2
      rw [er, if_pos c0] at hm
      rw [if_pos c0]
      simp (disch := omega) only [ax_const, ax_iload, ax_lload, ax_aload, ax_istore, ax_astore, ax_iinc, ax_i2, ax_i2n, ax_l2, ax_lsh, ax_ii, ax_il, ax_li, ax_pop, ax_dup, ax_dup2, ax_if, ax_cmp, ax_acmp, ax_goto, ax_getI, ax_getR, ax_putI, ax_putR, ax_gets, ax_getsT, ax_aldI, ax_aldR, ax_astI, ax_astR, ax_alen, ax_ret, ax_aret, ax_vret, am_st, am_kl, List.getElem?_cons_zero, List.getElem?_cons_succ, List.set_cons_zero, List.set_cons_succ, Value.category, true_and, and_true, if_true, if_false, reduceCtorEq, Bool.false_eq_true, false_implies, forall_const, Option.some.injEq, exists_eq_left', exists_eq_left, Sum.inl.injEq, Sum.inr.injEq, Prod.mk.injEq, nI_toInt, nI_clamp, am_ix_nI, am_ix_0, am_ix_1, am_ix_2, am_ix_3, am_n0, am_n1, am_n2, am_n3, am_n4, am_t0, am_t1, am_t2, am_t3, am_t4, am_tm1, am_nS, am_nP, am_nM, Int.ofNat_lt, Int.ofNat_le, w4]
      exact ⟨⟨by omega, hm⟩, fun z => absurd trivial z⟩
    · have er : xl_rk k val L1 L2 FL GO gp = xl_vf (k 5) (xl_at val L1 L2 FL) gp GO 0 0 := by unfold xl_rk; rw [if_neg c0]
      rw [er, if_neg c0] at main
      rw [if_neg c0]
      have o1 : ¬ (1 : Int32) = 0 := by decide
      have hS10 : am_r σ S 10 = some (S + 10) := hJ.2.2.2.2.1.2.2.2.2.1
      simp (disch := omega) only [ax_const, ax_iload, ax_lload, ax_aload, ax_istore, ax_astore, ax_iinc, ax_i2, ax_i2n, ax_l2, ax_lsh, ax_ii, ax_il, ax_li, ax_pop, ax_dup, ax_dup2, ax_if, ax_cmp, ax_acmp, ax_goto, ax_getI, ax_getR, ax_putI, ax_putR, ax_gets, ax_getsT, ax_aldI, ax_aldR, ax_astI, ax_astR, ax_alen, ax_ret, ax_aret, ax_vret, am_st, am_kl, List.getElem?_cons_zero, List.getElem?_cons_succ, List.set_cons_zero, List.set_cons_succ, Value.category, true_and, and_true, if_true, if_false, reduceCtorEq, Bool.false_eq_true, false_implies, forall_const, Option.some.injEq, exists_eq_left', exists_eq_left, Sum.inl.injEq, Sum.inr.injEq, Prod.mk.injEq, nI_toInt, nI_clamp, am_ix_nI, am_ix_0, am_ix_1, am_ix_2, am_ix_3, am_n0, am_n1, am_n2, am_n3, am_n4, am_t0, am_t1, am_t2, am_t3, am_t4, am_tm1, am_nS, am_nP, am_nM, Int.ofNat_lt, Int.ofNat_le, o1, y1, y4, hS10, hJ.2.2.2.2.1.1]
      intro _
      refine am_callK [.ref e, .ref (xs_ca S 5), .int (nI gp)] [.int (nI gp), .ref (e + 105)] (d' := 3) (lim' := (am_tp σ, am_us σ)) rfl (by omega) (by rw [h1]; exact Nat.le_refl _) (by rw [h2]; exact Nat.le_refl _) rfl (Nat.le_of_ble_eq_true rfl) (am_recv y1) ?_
      refine c_lvalue (by decide) (by omega) (hV c0) hok hlen hJ hFL hGO (fun σ1 hJ1 hf1 t1 u1 => ?_)
      have w41 : am_sh σ1 (e + 105) = some (.inr (0, 40)) := hJ1.2.1.2.2.2.2.2.2.2.2.2.2 4 (by decide)
      simp (disch := omega) only [ax_const, ax_iload, ax_lload, ax_aload, ax_istore, ax_astore, ax_iinc, ax_i2, ax_i2n, ax_l2, ax_lsh, ax_ii, ax_il, ax_li, ax_pop, ax_dup, ax_dup2, ax_if, ax_cmp, ax_acmp, ax_goto, ax_getI, ax_getR, ax_putI, ax_putR, ax_gets, ax_getsT, ax_aldI, ax_aldR, ax_astI, ax_astR, ax_alen, ax_ret, ax_aret, ax_vret, am_st, am_kl, List.getElem?_cons_zero, List.getElem?_cons_succ, List.set_cons_zero, List.set_cons_succ, Value.category, true_and, and_true, if_true, if_false, reduceCtorEq, Bool.false_eq_true, false_implies, forall_const, Option.some.injEq, exists_eq_left', exists_eq_left, Sum.inl.injEq, Sum.inr.injEq, Prod.mk.injEq, nI_toInt, nI_clamp, am_ix_nI, am_ix_0, am_ix_1, am_ix_2, am_ix_3, am_n0, am_n1, am_n2, am_n3, am_n4, am_t0, am_t1, am_t2, am_t3, am_t4, am_tm1, am_nS, am_nP, am_nM, Int.ofNat_lt, Int.ofNat_le, Option.toList_some, Option.toList_none, List.cons_append, List.nil_append, List.append_nil, w41]
      exact ⟨by omega, main σ1 hf1 hJ1 (t1.trans h1) (u1.trans h2)⟩
