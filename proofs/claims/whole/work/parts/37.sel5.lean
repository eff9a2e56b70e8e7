def xl_tg (k : Nat → Nat) (n0 : Nat) : Bool := decide (k 5 = 2 ∨ k 5 = 3) || xs_sm k n0 0
theorem c_lpart {g : am_G} {l : Launch} {σ : am_S} {e S f s n0 : Nat} {k : Nat → Nat} {ss : Nat → List (Nat × Int32)} {two top : Bool} {L1 L2 : List xr_E} {FL : List (Nat × Nat)} {val : xr_E → xr_E → Int32} {Q : Option Value → am_S → Prop} (hV : k 4 ≠ 0 → xl_V 4 val f s two ss L1 L2) (hok : xl_ok two L1 L2 FL) (hJ : xl_J g σ e S k ss f s two top L1 L2) (hFL : xl_FL σ e FL) (hn : am_i σ S 6 = nI n0) (hn3 : n0 ≤ 3)
    (hQ : ∀ σ', xl_J g σ' e S k ss f s two top L1 L2 → am_fm (xl_P S e) σ σ' → xl_FL σ' e FL → xl_GO σ' e (xl_pt (k 4) (xl_tg k n0) (xl_at val L1 L2 FL) FL.length 0 [] 0).1 → am_i σ' e 6 = nI (xl_pt (k 4) (xl_tg k n0) (xl_at val L1 L2 FL) FL.length 0 [] 0).2 → Q none σ') : am_C g l mX4_part 3 (am_tp σ, am_us σ) [.ref e] σ Q := by
  obtain ⟨y1, y2, y3, y4, y5, y6, y7, y8, y9, y10, y11⟩ := id hJ.2.1
  have hse := hJ.2.2.2.2.2.2.2.2.2.2.2.2.2
  have fw : am_fm (xl_P S e) σ (am_wi σ e 6 0) := am_fm.rf.wi (Or.inr (Or.inl rfl))
  have hJ1 := hJ.up fw hJ.2.2.2.2.1 rfl
  have hFL1 : xl_FL (am_wi σ e 6 0) e FL := by
    obtain ⟨f1, f2, f3⟩ := hFL
    refine ⟨by rw [am_i_wi, if_neg (by omega)]; exact f1, f2, fun q a b hq => ?_⟩
    rw [am_i_wi, if_neg (by omega), am_i_wi, if_neg (by omega)]
    exact f3 q a b hq
  refine am_C.go [some (.ref e), none, none, none] (by decide +kernel) (Nat.le_of_ble_eq_true rfl) rfl (kX4_part_0 ?_)
  simp (disch := omega) only [ax_const, ax_iload, ax_lload, ax_aload, ax_istore, ax_astore, ax_iinc, ax_i2, ax_i2n, ax_l2, ax_lsh, ax_ii, ax_il, ax_li, ax_pop, ax_dup, ax_dup2, ax_if, ax_cmp, ax_acmp, ax_goto, ax_getI, ax_getR, ax_putI, ax_putR, ax_gets, ax_getsT, ax_aldI, ax_aldR, ax_astI, ax_astR, ax_alen, ax_ret, ax_aret, ax_vret, am_st, am_kl, List.getElem?_cons_zero, List.getElem?_cons_succ, List.set_cons_zero, List.set_cons_succ, Value.category, true_and, and_true, if_true, if_false, reduceCtorEq, Bool.false_eq_true, false_implies, forall_const, Option.some.injEq, exists_eq_left', exists_eq_left, Sum.inl.injEq, Sum.inr.injEq, Prod.mk.injEq, nI_toInt, nI_clamp, am_ix_nI, am_ix_0, am_ix_1, am_ix_2, am_ix_3, am_n0, am_n1, am_n2, am_n3, am_n4, am_t0, am_t1, am_t2, am_t3, am_t4, am_tm1, am_nS, am_nP, am_nM, Int.ofNat_lt, Int.ofNat_le, am_sh_wi, am_sh_wr, am_r_wi, am_i_wr, am_tp_wi, am_tp_wr, am_us_wi, am_us_wr, am_i_wi, am_r_wr, y1, y4]
  refine am_callK [.ref S] [] (d' := 1) (lim' := (am_tp σ, am_us σ)) rfl (by decide) (Nat.le_refl _) (Nat.le_refl _) rfl (Nat.le_of_ble_eq_true rfl) (am_recv hJ1.2.2.2.2.1.1) ?_
  have hn1 : am_i (am_wi σ e 6 0) S 6 = nI n0 := by rw [am_i_wi, if_neg (by omega)]; exact hn
  have hc := hJ1.2.2.2.2.2.1
  refine c_ssum (σ := am_wi σ e 6 0) (k := k) (ss := ss) hJ1.2.2.2.2.1 hn1 hn3 (fun i hi => ?_) (hc 5 (by decide)) (fun _ _ => ?_)
  · have := hc i (by omega)
    have hca := xs_ca_in S i (by omega)
    rw [show xs_ca S i = S + 19 + 4 * i by omega] at this
    exact this
  · simp (disch := omega) only [ax_const, ax_iload, ax_lload, ax_aload, ax_istore, ax_astore, ax_iinc, ax_i2, ax_i2n, ax_l2, ax_lsh, ax_ii, ax_il, ax_li, ax_pop, ax_dup, ax_dup2, ax_if, ax_cmp, ax_acmp, ax_goto, ax_getI, ax_getR, ax_putI, ax_putR, ax_gets, ax_getsT, ax_aldI, ax_aldR, ax_astI, ax_astR, ax_alen, ax_ret, ax_aret, ax_vret, am_st, am_kl, List.getElem?_cons_zero, List.getElem?_cons_succ, List.set_cons_zero, List.set_cons_succ, Value.category, true_and, and_true, if_true, if_false, reduceCtorEq, Bool.false_eq_true, false_implies, forall_const, Option.some.injEq, exists_eq_left', exists_eq_left, Sum.inl.injEq, Sum.inr.injEq, Prod.mk.injEq, nI_toInt, nI_clamp, am_ix_nI, am_ix_0, am_ix_1, am_ix_2, am_ix_3, am_n0, am_n1, am_n2, am_n3, am_n4, am_t0, am_t1, am_t2, am_t3, am_t4, am_tm1, am_nS, am_nP, am_nM, Int.ofNat_lt, Int.ofNat_le, Option.toList_some, Option.toList_none, List.cons_append, List.nil_append, List.append_nil]
    exact xl_pt_loop (Nat.le_refl _) hV hok hQ FL.length 0 [] 0 _ none (Nat.add_zero _) rfl rfl (Nat.le_refl _) hJ1 hFL1 (fun q x hq => by simp at hq) (fun _ q hq => by omega) (by rw [am_i_wi, if_pos ⟨rfl, rfl⟩]; rfl) fw rfl rfl
/-! sort -/
/-- where group gp comes among the sorted ones, from behind: those that it comes before are moved -/
def xl_ps (lt : Nat → Nat → Bool) (gp : Nat) (SO : List Nat) : Nat → Nat
  | 0 => 0
  | n + 1 => if lt gp (SO.getD n 0) = true then xl_ps lt gp SO n else n + 1
def xl_pu (SO : List Nat) (p x : Nat) : List Nat := SO.take p ++ x :: SO.drop p
def xl_so (lt : Nat → Nat → Bool) : Nat → Nat → List Nat → List Nat
  | 0, _, SO => SO
  | n + 1, gp, SO => xl_so lt n (gp + 1) (xl_pu SO (xl_ps lt gp SO SO.length) gp)
def xl_lt (desc : Bool) (rk : Nat → Int32) (a b : Nat) : Bool := if desc then decide ((rk b).toInt < (rk a).toInt) else decide ((rk a).toInt < (rk b).toInt)
theorem c_lbefore {g : am_G} {l : Launch} {σ : am_S} {e S a b : Nat} {desc : Bool} {rk : Nat → Int32} {Q : Option Value → am_S → Prop} (hS : xl_S σ e S) (hs : am_sh σ S = some (.inl 6)) (hd : am_i σ S 2 = 0 ↔ desc = false) (ha : a < 40) (hb : b < 40) (hra : am_i σ (e + 105) a = rk a) (hrb : am_i σ (e + 105) b = rk b)
    (hQ : Q (some (.int (if xl_lt desc rk a b then 1 else 0))) σ) : am_C g l mX4_comesBefore 0 (am_tp σ, am_us σ) [.ref e, .int (nI a), .int (nI b)] σ Q := by
  obtain ⟨y1, y2, y3, y4, y5, y6, y7, y8, y9, y10, y11⟩ := hS
  have w4 : am_sh σ (e + 105) = some (.inr (0, 40)) := y11 4 (by decide)
  unfold xl_lt at hQ
  refine am_C.go [some (.ref e), some (.int (nI a)), some (.int (nI b))] (by decide +kernel) (Nat.le_of_ble_eq_true rfl) rfl (kX4_comesBefore_0 ?_)
  simp (disch := omega) only [ax_const, ax_iload, ax_lload, ax_aload, ax_istore, ax_astore, ax_iinc, ax_i2, ax_i2n, ax_l2, ax_lsh, ax_ii, ax_il, ax_li, ax_pop, ax_dup, ax_dup2, ax_if, ax_cmp, ax_acmp, ax_goto, ax_getI, ax_getR, ax_putI, ax_putR, ax_gets, ax_getsT, ax_aldI, ax_aldR, ax_astI, ax_astR, ax_alen, ax_ret, ax_aret, ax_vret, am_st, am_kl, List.getElem?_cons_zero, List.getElem?_cons_succ, List.set_cons_zero, List.set_cons_succ, Value.category, true_and, and_true, if_true, if_false, reduceCtorEq, Bool.false_eq_true, false_implies, forall_const, Option.some.injEq, exists_eq_left', exists_eq_left, Sum.inl.injEq, Sum.inr.injEq, Prod.mk.injEq, nI_toInt, nI_clamp, am_ix_nI, am_ix_0, am_ix_1, am_ix_2, am_ix_3, am_n0, am_n1, am_n2, am_n3, am_n4, am_t0, am_t1, am_t2, am_t3, am_t4, am_tm1, am_nS, am_nP, am_nM, Int.ofNat_lt, Int.ofNat_le, y1, y4, hs, y9, w4, hra, hrb]
  cases desc with
  | false =>
    rw [if_neg (show ¬ (false = true) by decide)] at hQ
    refine ⟨fun _ => ⟨by omega, by omega, fun q => ⟨by simp, ?_⟩, fun q => ⟨by simp, ?_⟩⟩, fun z => absurd (hd.mpr rfl) z⟩
    · rwa [if_pos (decide_eq_true q)] at hQ
    · rwa [if_neg (by simpa using q)] at hQ
  | true =>
    rw [if_pos (show true = true from rfl)] at hQ
    refine ⟨fun z => absurd (hd.mp z) (by decide), fun _ => ⟨by omega, by omega, fun q => ⟨by simp, ?_⟩, fun q => ⟨by simp, ?_⟩⟩⟩
    · rwa [if_pos (decide_eq_true q)] at hQ
    · rwa [if_neg (by simpa using q)] at hQ
/-- the loop over the sorted ones: those behind place p are moved by one -/
def xl_SJ (σ : am_S) (e n : Nat) (SO : List Nat) (p : Nat) : Prop := ∀ q, q < n + 1 → q ≠ p → am_i σ (e + 106) q = nI (if q < p then SO.getD q 0 else SO.getD (q - 1) 0)
theorem xl_so57 {g : am_G} {l : Launch} {e S d tp us gp : Nat} {desc : Bool} {rk : Nat → Int32} {SO : List Nat} {zo : Int32} {Q : Option Value → am_S → Prop} {σ0 : am_S} (hd : 1 ≤ d) (hgp : gp < 40) (hl : SO.length = gp) (hb : ∀ q, q < gp → SO.getD q 0 < gp) (hr0 : ∀ q, q ≤ gp → am_i σ0 (e + 105) q = rk q) (hS0 : xl_S σ0 e S) (hs : am_sh σ0 S = some (.inl 6)) (hds : am_i σ0 S 2 = 0 ↔ desc = false) (hSe : S ≠ e + 106)
    (hK : ∀ σ' p, p = xl_ps (xl_lt desc rk) gp SO gp → (∀ q, q < gp + 1 → am_i σ' (e + 106) q = nI ((xl_pu SO p gp).getD q 0)) → am_r σ' = am_r σ0 → am_fm (fun b => b = e + 106) σ0 σ' → am_W g l mX4_sort d (tp, us) Q 21 [some (.ref e), some (.int zo), some (.int (nI (gp + 1))), some (.int (nI p))] [] σ') :
    ∀ (p : Nat) (σ : am_S), p ≤ gp → xl_ps (xl_lt desc rk) gp SO p = xl_ps (xl_lt desc rk) gp SO gp → xl_SJ σ e gp SO p → am_r σ = am_r σ0 → am_fm (fun b => b = e + 106) σ0 σ → am_tp σ = tp → am_us σ = us →
      am_W g l mX4_sort d (tp, us) Q 57 [some (.ref e), some (.int zo), some (.int (nI gp)), some (.int (nI p))] [] σ := by
  have h97 : ∀ (p : Nat) (σ : am_S), p ≤ gp → p = xl_ps (xl_lt desc rk) gp SO gp → xl_SJ σ e gp SO p → am_r σ = am_r σ0 → am_fm (fun b => b = e + 106) σ0 σ →
      am_W g l mX4_sort d (tp, us) Q 97 [some (.ref e), some (.int zo), some (.int (nI gp)), some (.int (nI p))] [] σ := by
    intro p σ hp he hSJ hr hf
    obtain ⟨y1, y2, y3, y4, y5, y6, y7, y8, y9, y10, y11⟩ := id hS0
    have w5 : am_sh σ0 (e + 106) = some (.inr (0, 40)) := y11 5 (by decide)
    rw [← hf.1] at y1 w5
    rw [← hr] at y10
    refine kX4_sort_97 ?_
    simp (disch := omega) only [ax_const, ax_iload, ax_lload, ax_aload, ax_istore, ax_astore, ax_iinc, ax_i2, ax_i2n, ax_l2, ax_lsh, ax_ii, ax_il, ax_li, ax_pop, ax_dup, ax_dup2, ax_if, ax_cmp, ax_acmp, ax_goto, ax_getI, ax_getR, ax_putI, ax_putR, ax_gets, ax_getsT, ax_aldI, ax_aldR, ax_astI, ax_astR, ax_alen, ax_ret, ax_aret, ax_vret, am_st, am_kl, List.getElem?_cons_zero, List.getElem?_cons_succ, List.set_cons_zero, List.set_cons_succ, Value.category, true_and, and_true, if_true, if_false, reduceCtorEq, Bool.false_eq_true, false_implies, forall_const, Option.some.injEq, exists_eq_left', exists_eq_left, Sum.inl.injEq, Sum.inr.injEq, Prod.mk.injEq, nI_toInt, nI_clamp, am_ix_nI, am_ix_0, am_ix_1, am_ix_2, am_ix_3, am_n0, am_n1, am_n2, am_n3, am_n4, am_t0, am_t1, am_t2, am_t3, am_t4, am_tm1, am_nS, am_nP, am_nM, Int.ofNat_lt, Int.ofNat_le, y1, y10, w5]
    refine ⟨by omega, ?_⟩
    refine hK _ p he (fun q hq => ?_) hr (hf.wi rfl)
    have hg : ∀ q, (xl_pu SO p gp)[q]? = if q < p then SO[q]? else if q = p then some gp else SO[q - 1]? := by
      intro q
      unfold xl_pu
      have hl2 : (SO.take p).length = p := by rw [List.length_take]; omega
      by_cases h1 : q < p
      · rw [if_pos h1, List.getElem?_append_left (by omega), List.getElem?_take, if_pos h1]
      · rw [if_neg h1, List.getElem?_append_right (by omega), hl2]
        by_cases h2 : q = p
        · rw [if_pos h2, h2, Nat.sub_self]
          rfl
        · rw [if_neg h2]
          obtain ⟨j, hj⟩ : ∃ j, q - p = j + 1 := ⟨q - p - 1, by omega⟩
          rw [hj, List.getElem?_cons_succ, List.getElem?_drop]
          congr 1
          omega
    rw [am_i_wi, List.getD_eq_getElem?_getD, hg]
    by_cases h2 : q = p
    · rw [if_pos ⟨rfl, h2⟩, if_neg (by omega), if_pos h2]
      rfl
    · rw [if_neg (fun z => h2 z.2), hSJ q hq h2]
      by_cases h1 : q < p
      · rw [if_pos h1, if_pos h1, List.getD_eq_getElem?_getD]
      · rw [if_neg h1, if_neg h1, if_neg h2, List.getD_eq_getElem?_getD]
  intro p
  induction p with
  | zero =>
    intro σ hp he hSJ hr hf h1 h2
    refine kX4_sort_57 ?_
    simp (disch := omega) only [ax_const, ax_iload, ax_lload, ax_aload, ax_istore, ax_astore, ax_iinc, ax_i2, ax_i2n, ax_l2, ax_lsh, ax_ii, ax_il, ax_li, ax_pop, ax_dup, ax_dup2, ax_if, ax_cmp, ax_acmp, ax_goto, ax_getI, ax_getR, ax_putI, ax_putR, ax_gets, ax_getsT, ax_aldI, ax_aldR, ax_astI, ax_astR, ax_alen, ax_ret, ax_aret, ax_vret, am_st, am_kl, List.getElem?_cons_zero, List.getElem?_cons_succ, List.set_cons_zero, List.set_cons_succ, Value.category, true_and, and_true, if_true, if_false, reduceCtorEq, Bool.false_eq_true, false_implies, forall_const, Option.some.injEq, exists_eq_left', exists_eq_left, Sum.inl.injEq, Sum.inr.injEq, Prod.mk.injEq, nI_toInt, nI_clamp, am_ix_nI, am_ix_0, am_ix_1, am_ix_2, am_ix_3, am_n0, am_n1, am_n2, am_n3, am_n4, am_t0, am_t1, am_t2, am_t3, am_t4, am_tm1, am_nS, am_nP, am_nM, Int.ofNat_lt, Int.ofNat_le]
    exact ⟨fun z => by omega, fun _ => h97 0 σ hp he hSJ hr hf⟩
  | succ p ih =>
    intro σ hp he hSJ hr hf h1 h2
    obtain ⟨y1, y2, y3, y4, y5, y6, y7, y8, y9, y10, y11⟩ := id hS0
    have w5 : am_sh σ0 (e + 106) = some (.inr (0, 40)) := y11 5 (by decide)
    have y1' := y1
    rw [← hf.1] at y1' w5
    rw [← hr] at y10
    have hSJp := hSJ p (by omega) (by omega)
    rw [if_pos (by omega)] at hSJp
    have hbp := hb p (by omega)
    have hS1 : xl_S σ e S := by unfold xl_S; rw [hf.1, hr]; exact hS0
    have hS2 : am_i σ S 2 = 0 ↔ desc = false := by rw [(hf.2.2.2 S hSe).1]; exact hds
    have hr105 : ∀ q, q ≤ gp → am_i σ (e + 105) q = rk q := fun q hq => by rw [(hf.2.2.2 (e + 105) (by omega)).1]; exact hr0 q hq
    rw [xl_ps] at he
    refine kX4_sort_57 ?_
    simp (disch := omega) only [ax_const, ax_iload, ax_lload, ax_aload, ax_istore, ax_astore, ax_iinc, ax_i2, ax_i2n, ax_l2, ax_lsh, ax_ii, ax_il, ax_li, ax_pop, ax_dup, ax_dup2, ax_if, ax_cmp, ax_acmp, ax_goto, ax_getI, ax_getR, ax_putI, ax_putR, ax_gets, ax_getsT, ax_aldI, ax_aldR, ax_astI, ax_astR, ax_alen, ax_ret, ax_aret, ax_vret, am_st, am_kl, List.getElem?_cons_zero, List.getElem?_cons_succ, List.set_cons_zero, List.set_cons_succ, Value.category, true_and, and_true, if_true, if_false, reduceCtorEq, Bool.false_eq_true, false_implies, forall_const, Option.some.injEq, exists_eq_left', exists_eq_left, Sum.inl.injEq, Sum.inr.injEq, Prod.mk.injEq, nI_toInt, nI_clamp, am_ix_nI, am_ix_0, am_ix_1, am_ix_2, am_ix_3, am_n0, am_n1, am_n2, am_n3, am_n4, am_t0, am_t1, am_t2, am_t3, am_t4, am_tm1, am_nS, am_nP, am_nM, Int.ofNat_lt, Int.ofNat_le, y1', y10, w5, Nat.add_sub_cancel, hSJp]
    refine ⟨fun _ => ⟨by omega, ?_⟩, fun z => by omega⟩
    refine am_callK [.ref e, .int (nI gp), .int (nI (SO.getD p 0))] [] (d' := 0) (lim' := (am_tp σ, am_us σ)) rfl (by omega) (by rw [h1]; exact Nat.le_refl _) (by rw [h2]; exact Nat.le_refl _) rfl (by decide) (am_recv y1') ?_
    refine c_lbefore hS1 (by rw [hf.1]; exact hs) hS2 (by omega) (by omega) (hr105 gp (Nat.le_refl _)) (hr105 _ (by omega)) (fun _ _ => ?_)
    cases hlt : xl_lt desc rk gp (SO.getD p 0) with
    | false =>
      rw [hlt, if_neg (by decide)] at he
      simp (disch := omega) only [ax_const, ax_iload, ax_lload, ax_aload, ax_istore, ax_astore, ax_iinc, ax_i2, ax_i2n, ax_l2, ax_lsh, ax_ii, ax_il, ax_li, ax_pop, ax_dup, ax_dup2, ax_if, ax_cmp, ax_acmp, ax_goto, ax_getI, ax_getR, ax_putI, ax_putR, ax_gets, ax_getsT, ax_aldI, ax_aldR, ax_astI, ax_astR, ax_alen, ax_ret, ax_aret, ax_vret, am_st, am_kl, List.getElem?_cons_zero, List.getElem?_cons_succ, List.set_cons_zero, List.set_cons_succ, Value.category, true_and, and_true, if_true, if_false, reduceCtorEq, Bool.false_eq_true, false_implies, forall_const, Option.some.injEq, exists_eq_left', exists_eq_left, Sum.inl.injEq, Sum.inr.injEq, Prod.mk.injEq, nI_toInt, nI_clamp, am_ix_nI, am_ix_0, am_ix_1, am_ix_2, am_ix_3, am_n0, am_n1, am_n2, am_n3, am_n4, am_t0, am_t1, am_t2, am_t3, am_t4, am_tm1, am_nS, am_nP, am_nM, Int.ofNat_lt, Int.ofNat_le, Option.toList_some, Option.toList_none, List.cons_append, List.nil_append, List.append_nil]
      exact ⟨h97 (p + 1) σ hp he hSJ hr hf, fun z => absurd trivial z⟩
    | true =>
      rw [hlt, if_pos rfl] at he
      have o1 : ¬ (1 : Int32) = 0 := by decide
      simp (disch := omega) only [ax_const, ax_iload, ax_lload, ax_aload, ax_istore, ax_astore, ax_iinc, ax_i2, ax_i2n, ax_l2, ax_lsh, ax_ii, ax_il, ax_li, ax_pop, ax_dup, ax_dup2, ax_if, ax_cmp, ax_acmp, ax_goto, ax_getI, ax_getR, ax_putI, ax_putR, ax_gets, ax_getsT, ax_aldI, ax_aldR, ax_astI, ax_astR, ax_alen, ax_ret, ax_aret, ax_vret, am_st, am_kl, List.getElem?_cons_zero, List.getElem?_cons_succ, List.set_cons_zero, List.set_cons_succ, Value.category, true_and, and_true, if_true, if_false, reduceCtorEq, Bool.false_eq_true, false_implies, forall_const, Option.some.injEq, exists_eq_left', exists_eq_left, Sum.inl.injEq, Sum.inr.injEq, Prod.mk.injEq, nI_toInt, nI_clamp, am_ix_nI, am_ix_0, am_ix_1, am_ix_2, am_ix_3, am_n0, am_n1, am_n2, am_n3, am_n4, am_t0, am_t1, am_t2, am_t3, am_t4, am_tm1, am_nS, am_nP, am_nM, Int.ofNat_lt, Int.ofNat_le, Option.toList_some, Option.toList_none, List.cons_append, List.nil_append, List.append_nil, am_sh_wi, am_sh_wr, am_r_wi, am_i_wr, am_tp_wi, am_tp_wr, am_us_wi, am_us_wr, am_i_wi, am_r_wr, o1, y1', y10, w5, Nat.add_sub_cancel, hSJp]
      refine fun _ => ⟨by omega, by omega, ?_⟩
      refine ih _ (by omega) he (fun q hq hqp => ?_) hr (hf.wi rfl) h1 h2
      rw [am_i_wi]
      by_cases c : q = p + 1
      · rw [if_pos ⟨rfl, c⟩, if_neg (by omega), c, Nat.add_sub_cancel]
      · rw [if_neg (fun z => c z.2), hSJ q hq c]
        by_cases c2 : q < p
        · rw [if_pos (by omega), if_pos c2]
        · rw [if_neg (by omega), if_neg c2]
