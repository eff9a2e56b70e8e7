/-! firstWithMarkOf, part -/
def xl_fm (mk : Nat → Int32) (i : Nat) : Nat → Nat → Option Nat
  | 0, _ => none
  | n + 1, b => if mk b = mk i then some b else xl_fm mk i n (b + 1)
def xl_oi (o : Option Nat) : Int32 := match o with
  | none => -1
  | some b => nI b
theorem xl_fm_lt {mk : Nat → Int32} {i : Nat} : ∀ n b c, n + b = i → xl_fm mk i n b = some c → c < i
  | 0, _, _, _, h => by cases h
  | n + 1, b, c, hn, h => by
    rw [xl_fm] at h
    split at h
    · cases h
      omega
    · exact xl_fm_lt n (b + 1) c (by omega) h
theorem c_lfirst {g : am_G} {l : Launch} {σ : am_S} {e S i : Nat} {mk : Nat → Int32} {Q : Option Value → am_S → Prop} (hS : xl_S σ e S) (hi : i < 40) (hm : ∀ q, q ≤ i → am_i σ (e + 104) q = mk q) (hQ : Q (some (.int (xl_oi (xl_fm mk i i 0)))) σ) : am_C g l mX4_firstWithMarkOf 0 (am_tp σ, am_us σ) [.ref e, .int (nI i)] σ Q := by
  obtain ⟨y1, y2, y3, y4, y5, y6, y7, y8, y9, y10, y11⟩ := hS
  have w3 : am_sh σ (e + 104) = some (.inr (0, 40)) := y11 3 (by decide)
  have hmi := hm i (Nat.le_refl _)
  have loop : ∀ (n b : Nat), n + b = i → xl_fm mk i n b = xl_fm mk i i 0 → am_W g l mX4_firstWithMarkOf 0 (am_tp σ, am_us σ) Q 2 [some (.ref e), some (.int (nI i)), some (.int (nI b))] [] σ := by
    intro n
    induction n with
    | zero =>
      intro b hn he
      rw [← he] at hQ
      refine kX4_firstWithMarkOf_2 ?_
      simp (disch := omega) only [ax_const, ax_iload, ax_lload, ax_aload, ax_istore, ax_astore, ax_iinc, ax_i2, ax_i2n, ax_l2, ax_lsh, ax_ii, ax_il, ax_li, ax_pop, ax_dup, ax_dup2, ax_if, ax_cmp, ax_acmp, ax_goto, ax_getI, ax_getR, ax_putI, ax_putR, ax_gets, ax_getsT, ax_aldI, ax_aldR, ax_astI, ax_astR, ax_alen, ax_ret, ax_aret, ax_vret, am_st, am_kl, List.getElem?_cons_zero, List.getElem?_cons_succ, List.set_cons_zero, List.set_cons_succ, Value.category, true_and, and_true, if_true, if_false, reduceCtorEq, Bool.false_eq_true, false_implies, forall_const, Option.some.injEq, exists_eq_left', exists_eq_left, Sum.inl.injEq, Sum.inr.injEq, Prod.mk.injEq, nI_toInt, nI_clamp, am_ix_nI, am_ix_0, am_ix_1, am_ix_2, am_ix_3, am_n0, am_n1, am_n2, am_n3, am_n4, am_t0, am_t1, am_t2, am_t3, am_t4, am_tm1, am_nS, am_nP, am_nM, Int.ofNat_lt, Int.ofNat_le]
      exact ⟨fun z => by omega, fun _ => hQ⟩
    | succ n ih =>
      intro b hn he
      have hmb := hm b (by omega)
      rw [xl_fm] at he
      refine kX4_firstWithMarkOf_2 ?_
      simp (disch := omega) only [ax_const, ax_iload, ax_lload, ax_aload, ax_istore, ax_astore, ax_iinc, ax_i2, ax_i2n, ax_l2, ax_lsh, ax_ii, ax_il, ax_li, ax_pop, ax_dup, ax_dup2, ax_if, ax_cmp, ax_acmp, ax_goto, ax_getI, ax_getR, ax_putI, ax_putR, ax_gets, ax_getsT, ax_aldI, ax_aldR, ax_astI, ax_astR, ax_alen, ax_ret, ax_aret, ax_vret, am_st, am_kl, List.getElem?_cons_zero, List.getElem?_cons_succ, List.set_cons_zero, List.set_cons_succ, Value.category, true_and, and_true, if_true, if_false, reduceCtorEq, Bool.false_eq_true, false_implies, forall_const, Option.some.injEq, exists_eq_left', exists_eq_left, Sum.inl.injEq, Sum.inr.injEq, Prod.mk.injEq, nI_toInt, nI_clamp, am_ix_nI, am_ix_0, am_ix_1, am_ix_2, am_ix_3, am_n0, am_n1, am_n2, am_n3, am_n4, am_t0, am_t1, am_t2, am_t3, am_t4, am_tm1, am_nS, am_nP, am_nM, Int.ofNat_lt, Int.ofNat_le, y1, y8, w3, hmi, hmb]
      refine ⟨fun _ => ⟨by omega, by omega, fun q => ?_, fun q => ?_⟩, fun z => by omega⟩
      · rw [if_pos q] at he
        rw [← he] at hQ
        exact hQ
      · rw [if_neg q] at he
        exact ih (b + 1) (by omega) he
  refine am_C.go [some (.ref e), some (.int (nI i)), none] (by decide +kernel) (Nat.le_of_ble_eq_true rfl) rfl (kX4_firstWithMarkOf_0 ?_)
  simp (disch := omega) only [ax_const, ax_iload, ax_lload, ax_aload, ax_istore, ax_astore, ax_iinc, ax_i2, ax_i2n, ax_l2, ax_lsh, ax_ii, ax_il, ax_li, ax_pop, ax_dup, ax_dup2, ax_if, ax_cmp, ax_acmp, ax_goto, ax_getI, ax_getR, ax_putI, ax_putR, ax_gets, ax_getsT, ax_aldI, ax_aldR, ax_astI, ax_astR, ax_alen, ax_ret, ax_aret, ax_vret, am_st, am_kl, List.getElem?_cons_zero, List.getElem?_cons_succ, List.set_cons_zero, List.set_cons_succ, Value.category, true_and, and_true, if_true, if_false, reduceCtorEq, Bool.false_eq_true, false_implies, forall_const, Option.some.injEq, exists_eq_left', exists_eq_left, Sum.inl.injEq, Sum.inr.injEq, Prod.mk.injEq, nI_toInt, nI_clamp, am_ix_nI, am_ix_0, am_ix_1, am_ix_2, am_ix_3, am_n0, am_n1, am_n2, am_n3, am_n4, am_t0, am_t1, am_t2, am_t3, am_t4, am_tm1, am_nS, am_nP, am_nM, Int.ofNat_lt, Int.ofNat_le]
  exact loop i 0 (Nat.add_zero _) rfl
def xl_lk (kd : Nat) (tg : Bool) (mk : Nat → Int32) (i : Nat) : Option Nat := if kd = 0 then (if tg = true ∧ 0 < i then some 0 else none) else xl_fm mk i i 0
theorem xl_lk_lt {kd : Nat} {tg : Bool} {mk : Nat → Int32} {i b : Nat} (h : xl_lk kd tg mk i = some b) : b < i := by
  unfold xl_lk at h
  split at h
  · split at h
    · rename_i q
      cases h
      exact q.2
    · cases h
  · exact xl_fm_lt i 0 b (Nat.add_zero _) h
def xl_pt (kd : Nat) (tg : Bool) (mk : Nat → Int32) : Nat → Nat → List Nat → Nat → List Nat × Nat
  | 0, _, GO, gr => (GO, gr)
  | n + 1, i, GO, gr => match xl_lk kd tg mk i with
    | none => xl_pt kd tg mk n (i + 1) (GO ++ [gr]) (gr + 1)
    | some b => xl_pt kd tg mk n (i + 1) (GO ++ [GO.getD b 0]) gr
theorem xl_GO.add {σ σ' : am_S} {e x : Nat} {GO : List Nat} (h : xl_GO σ e GO) (hx : x < 64) (h1 : ∀ j, am_i σ' (e + 103) j = if j = GO.length then nI x else am_i σ (e + 103) j) : xl_GO σ' e (GO ++ [x]) := by
  intro q y hq
  rw [h1]
  by_cases c : q < GO.length
  · rw [List.getElem?_append_left c] at hq
    rw [if_neg (by omega)]
    exact h q y hq
  · rw [List.getElem?_append_right (by omega)] at hq
    have e1 : q = GO.length := by
      have := (List.getElem?_eq_some_iff.mp hq).1
      simp at this
      omega
    subst e1
    rw [Nat.sub_self, List.getElem?_cons_zero, Option.some.injEq] at hq
    subst hq
    rw [if_pos rfl]
    exact ⟨hx, rfl⟩
/-- behind the search for a like one -/
theorem xl_pt82 {g : am_G} {l : Launch} {e S d tp us i gr : Nat} {σ : am_S} {GO : List Nat} {o : Option Nat} {zt : Int32} {Q : Option Value → am_S → Prop} (hS : xl_S σ e S) (hi : i < 40) (hl : GO.length = i) (hgr : gr ≤ i) (hg : am_i σ e 6 = nI gr) (hGO : xl_GO σ e GO) (ho : ∀ b, o = some b → b < i)
    (hK : ∀ σ' GO' gr', (GO', gr') = (match o with | none => (GO ++ [gr], gr + 1) | some b => (GO ++ [GO.getD b 0], gr)) → xl_GO σ' e GO' → am_i σ' e 6 = nI gr' → am_r σ' = am_r σ → am_fm (fun b => b = e ∨ b = e + 103) σ σ' → am_i σ' e 3 = am_i σ e 3 → am_W g l mX4_part d (tp, us) Q 15 [some (.ref e), some (.int zt), some (.int (nI (i + 1))), some (.int (xl_oi o))] [] σ') :
    am_W g l mX4_part d (tp, us) Q 82 [some (.ref e), some (.int zt), some (.int (nI i)), some (.int (xl_oi o))] [] σ := by
  obtain ⟨y1, y2, y3, y4, y5, y6, y7, y8, y9, y10, y11⟩ := hS
  have w2 : am_sh σ (e + 103) = some (.inr (0, 40)) := y11 2 (by decide)
  have n1 : ¬ e = e + 103 := by omega
  cases o with
  | none =>
    refine kX4_part_82 ?_
    have eo : xl_oi none = -1 := rfl
    rw [eo]
    rw [eo] at hK
    simp (disch := omega) only [ax_const, ax_iload, ax_lload, ax_aload, ax_istore, ax_astore, ax_iinc, ax_i2, ax_i2n, ax_l2, ax_lsh, ax_ii, ax_il, ax_li, ax_pop, ax_dup, ax_dup2, ax_if, ax_cmp, ax_acmp, ax_goto, ax_getI, ax_getR, ax_putI, ax_putR, ax_gets, ax_getsT, ax_aldI, ax_aldR, ax_astI, ax_astR, ax_alen, ax_ret, ax_aret, ax_vret, am_st, am_kl, List.getElem?_cons_zero, List.getElem?_cons_succ, List.set_cons_zero, List.set_cons_succ, Value.category, true_and, and_true, if_true, if_false, reduceCtorEq, Bool.false_eq_true, false_implies, forall_const, Option.some.injEq, exists_eq_left', exists_eq_left, Sum.inl.injEq, Sum.inr.injEq, Prod.mk.injEq, nI_toInt, nI_clamp, am_ix_nI, am_ix_0, am_ix_1, am_ix_2, am_ix_3, am_n0, am_n1, am_n2, am_n3, am_n4, am_t0, am_t1, am_t2, am_t3, am_t4, am_tm1, am_nS, am_nP, am_nM, Int.ofNat_lt, Int.ofNat_le, y1, y7, hg]
    refine ⟨?_, fun z => absurd trivial z⟩
    refine kX4_part_105 ?_
    simp (disch := omega) only [ax_const, ax_iload, ax_lload, ax_aload, ax_istore, ax_astore, ax_iinc, ax_i2, ax_i2n, ax_l2, ax_lsh, ax_ii, ax_il, ax_li, ax_pop, ax_dup, ax_dup2, ax_if, ax_cmp, ax_acmp, ax_goto, ax_getI, ax_getR, ax_putI, ax_putR, ax_gets, ax_getsT, ax_aldI, ax_aldR, ax_astI, ax_astR, ax_alen, ax_ret, ax_aret, ax_vret, am_st, am_kl, List.getElem?_cons_zero, List.getElem?_cons_succ, List.set_cons_zero, List.set_cons_succ, Value.category, true_and, and_true, if_true, if_false, reduceCtorEq, Bool.false_eq_true, false_implies, forall_const, Option.some.injEq, exists_eq_left', exists_eq_left, Sum.inl.injEq, Sum.inr.injEq, Prod.mk.injEq, nI_toInt, nI_clamp, am_ix_nI, am_ix_0, am_ix_1, am_ix_2, am_ix_3, am_n0, am_n1, am_n2, am_n3, am_n4, am_t0, am_t1, am_t2, am_t3, am_t4, am_tm1, am_nS, am_nP, am_nM, Int.ofNat_lt, Int.ofNat_le, am_sh_wi, am_sh_wr, am_r_wi, am_i_wr, am_tp_wi, am_tp_wr, am_us_wi, am_us_wr, am_i_wi, am_r_wr, y1, y7, w2, hg, n1, false_and]
    refine ⟨by omega, ?_, fun z => absurd trivial z⟩
    refine kX4_part_121 ?_
    simp (disch := omega) only [ax_const, ax_iload, ax_lload, ax_aload, ax_istore, ax_astore, ax_iinc, ax_i2, ax_i2n, ax_l2, ax_lsh, ax_ii, ax_il, ax_li, ax_pop, ax_dup, ax_dup2, ax_if, ax_cmp, ax_acmp, ax_goto, ax_getI, ax_getR, ax_putI, ax_putR, ax_gets, ax_getsT, ax_aldI, ax_aldR, ax_astI, ax_astR, ax_alen, ax_ret, ax_aret, ax_vret, am_st, am_kl, List.getElem?_cons_zero, List.getElem?_cons_succ, List.set_cons_zero, List.set_cons_succ, Value.category, true_and, and_true, if_true, if_false, reduceCtorEq, Bool.false_eq_true, false_implies, forall_const, Option.some.injEq, exists_eq_left', exists_eq_left, Sum.inl.injEq, Sum.inr.injEq, Prod.mk.injEq, nI_toInt, nI_clamp, am_ix_nI, am_ix_0, am_ix_1, am_ix_2, am_ix_3, am_n0, am_n1, am_n2, am_n3, am_n4, am_t0, am_t1, am_t2, am_t3, am_t4, am_tm1, am_nS, am_nP, am_nM, Int.ofNat_lt, Int.ofNat_le, am_sh_wi, am_sh_wr, am_r_wi, am_i_wr, am_tp_wi, am_tp_wr, am_us_wi, am_us_wr, am_i_wi, am_r_wr, y1]
    refine hK (am_wi (am_wi σ (e + 103) i (nI gr)) e 6 (nI (gr + 1))) _ _ rfl (hGO.add (by omega) (fun j => ?_)) ?_ rfl ((am_fm.rf.wi (Or.inr rfl)).wi (Or.inl rfl)) ?_
    · rw [am_i_wi, if_neg (by omega), am_i_wi, hl]
      simp
    · rw [am_i_wi, if_pos ⟨rfl, rfl⟩]
    · rw [am_i_wi, if_neg (by omega), am_i_wi, if_neg (by omega)]
  | some b =>
    have hb := ho b rfl
    have eo : xl_oi (some b) = nI b := rfl
    obtain ⟨x, hx⟩ : ∃ x, GO[b]? = some x := ⟨_, List.getElem?_eq_getElem (by omega)⟩
    obtain ⟨x1, x2⟩ := hGO b x hx
    have exd : GO.getD b 0 = x := by rw [List.getD_eq_getElem?_getD, hx]; rfl
    have hne : ¬ nI b = -1 := nI_m1 (by omega)
    refine kX4_part_82 ?_
    rw [eo]
    rw [eo] at hK
    simp (disch := omega) only [ax_const, ax_iload, ax_lload, ax_aload, ax_istore, ax_astore, ax_iinc, ax_i2, ax_i2n, ax_l2, ax_lsh, ax_ii, ax_il, ax_li, ax_pop, ax_dup, ax_dup2, ax_if, ax_cmp, ax_acmp, ax_goto, ax_getI, ax_getR, ax_putI, ax_putR, ax_gets, ax_getsT, ax_aldI, ax_aldR, ax_astI, ax_astR, ax_alen, ax_ret, ax_aret, ax_vret, am_st, am_kl, List.getElem?_cons_zero, List.getElem?_cons_succ, List.set_cons_zero, List.set_cons_succ, Value.category, true_and, and_true, if_true, if_false, reduceCtorEq, Bool.false_eq_true, false_implies, forall_const, Option.some.injEq, exists_eq_left', exists_eq_left, Sum.inl.injEq, Sum.inr.injEq, Prod.mk.injEq, nI_toInt, nI_clamp, am_ix_nI, am_ix_0, am_ix_1, am_ix_2, am_ix_3, am_n0, am_n1, am_n2, am_n3, am_n4, am_t0, am_t1, am_t2, am_t3, am_t4, am_tm1, am_nS, am_nP, am_nM, Int.ofNat_lt, Int.ofNat_le, y1, y7, w2, x2, hne]
    refine fun _ => ⟨by omega, ?_⟩
    refine kX4_part_105 ?_
    simp (disch := omega) only [ax_const, ax_iload, ax_lload, ax_aload, ax_istore, ax_astore, ax_iinc, ax_i2, ax_i2n, ax_l2, ax_lsh, ax_ii, ax_il, ax_li, ax_pop, ax_dup, ax_dup2, ax_if, ax_cmp, ax_acmp, ax_goto, ax_getI, ax_getR, ax_putI, ax_putR, ax_gets, ax_getsT, ax_aldI, ax_aldR, ax_astI, ax_astR, ax_alen, ax_ret, ax_aret, ax_vret, am_st, am_kl, List.getElem?_cons_zero, List.getElem?_cons_succ, List.set_cons_zero, List.set_cons_succ, Value.category, true_and, and_true, if_true, if_false, reduceCtorEq, Bool.false_eq_true, false_implies, forall_const, Option.some.injEq, exists_eq_left', exists_eq_left, Sum.inl.injEq, Sum.inr.injEq, Prod.mk.injEq, nI_toInt, nI_clamp, am_ix_nI, am_ix_0, am_ix_1, am_ix_2, am_ix_3, am_n0, am_n1, am_n2, am_n3, am_n4, am_t0, am_t1, am_t2, am_t3, am_t4, am_tm1, am_nS, am_nP, am_nM, Int.ofNat_lt, Int.ofNat_le, am_sh_wi, am_sh_wr, am_r_wi, am_i_wr, am_tp_wi, am_tp_wr, am_us_wi, am_us_wr, am_i_wi, am_r_wr, y1, y7, w2, hg, n1, false_and, hne]
    refine ⟨by omega, fun _ => ?_⟩
    refine kX4_part_121 ?_
    simp (disch := omega) only [ax_const, ax_iload, ax_lload, ax_aload, ax_istore, ax_astore, ax_iinc, ax_i2, ax_i2n, ax_l2, ax_lsh, ax_ii, ax_il, ax_li, ax_pop, ax_dup, ax_dup2, ax_if, ax_cmp, ax_acmp, ax_goto, ax_getI, ax_getR, ax_putI, ax_putR, ax_gets, ax_getsT, ax_aldI, ax_aldR, ax_astI, ax_astR, ax_alen, ax_ret, ax_aret, ax_vret, am_st, am_kl, List.getElem?_cons_zero, List.getElem?_cons_succ, List.set_cons_zero, List.set_cons_succ, Value.category, true_and, and_true, if_true, if_false, reduceCtorEq, Bool.false_eq_true, false_implies, forall_const, Option.some.injEq, exists_eq_left', exists_eq_left, Sum.inl.injEq, Sum.inr.injEq, Prod.mk.injEq, nI_toInt, nI_clamp, am_ix_nI, am_ix_0, am_ix_1, am_ix_2, am_ix_3, am_n0, am_n1, am_n2, am_n3, am_n4, am_t0, am_t1, am_t2, am_t3, am_t4, am_tm1, am_nS, am_nP, am_nM, Int.ofNat_lt, Int.ofNat_le, am_sh_wi, am_sh_wr, am_r_wi, am_i_wr, am_tp_wi, am_tp_wr, am_us_wi, am_us_wr, am_i_wi, am_r_wr, y1]
    refine hK (am_wi (am_wi σ (e + 103) i (nI x)) e 6 (nI gr + 0)) _ _ rfl (hGO.add (by rw [exd]; exact x1) (fun j => ?_)) ?_ rfl ((am_fm.rf.wi (Or.inr rfl)).wi (Or.inl rfl)) ?_
    · rw [am_i_wi, if_neg (by omega), am_i_wi, hl, exd]
      simp
    · rw [am_i_wi, if_pos ⟨rfl, rfl⟩, Int32.add_zero]
    · rw [am_i_wi, if_neg (by omega), am_i_wi, if_neg (by omega)]
def xl_MK (σ : am_S) (e kd : Nat) (mk : Nat → Int32) (n : Nat) : Prop := kd ≠ 0 → ∀ q, q < n → am_i σ (e + 104) q = mk q
theorem xl_pt_loop {g : am_G} {l : Launch} {e S f s d tp us : Nat} {k : Nat → Nat} {ss : Nat → List (Nat × Int32)} {two top tg : Bool} {L1 L2 : List xr_E} {FL : List (Nat × Nat)} {val : xr_E → xr_E → Int32} {R : List Nat × Nat} {Q : Option Value → am_S → Prop} {σ0 : am_S} (hd : 3 ≤ d) (hV : k 4 ≠ 0 → xl_V 4 val f s two ss L1 L2) (hok : xl_ok two L1 L2 FL)
    (hQ : ∀ σ', xl_J g σ' e S k ss f s two top L1 L2 → am_fm (xl_P S e) σ0 σ' → xl_FL σ' e FL → xl_GO σ' e R.1 → am_i σ' e 6 = nI R.2 → Q none σ') :
    ∀ (n i : Nat) (GO : List Nat) (gr : Nat) (σ : am_S) (z : Option Value), n + i = FL.length → xl_pt (k 4) tg (xl_at val L1 L2 FL) n i GO gr = R → GO.length = i → gr ≤ i → xl_J g σ e S k ss f s two top L1 L2 → xl_FL σ e FL → xl_GO σ e GO → xl_MK σ e (k 4) (xl_at val L1 L2 FL) i → am_i σ e 6 = nI gr → am_fm (xl_P S e) σ0 σ → am_tp σ = tp → am_us σ = us →
      am_W g l mX4_part d (tp, us) Q 15 [some (.ref e), some (.int (if tg then 1 else 0)), some (.int (nI i)), z] [] σ := by
  intro n
  induction n with
  | zero =>
    intro i GO gr σ z hn hR hl hgr hJ hFL hGO hMK hg hf h1 h2
    have h40 := hFL.2.1
    rw [xl_pt] at hR
    subst hR
    obtain ⟨y1, y2, y3, y4, y5, y6, y7, y8, y9, y10, y11⟩ := hJ.2.1
    refine kX4_part_15 ?_
    simp (disch := omega) only [ax_const, ax_iload, ax_lload, ax_aload, ax_istore, ax_astore, ax_iinc, ax_i2, ax_i2n, ax_l2, ax_lsh, ax_ii, ax_il, ax_li, ax_pop, ax_dup, ax_dup2, ax_if, ax_cmp, ax_acmp, ax_goto, ax_getI, ax_getR, ax_putI, ax_putR, ax_gets, ax_getsT, ax_aldI, ax_aldR, ax_astI, ax_astR, ax_alen, ax_ret, ax_aret, ax_vret, am_st, am_kl, List.getElem?_cons_zero, List.getElem?_cons_succ, List.set_cons_zero, List.set_cons_succ, Value.category, true_and, and_true, if_true, if_false, reduceCtorEq, Bool.false_eq_true, false_implies, forall_const, Option.some.injEq, exists_eq_left', exists_eq_left, Sum.inl.injEq, Sum.inr.injEq, Prod.mk.injEq, nI_toInt, nI_clamp, am_ix_nI, am_ix_0, am_ix_1, am_ix_2, am_ix_3, am_n0, am_n1, am_n2, am_n3, am_n4, am_t0, am_t1, am_t2, am_t3, am_t4, am_tm1, am_nS, am_nP, am_nM, Int.ofNat_lt, Int.ofNat_le, y1, hFL.1]
    exact ⟨fun z => by omega, fun _ => ⟨h1, h2, hQ σ hJ hf hFL hGO hg⟩⟩
  | succ n ih =>
    intro i GO gr σ z hn hR hl hgr hJ hFL hGO hMK hg hf h1 h2
    have h40 := hFL.2.1
    have hse := hJ.2.2.2.2.2.2.2.2.2.2.2.2.2
    obtain ⟨y1, y2, y3, y4, y5, y6, y7, y8, y9, y10, y11⟩ := id hJ.2.1
    rw [xl_pt] at hR
    have hca : xs_ca S 4 = S + 6 := rfl
    have hcode := hJ.2.2.2.2.2.1 4 (by decide)
    rw [hca] at hcode
    have hkind := hcode.2.2.2.2.2.2.2.1
    have hk3 := hcode.2.2.2.2.2.2.2.2.2.2.1
    have hS9 : am_r σ S 9 = some (S + 6) := hJ.2.2.2.2.1.2.2.2.1
    have e0 : nI (k 4) = 0 ↔ k 4 = 0 := nI_inj (b := 0) (by omega) (by omega)
    -- what follows once a like one is known
    have main : ∀ (σ1 : am_S), xl_J g σ1 e S k ss f s two top L1 L2 → xl_FL σ1 e FL → xl_GO σ1 e GO → xl_MK σ1 e (k 4) (xl_at val L1 L2 FL) (i + 1) → am_i σ1 e 6 = nI gr → am_fm (xl_P S e) σ0 σ1 → am_tp σ1 = tp → am_us σ1 = us →
        am_W g l mX4_part d (tp, us) Q 82 [some (.ref e), some (.int (if tg then 1 else 0)), some (.int (nI i)), some (.int (xl_oi (xl_lk (k 4) tg (xl_at val L1 L2 FL) i)))] [] σ1 := by
      intro σ1 k1 k2 k3 k4 k5 k6 k7 k8
      refine xl_pt82 k1.2.1 (by omega) hl hgr k5 k3 (fun b hb => xl_lk_lt hb) (fun σ2 GO' gr' he m1 m2 m3 m4 m5 => ?_)
      have m4p : am_fm (xl_P S e) σ1 σ2 := m4.mono (fun b x => by unfold xl_P; omega)
      have hS2 : xs_S σ2 S := k1.2.2.2.2.1.fm m4 (by omega) (by omega) (by omega)
      have hJ2 := k1.up m4p hS2 (by rw [m3])
      have hFL2 : xl_FL σ2 e FL := by
        obtain ⟨f1, f2, f3⟩ := k2
        refine ⟨by rw [m5]; exact f1, f2, fun q a b hq => ?_⟩
        rw [(m4.2.2.2 (e + 101) (by omega)).1, (m4.2.2.2 (e + 102) (by omega)).1]
        exact f3 q a b hq
      have hMK2 : xl_MK σ2 e (k 4) (xl_at val L1 L2 FL) (i + 1) := fun q0 q q1 => by rw [(m4.2.2.2 (e + 104) (by omega)).1]; exact k4 q0 q q1
      cases ho : xl_lk (k 4) tg (xl_at val L1 L2 FL) i with
      | none =>
        rw [ho] at hR he
        dsimp only at hR he
        cases he
        exact ih (i + 1) _ _ σ2 _ (by omega) hR (by simp; omega) (by omega) hJ2 hFL2 m1 hMK2 m2 (k6.tr m4p) (m4.2.1.trans k7) (m4.2.2.1.trans k8)
      | some b =>
        rw [ho] at hR he
        dsimp only at hR he
        cases he
        exact ih (i + 1) _ _ σ2 _ (by omega) hR (by simp; omega) (by omega) hJ2 hFL2 m1 hMK2 m2 (k6.tr m4p) (m4.2.1.trans k7) (m4.2.2.1.trans k8)
    refine kX4_part_15 ?_
    simp (disch := omega) only [ax_const, ax_iload, ax_lload, ax_aload, ax_istore, ax_astore, ax_iinc, ax_i2, ax_i2n, ax_l2, ax_lsh, ax_ii, ax_il, ax_li, ax_pop, ax_dup, ax_dup2, ax_if, ax_cmp, ax_acmp, ax_goto, ax_getI, ax_getR, ax_putI, ax_putR, ax_gets, ax_getsT, ax_aldI, ax_aldR, ax_astI, ax_astR, ax_alen, ax_ret, ax_aret, ax_vret, am_st, am_kl, List.getElem?_cons_zero, List.getElem?_cons_succ, List.set_cons_zero, List.set_cons_succ, Value.category, true_and, and_true, if_true, if_false, reduceCtorEq, Bool.false_eq_true, false_implies, forall_const, Option.some.injEq, exists_eq_left', exists_eq_left, Sum.inl.injEq, Sum.inr.injEq, Prod.mk.injEq, nI_toInt, nI_clamp, am_ix_nI, am_ix_0, am_ix_1, am_ix_2, am_ix_3, am_n0, am_n1, am_n2, am_n3, am_n4, am_t0, am_t1, am_t2, am_t3, am_t4, am_tm1, am_nS, am_nP, am_nM, Int.ofNat_lt, Int.ofNat_le, y1, y4, hFL.1, hJ.2.2.2.2.1.1, hS9, hcode.1, hkind, e0]
    refine ⟨fun _ => ⟨fun c0 => ?_, fun c0 => ?_⟩, fun z => by omega⟩
    · have elk : xl_lk (k 4) tg (xl_at val L1 L2 FL) i = if tg = true ∧ 0 < i then some 0 else none := by unfold xl_lk; rw [if_pos c0]
      have hMK1 : xl_MK σ e (k 4) (xl_at val L1 L2 FL) (i + 1) := fun q0 => absurd c0 q0
      have hm := main σ hJ hFL hGO hMK1 hg hf h1 h2
      rw [elk] at hm
      cases htg : tg with
      | false =>
        rw [htg, if_neg (by simp)] at hm
        rw [if_neg (show ¬ (false = true) by decide)]
        exact ⟨fun _ => hm, fun z => absurd rfl z⟩
      | true =>
        rw [htg, if_pos (show true = true from rfl)] at hm
        rw [if_pos rfl]
        refine ⟨fun z => absurd z (by decide), fun _ => ⟨fun q => ?_, fun q => ?_⟩⟩
        · rw [if_pos (show true = true ∧ 0 < i from ⟨rfl, by omega⟩)] at hm
          exact hm
        · rw [if_neg (show ¬ (true = true ∧ 0 < i) from fun w => q (by omega))] at hm
          exact hm
    · have elk : xl_lk (k 4) tg (xl_at val L1 L2 FL) i = xl_fm (xl_at val L1 L2 FL) i i 0 := by unfold xl_lk; rw [if_neg c0]
      rw [elk] at main
      obtain ⟨p, hp⟩ : ∃ p, FL[i]? = some p := ⟨_, List.getElem?_eq_getElem (by omega)⟩
      obtain ⟨pi, pj⟩ := p
      obtain ⟨o1, o2, o3⟩ := hok _ _ _ hp
      have eat : xl_at val L1 L2 FL i = val (L1.getD pi xr_0) (L2.getD pj xr_0) := by
        unfold xl_at
        rw [List.getD_eq_getElem?_getD (l := FL), hp]
        rfl
      refine am_callK [.ref e, .int (nI i)] [] (d' := 2) (lim' := (am_tp σ, am_us σ)) rfl (by omega) (by rw [h1]; exact Nat.le_refl _) (by rw [h2]; exact Nat.le_refl _) rfl (by decide) (am_recv y1) ?_
      refine c_lpfound hJ hFL hok hp (fun σ1 hJ1 hen hf1 t1 u1 => ?_)
      have t1 := t1.trans h1
      have u1 := u1.trans h2
      obtain ⟨z1, z2, z3, z4, z5, z6, z7, z8, z9, z10, z11⟩ := id hJ1.2.1
      have hS91 : am_r σ1 S 9 = some (S + 6) := hJ1.2.2.2.2.1.2.2.2.1
      have hcode1 := hJ1.2.2.2.2.2.1 4 (by decide)
      rw [hca] at hcode1
      simp (disch := omega) only [ax_const, ax_iload, ax_lload, ax_aload, ax_istore, ax_astore, ax_iinc, ax_i2, ax_i2n, ax_l2, ax_lsh, ax_ii, ax_il, ax_li, ax_pop, ax_dup, ax_dup2, ax_if, ax_cmp, ax_acmp, ax_goto, ax_getI, ax_getR, ax_putI, ax_putR, ax_gets, ax_getsT, ax_aldI, ax_aldR, ax_astI, ax_astR, ax_alen, ax_ret, ax_aret, ax_vret, am_st, am_kl, List.getElem?_cons_zero, List.getElem?_cons_succ, List.set_cons_zero, List.set_cons_succ, Value.category, true_and, and_true, if_true, if_false, reduceCtorEq, Bool.false_eq_true, false_implies, forall_const, Option.some.injEq, exists_eq_left', exists_eq_left, Sum.inl.injEq, Sum.inr.injEq, Prod.mk.injEq, nI_toInt, nI_clamp, am_ix_nI, am_ix_0, am_ix_1, am_ix_2, am_ix_3, am_n0, am_n1, am_n2, am_n3, am_n4, am_t0, am_t1, am_t2, am_t3, am_t4, am_tm1, am_nS, am_nP, am_nM, Int.ofNat_lt, Int.ofNat_le, Option.toList_some, Option.toList_none, List.cons_append, List.nil_append, List.append_nil, z1, z4, z8, hJ1.2.2.2.2.1.1, hS91]
      refine am_callK [.ref S, .ref (S + 6)] [.int (nI i), .ref (e + 104)] (d' := 2) (lim' := (am_tp σ1, am_us σ1)) rfl (by omega) (by rw [t1]; exact Nat.le_refl _) (by rw [u1]; exact Nat.le_refl _) rfl (Nat.le_of_ble_eq_true rfl) (am_recv hJ1.2.2.2.2.1.1) ?_
      have hB := hJ1.2.2.2.2.2.2.2.2.2.2.2.2.1
      refine c_swork hJ1.1 hJ1.2.2.2.2.1 (by omega) hcode1 (hV c0 pi pj o1 o2 _ hen) (fun σ2 hf2 t2 u2 => ?_)
      have t2 := t2.trans t1
      have u2 := u2.trans u1
      have hJ2 := xl_Jwork (c := 4) hJ1 (by decide) hf2
      obtain ⟨z1, z2, z3, z4, z5, z6, z7, z8, z9, z10, z11⟩ := id hJ2.2.1
      have w3 : am_sh σ2 (e + 104) = some (.inr (0, 40)) := z11 3 (by decide)
      rw [← eat]
      simp (disch := omega) only [ax_const, ax_iload, ax_lload, ax_aload, ax_istore, ax_astore, ax_iinc, ax_i2, ax_i2n, ax_l2, ax_lsh, ax_ii, ax_il, ax_li, ax_pop, ax_dup, ax_dup2, ax_if, ax_cmp, ax_acmp, ax_goto, ax_getI, ax_getR, ax_putI, ax_putR, ax_gets, ax_getsT, ax_aldI, ax_aldR, ax_astI, ax_astR, ax_alen, ax_ret, ax_aret, ax_vret, am_st, am_kl, List.getElem?_cons_zero, List.getElem?_cons_succ, List.set_cons_zero, List.set_cons_succ, Value.category, true_and, and_true, if_true, if_false, reduceCtorEq, Bool.false_eq_true, false_implies, forall_const, Option.some.injEq, exists_eq_left', exists_eq_left, Sum.inl.injEq, Sum.inr.injEq, Prod.mk.injEq, nI_toInt, nI_clamp, am_ix_nI, am_ix_0, am_ix_1, am_ix_2, am_ix_3, am_n0, am_n1, am_n2, am_n3, am_n4, am_t0, am_t1, am_t2, am_t3, am_t4, am_tm1, am_nS, am_nP, am_nM, Int.ofNat_lt, Int.ofNat_le, Option.toList_some, Option.toList_none, List.cons_append, List.nil_append, List.append_nil, am_sh_wi, am_sh_wr, am_r_wi, am_i_wr, am_tp_wi, am_tp_wr, am_us_wi, am_us_wr, am_i_wi, am_r_wr, w3, z1]
      have f012 : am_fm (fun b => b = S + 15 ∨ b = S + 6 + 3) σ σ2 := (hf1.mono (fun b x => Or.inl x)).tr (hf2.mono (fun b x => Or.inr x))
      have fw : am_fm (fun b => b = S + 15 ∨ b = S + 6 + 3 ∨ b = e + 104) σ (am_wi σ2 (e + 104) i (xl_at val L1 L2 FL i)) := am_fm.wi (f012.mono (fun b x => by omega)) (Or.inr (Or.inr rfl))
      have fw2 : am_fm (xl_P S e) σ2 (am_wi σ2 (e + 104) i (xl_at val L1 L2 FL i)) := am_fm.rf.wi (Or.inr (Or.inr ⟨by omega, by omega⟩))
      have hJ3 := hJ2.up fw2 hJ2.2.2.2.2.1 rfl
      have hMK3 : ∀ q, q ≤ i → am_i (am_wi σ2 (e + 104) i (xl_at val L1 L2 FL i)) (e + 104) q = xl_at val L1 L2 FL q := by
        intro q hq
        rw [am_i_wi]
        by_cases c : q = i
        · rw [if_pos ⟨rfl, c⟩, c]
        · rw [if_neg (fun w => c w.2), (f012.2.2.2 (e + 104) (by omega)).1]
          exact hMK c0 q (by omega)
      refine ⟨by omega, ?_⟩
      refine am_callK [.ref e, .int (nI i)] [] (d' := 0) (lim' := (am_tp σ2, am_us σ2)) rfl (by omega) (by rw [t2]; exact Nat.le_refl _) (by rw [u2]; exact Nat.le_refl _) rfl (by decide) (am_recv hJ3.2.1.1) ?_
      refine c_lfirst (σ := am_wi σ2 (e + 104) i (xl_at val L1 L2 FL i)) hJ3.2.1 (by omega) hMK3 (fun _ _ => ?_)
      simp (disch := omega) only [ax_const, ax_iload, ax_lload, ax_aload, ax_istore, ax_astore, ax_iinc, ax_i2, ax_i2n, ax_l2, ax_lsh, ax_ii, ax_il, ax_li, ax_pop, ax_dup, ax_dup2, ax_if, ax_cmp, ax_acmp, ax_goto, ax_getI, ax_getR, ax_putI, ax_putR, ax_gets, ax_getsT, ax_aldI, ax_aldR, ax_astI, ax_astR, ax_alen, ax_ret, ax_aret, ax_vret, am_st, am_kl, List.getElem?_cons_zero, List.getElem?_cons_succ, List.set_cons_zero, List.set_cons_succ, Value.category, true_and, and_true, if_true, if_false, reduceCtorEq, Bool.false_eq_true, false_implies, forall_const, Option.some.injEq, exists_eq_left', exists_eq_left, Sum.inl.injEq, Sum.inr.injEq, Prod.mk.injEq, nI_toInt, nI_clamp, am_ix_nI, am_ix_0, am_ix_1, am_ix_2, am_ix_3, am_n0, am_n1, am_n2, am_n3, am_n4, am_t0, am_t1, am_t2, am_t3, am_t4, am_tm1, am_nS, am_nP, am_nM, Int.ofNat_lt, Int.ofNat_le, Option.toList_some, Option.toList_none, List.cons_append, List.nil_append, List.append_nil]
      refine main _ hJ3 (hFL.fm fw (by omega) (by omega) (by omega)) (fun q x hq => by rw [(fw.2.2.2 (e + 103) (by omega)).1]; exact hGO q x hq) (fun _ q hq => hMK3 q (by omega)) (by rw [(fw.2.2.2 e (by omega)).1]; exact hg) (hf.tr (fw.mono (fun b x => by unfold xl_P; omega))) t2 u2
