/-! split: sign, letter, digit -/
theorem c_ysg {g : am_G} {l : Launch} {σ : am_S} {c : Nat} {Q : Option Value → am_S → Prop} (hc : c < 128) (hQ : Q (some (.int (yb (ysg c)))) σ) : am_C g l mX10_sign 0 (am_tp σ, am_us σ) [.int (nI c)] σ Q := by
  have y40 : (40 : Int32) = nI 40 := rfl
  have y46 : (46 : Int32) = nI 46 := rfl
  have y61 : (61 : Int32) = nI 61 := rfl
  have y60 : (60 : Int32) = nI 60 := rfl
  have y62 : (62 : Int32) = nI 62 := rfl
  have y91 : (91 : Int32) = nI 91 := rfl
  have y93 : (93 : Int32) = nI 93 := rfl
  have yes : ysg c = true → Q (some (.int 1)) σ := fun e => by rw [e] at hQ; exact hQ
  have no : ysg c = false → Q (some (.int 0)) σ := fun e => by rw [e] at hQ; exact hQ
  have p12 : (40 ≤ c → ¬ c ≤ 46) → am_W g l mX10_sign 0 (am_tp σ, am_us σ) Q 12 [some (.int (nI c))] [] σ := by
    intro h
    refine kX10_sign_12 ?_
    simp (disch := omega) only [ax_const, ax_iload, ax_lload, ax_aload, ax_istore, ax_astore, ax_iinc, ax_i2, ax_i2n, ax_l2, ax_lsh, ax_ii, ax_il, ax_li, ax_pop, ax_dup, ax_dup2, ax_if, ax_cmp, ax_acmp, ax_goto, ax_getI, ax_getR, ax_putI, ax_putR, ax_gets, ax_getsT, ax_aldI, ax_aldR, ax_astI, ax_astR, ax_alen, ax_ret, ax_aret, ax_vret, am_st, am_kl, List.getElem?_cons_zero, List.getElem?_cons_succ, List.set_cons_zero, List.set_cons_succ, Value.category, true_and, and_true, if_true, if_false, reduceCtorEq, Bool.false_eq_true, false_implies, forall_const, Option.some.injEq, exists_eq_left', exists_eq_left, Sum.inl.injEq, Sum.inr.injEq, Prod.mk.injEq, y61, y60, y62, y91, y93, yl_eq]
    refine ⟨fun e => ⟨Or.inr trivial, yes (by rw [e]; decide)⟩, fun e => ⟨fun e2 => ⟨Or.inr trivial, yes (by rw [e2]; decide)⟩, fun e2 => ⟨fun e3 => ⟨Or.inr trivial, yes (by rw [e3]; decide)⟩, fun e3 => ⟨fun e4 => ⟨Or.inr trivial, yes (by rw [e4]; decide)⟩, fun e4 => ⟨fun e5 => ⟨Or.inr trivial, yes (by rw [e5]; decide)⟩, fun e5 => ⟨Or.inl trivial, no ?_⟩⟩⟩⟩⟩⟩
    unfold ysg
    rw [decide_eq_false e, decide_eq_false e2, decide_eq_false e3, decide_eq_false e4, decide_eq_false e5]
    by_cases q : 40 ≤ c
    · rw [decide_eq_false (h q)]; simp
    · rw [decide_eq_false q]; simp
  refine am_C.go [some (.int (nI c))] (by decide +kernel) (Nat.le_of_ble_eq_true rfl) rfl (kX10_sign_0 ?_)
  simp (disch := omega) only [ax_const, ax_iload, ax_lload, ax_aload, ax_istore, ax_astore, ax_iinc, ax_i2, ax_i2n, ax_l2, ax_lsh, ax_ii, ax_il, ax_li, ax_pop, ax_dup, ax_dup2, ax_if, ax_cmp, ax_acmp, ax_goto, ax_getI, ax_getR, ax_putI, ax_putR, ax_gets, ax_getsT, ax_aldI, ax_aldR, ax_astI, ax_astR, ax_alen, ax_ret, ax_aret, ax_vret, am_st, am_kl, List.getElem?_cons_zero, List.getElem?_cons_succ, List.set_cons_zero, List.set_cons_succ, Value.category, true_and, and_true, if_true, if_false, reduceCtorEq, Bool.false_eq_true, false_implies, forall_const, Option.some.injEq, exists_eq_left', exists_eq_left, Sum.inl.injEq, Sum.inr.injEq, Prod.mk.injEq, y40, y46, yl_lt]
  refine ⟨fun z => p12 (fun q => by omega), fun z => ⟨fun z2 => p12 (fun q => by omega), fun z2 => ⟨Or.inr trivial, yes ?_⟩⟩⟩
  unfold ysg
  rw [decide_eq_true (show 40 ≤ c by omega), decide_eq_true (show c ≤ 46 by omega)]
  rfl
theorem c_ylet {g : am_G} {l : Launch} {σ : am_S} {c : Nat} {Q : Option Value → am_S → Prop} (hc : c < 128) (hQ1 : xn_kd c = 1 → Q (some (.int 1)) σ) (hQ0 : xn_kd c ≠ 1 → Q (some (.int 0)) σ) : am_C g l mX10_letter 0 (am_tp σ, am_us σ) [.int (nI c)] σ Q := by
  have y97 : (97 : Int32) = nI 97 := rfl
  have y122 : (122 : Int32) = nI 122 := rfl
  have no : ¬ (97 ≤ c ∧ c ≤ 122) → Q (some (.int 0)) σ := fun h => hQ0 (fun e => by
    unfold xn_kd at e
    rw [if_neg h] at e
    split at e <;> omega)
  refine am_C.go [some (.int (nI c))] (by decide +kernel) (Nat.le_of_ble_eq_true rfl) rfl (kX10_letter_0 ?_)
  simp (disch := omega) only [ax_const, ax_iload, ax_lload, ax_aload, ax_istore, ax_astore, ax_iinc, ax_i2, ax_i2n, ax_l2, ax_lsh, ax_ii, ax_il, ax_li, ax_pop, ax_dup, ax_dup2, ax_if, ax_cmp, ax_acmp, ax_goto, ax_getI, ax_getR, ax_putI, ax_putR, ax_gets, ax_getsT, ax_aldI, ax_aldR, ax_astI, ax_astR, ax_alen, ax_ret, ax_aret, ax_vret, am_st, am_kl, List.getElem?_cons_zero, List.getElem?_cons_succ, List.set_cons_zero, List.set_cons_succ, Value.category, true_and, and_true, if_true, if_false, reduceCtorEq, Bool.false_eq_true, false_implies, forall_const, Option.some.injEq, exists_eq_left', exists_eq_left, Sum.inl.injEq, Sum.inr.injEq, Prod.mk.injEq, y97, y122, yl_lt]
  refine ⟨fun z => ⟨Or.inl trivial, no (by omega)⟩, fun z => ⟨fun z2 => ⟨Or.inl trivial, no (by omega)⟩, fun z2 => ⟨Or.inr trivial, hQ1 ?_⟩⟩⟩
  unfold xn_kd
  rw [if_pos (by omega)]
theorem c_ydig {g : am_G} {l : Launch} {σ : am_S} {c : Nat} {Q : Option Value → am_S → Prop} (hc : c < 128) (hQ1 : xn_kd c = 2 → Q (some (.int 1)) σ) (hQ0 : xn_kd c ≠ 2 → Q (some (.int 0)) σ) : am_C g l mX10_digit 0 (am_tp σ, am_us σ) [.int (nI c)] σ Q := by
  have y48 : (48 : Int32) = nI 48 := rfl
  have y57 : (57 : Int32) = nI 57 := rfl
  have no : ¬ (48 ≤ c ∧ c ≤ 57) → Q (some (.int 0)) σ := fun h => hQ0 (fun e => by
    unfold xn_kd at e
    rw [if_neg h] at e
    split at e <;> omega)
  refine am_C.go [some (.int (nI c))] (by decide +kernel) (Nat.le_of_ble_eq_true rfl) rfl (kX10_digit_0 ?_)
  simp (disch := omega) only [ax_const, ax_iload, ax_lload, ax_aload, ax_istore, ax_astore, ax_iinc, ax_i2, ax_i2n, ax_l2, ax_lsh, ax_ii, ax_il, ax_li, ax_pop, ax_dup, ax_dup2, ax_if, ax_cmp, ax_acmp, ax_goto, ax_getI, ax_getR, ax_putI, ax_putR, ax_gets, ax_getsT, ax_aldI, ax_aldR, ax_astI, ax_astR, ax_alen, ax_ret, ax_aret, ax_vret, am_st, am_kl, List.getElem?_cons_zero, List.getElem?_cons_succ, List.set_cons_zero, List.set_cons_succ, Value.category, true_and, and_true, if_true, if_false, reduceCtorEq, Bool.false_eq_true, false_implies, forall_const, Option.some.injEq, exists_eq_left', exists_eq_left, Sum.inl.injEq, Sum.inr.injEq, Prod.mk.injEq, y48, y57, yl_lt]
  refine ⟨fun z => ⟨Or.inl trivial, no (by omega)⟩, fun z => ⟨fun z2 => ⟨Or.inl trivial, no (by omega)⟩, fun z2 => ⟨Or.inr trivial, hQ1 ?_⟩⟩⟩
  unfold xn_kd
  rw [if_neg (by omega), if_pos (by omega)]
/-- a session's draft lies in the reference -/
def ysD (σ : am_S) (m i : Nat) (dr : List Nat) : Prop := i < 4 ∧ dr.length ≤ 80 ∧ am_i σ (m + 9) i = nI dr.length ∧ ∀ j c, dr[j]? = some c → c < 128 ∧ am_i σ (m + 8) (80 * i + j) = nI c
theorem ysD.get {σ : am_S} {m i : Nat} {dr pre r : List Nat} {c : Nat} (h : ysD σ m i dr) (hd : dr = pre ++ c :: r) : c < 128 ∧ am_i σ (m + 8) (80 * i + pre.length) = nI c ∧ dr.length = pre.length + (r.length + 1) ∧ 80 * i + pre.length < 320 := by
  have h0 : dr[pre.length]? = some c := by rw [hd]; simp
  have hl : dr.length = pre.length + (r.length + 1) := by rw [hd, List.length_append, List.length_cons]
  have := h.1
  have := h.2.1
  exact ⟨(h.2.2.2 _ _ h0).1, (h.2.2.2 _ _ h0).2, hl, by omega⟩
/-- a token's worth as far as it is read -/
def ysv (κ : Nat) (w : List Nat) : Int32 := if κ = 1 then (if w.length ≤ 6 then yw_c w else -1) else (if w.length ≤ 9 then yd w else 0)
theorem ysp_104 {g : am_G} {l : Launch} {σ : am_S} {m i d κ : Nat} {c4 : Int32} {k : Int32} {dr pre w : List Nat} {Q : Option Value → am_S → Prop} (hH : ym_H σ m) (hD : ysD σ m i dr) (hκ : (κ = 1 ∧ k = 1) ∨ (κ = 2 ∧ k = 3)) (hd : 1 ≤ d)
    (hQ : am_W g l mX10_split d (am_tp σ, am_us σ) Q 226 [some (.ref m), some (.int (nI i)), some (.int (nI (80 * i + pre.length))), some (.int (nI (80 * i + dr.length))), some (.int c4), some (.int (nI w.length)), some (.int (ysv κ w)), some (.int k)] [] σ) :
    ∀ (T done : List Nat), dr = pre ++ done ++ T → w = done ++ T.takeWhile (fun x => xn_kd x == κ) → am_W g l mX10_split d (am_tp σ, am_us σ) Q 104 [some (.ref m), some (.int (nI i)), some (.int (nI (80 * i + pre.length))), some (.int (nI (80 * i + dr.length))), some (.int c4), some (.int (nI done.length)), some (.int (ysv κ done)), some (.int k)] [] σ := by
  have hi := hD.1
  have hl80 := hD.2.1
  intro T
  induction T with
  | nil =>
    intro done hdr hw
    have hl : dr.length = pre.length + done.length := by rw [hdr]; simp
    have hw : w = done := by rw [hw]; simp
    subst hw
    refine kX10_split_104 ?_
    simp (disch := omega) only [ax_const, ax_iload, ax_lload, ax_aload, ax_istore, ax_astore, ax_iinc, ax_i2, ax_i2n, ax_l2, ax_lsh, ax_ii, ax_il, ax_li, ax_pop, ax_dup, ax_dup2, ax_if, ax_cmp, ax_acmp, ax_goto, ax_getI, ax_getR, ax_putI, ax_putR, ax_gets, ax_getsT, ax_aldI, ax_aldR, ax_astI, ax_astR, ax_alen, ax_ret, ax_aret, ax_vret, am_st, am_kl, List.getElem?_cons_zero, List.getElem?_cons_succ, List.set_cons_zero, List.set_cons_succ, Value.category, true_and, and_true, if_true, if_false, reduceCtorEq, Bool.false_eq_true, false_implies, forall_const, Option.some.injEq, exists_eq_left', exists_eq_left, Sum.inl.injEq, Sum.inr.injEq, Prod.mk.injEq, nI_add, yl_lt]
    exact ⟨fun z => by omega, fun _ => hQ⟩
  | cons x T ih =>
    intro done hdr hw
    obtain ⟨x1, x2, x3, x4⟩ := hD.get (pre := pre ++ done) (c := x) (r := T) hdr
    rw [List.length_append] at x2 x3 x4
    have e3 : 80 * i + pre.length + done.length = 80 * i + (pre.length + done.length) := by omega
    have stop : xn_kd x ≠ κ → am_W g l mX10_split d (am_tp σ, am_us σ) Q 226 [some (.ref m), some (.int (nI i)), some (.int (nI (80 * i + pre.length))), some (.int (nI (80 * i + dr.length))), some (.int c4), some (.int (nI done.length)), some (.int (ysv κ done)), some (.int k)] [] σ := by
      intro c
      have hw : w = done := by rw [hw, List.takeWhile_cons, if_neg (by simpa using c), List.append_nil]
      rw [hw] at hQ
      exact hQ
    have y9 : (9 : Int32) = nI 9 := rfl
    have y6 : (6 : Int32) = nI 6 := rfl
    have o31 : ¬ (1 : Int32) = 3 := by decide
    have o33 : (3 : Int32) = 1 ↔ False := ⟨fun e => absurd e (by decide), False.elim⟩
    have o1 : ¬ (1 : Int32) = 0 := by decide
    have go : xn_kd x = κ → am_W g l mX10_split d (am_tp σ, am_us σ) Q 151 [some (.ref m), some (.int (nI i)), some (.int (nI (80 * i + pre.length))), some (.int (nI (80 * i + dr.length))), some (.int c4), some (.int (nI done.length)), some (.int (ysv κ done)), some (.int k)] [] σ := by
      intro c
      have nx := ih (done ++ [x]) (by rw [hdr]; simp) (by rw [hw, List.takeWhile_cons, if_pos (by simpa using c)]; simp)
      rw [List.length_append, List.length_cons, List.length_nil] at nx
      refine kX10_split_151 ?_
      rcases hκ with ⟨rfl, rfl⟩ | ⟨rfl, rfl⟩
      · simp (disch := omega) only [ax_const, ax_iload, ax_lload, ax_aload, ax_istore, ax_astore, ax_iinc, ax_i2, ax_i2n, ax_l2, ax_lsh, ax_ii, ax_il, ax_li, ax_pop, ax_dup, ax_dup2, ax_if, ax_cmp, ax_acmp, ax_goto, ax_getI, ax_getR, ax_putI, ax_putR, ax_gets, ax_getsT, ax_aldI, ax_aldR, ax_astI, ax_astR, ax_alen, ax_ret, ax_aret, ax_vret, am_st, am_kl, List.getElem?_cons_zero, List.getElem?_cons_succ, List.set_cons_zero, List.set_cons_succ, Value.category, true_and, and_true, if_true, if_false, reduceCtorEq, Bool.false_eq_true, false_implies, forall_const, Option.some.injEq, exists_eq_left', exists_eq_left, Sum.inl.injEq, Sum.inr.injEq, Prod.mk.injEq, nI_toInt, nI_clamp, am_ix_nI, am_ix_0, am_ix_1, am_ix_2, am_ix_3, am_n0, am_n1, am_n2, am_n3, am_n4, am_t0, am_t1, am_t2, am_t3, am_t4, am_tm1, am_nS, am_nP, am_nM, Int.ofNat_lt, Int.ofNat_le, o31, hH.1, hH.r7, hH.s7, e3, nI_add, x2, y6, yl_lt]
        refine fun _ => ⟨fun z => ⟨x4, ?_⟩, fun z => ?_⟩
        · have e : ysv 1 (done ++ [x]) = 32 * ysv 1 done + nI x - 96 := by
            unfold ysv
            rw [if_pos rfl, if_pos rfl, if_pos (by simp; omega), if_pos (by omega), yw_c_app]
          rw [e] at nx
          exact nx
        · have e : ysv 1 (done ++ [x]) = -1 := by
            unfold ysv
            rw [if_pos rfl, if_neg (by simp; omega)]
          rw [e] at nx
          exact nx
      · simp (disch := omega) only [ax_const, ax_iload, ax_lload, ax_aload, ax_istore, ax_astore, ax_iinc, ax_i2, ax_i2n, ax_l2, ax_lsh, ax_ii, ax_il, ax_li, ax_pop, ax_dup, ax_dup2, ax_if, ax_cmp, ax_acmp, ax_goto, ax_getI, ax_getR, ax_putI, ax_putR, ax_gets, ax_getsT, ax_aldI, ax_aldR, ax_astI, ax_astR, ax_alen, ax_ret, ax_aret, ax_vret, am_st, am_kl, List.getElem?_cons_zero, List.getElem?_cons_succ, List.set_cons_zero, List.set_cons_succ, Value.category, true_and, and_true, if_true, if_false, reduceCtorEq, Bool.false_eq_true, false_implies, forall_const, Option.some.injEq, exists_eq_left', exists_eq_left, Sum.inl.injEq, Sum.inr.injEq, Prod.mk.injEq, nI_toInt, nI_clamp, am_ix_nI, am_ix_0, am_ix_1, am_ix_2, am_ix_3, am_n0, am_n1, am_n2, am_n3, am_n4, am_t0, am_t1, am_t2, am_t3, am_t4, am_tm1, am_nS, am_nP, am_nM, Int.ofNat_lt, Int.ofNat_le, hH.1, hH.r7, hH.s7, e3, nI_add, x2, y9, yl_lt]
        refine ⟨⟨fun z => ⟨x4, ?_⟩, fun z => ?_⟩, fun z => absurd trivial z⟩
        · have e : ysv 2 (done ++ [x]) = 10 * ysv 2 done + nI x - 48 := by
            unfold ysv
            rw [if_neg (show ¬ (2 : Nat) = 1 by decide), if_neg (show ¬ (2 : Nat) = 1 by decide), if_pos (by simp; omega), if_pos (by omega), yd_app]
          rw [e] at nx
          exact nx
        · have e : ysv 2 (done ++ [x]) = 0 := by
            unfold ysv
            rw [if_neg (show ¬ (2 : Nat) = 1 by decide), if_neg (by simp; omega)]
          rw [e] at nx
          exact nx
    refine kX10_split_104 ?_
    rcases hκ with ⟨rfl, rfl⟩ | ⟨rfl, rfl⟩
    · simp (disch := omega) only [ax_const, ax_iload, ax_lload, ax_aload, ax_istore, ax_astore, ax_iinc, ax_i2, ax_i2n, ax_l2, ax_lsh, ax_ii, ax_il, ax_li, ax_pop, ax_dup, ax_dup2, ax_if, ax_cmp, ax_acmp, ax_goto, ax_getI, ax_getR, ax_putI, ax_putR, ax_gets, ax_getsT, ax_aldI, ax_aldR, ax_astI, ax_astR, ax_alen, ax_ret, ax_aret, ax_vret, am_st, am_kl, List.getElem?_cons_zero, List.getElem?_cons_succ, List.set_cons_zero, List.set_cons_succ, Value.category, true_and, and_true, if_true, if_false, reduceCtorEq, Bool.false_eq_true, false_implies, forall_const, Option.some.injEq, exists_eq_left', exists_eq_left, Sum.inl.injEq, Sum.inr.injEq, Prod.mk.injEq, nI_add, yl_lt, hH.1, hH.r7, hH.s7, nI_toInt, nI_clamp, am_ix_nI, am_ix_0, am_ix_1, am_ix_2, am_ix_3, am_n0, am_n1, am_n2, am_n3, am_n4, am_t0, am_t1, am_t2, am_t3, am_t4, am_tm1, am_nS, am_nP, am_nM, Int.ofNat_lt, Int.ofNat_le, e3, x2]
      refine ⟨fun _ => ⟨⟨x4, ?_⟩, fun z => absurd trivial z⟩, fun z => by omega⟩
      refine am_callK [.int (nI x)] [] (d' := 0) (lim' := (am_tp σ, am_us σ)) rfl (by omega) (Nat.le_refl _) (Nat.le_refl _) rfl (Nat.le_of_ble_eq_true rfl) am_stat ?_
      refine c_ylet x1 (fun c _ _ => ?_) (fun c _ _ => ?_)
      · simp (disch := omega) only [ax_const, ax_iload, ax_lload, ax_aload, ax_istore, ax_astore, ax_iinc, ax_i2, ax_i2n, ax_l2, ax_lsh, ax_ii, ax_il, ax_li, ax_pop, ax_dup, ax_dup2, ax_if, ax_cmp, ax_acmp, ax_goto, ax_getI, ax_getR, ax_putI, ax_putR, ax_gets, ax_getsT, ax_aldI, ax_aldR, ax_astI, ax_astR, ax_alen, ax_ret, ax_aret, ax_vret, am_st, am_kl, List.getElem?_cons_zero, List.getElem?_cons_succ, List.set_cons_zero, List.set_cons_succ, Value.category, true_and, and_true, if_true, if_false, reduceCtorEq, Bool.false_eq_true, false_implies, forall_const, Option.some.injEq, exists_eq_left', exists_eq_left, Sum.inl.injEq, Sum.inr.injEq, Prod.mk.injEq, Option.toList_some, Option.toList_none, List.cons_append, List.nil_append, List.append_nil, o1]
        exact fun _ => go c
      · simp (disch := omega) only [ax_const, ax_iload, ax_lload, ax_aload, ax_istore, ax_astore, ax_iinc, ax_i2, ax_i2n, ax_l2, ax_lsh, ax_ii, ax_il, ax_li, ax_pop, ax_dup, ax_dup2, ax_if, ax_cmp, ax_acmp, ax_goto, ax_getI, ax_getR, ax_putI, ax_putR, ax_gets, ax_getsT, ax_aldI, ax_aldR, ax_astI, ax_astR, ax_alen, ax_ret, ax_aret, ax_vret, am_st, am_kl, List.getElem?_cons_zero, List.getElem?_cons_succ, List.set_cons_zero, List.set_cons_succ, Value.category, true_and, and_true, if_true, if_false, reduceCtorEq, Bool.false_eq_true, false_implies, forall_const, Option.some.injEq, exists_eq_left', exists_eq_left, Sum.inl.injEq, Sum.inr.injEq, Prod.mk.injEq, Option.toList_some, Option.toList_none, List.cons_append, List.nil_append, List.append_nil]
        exact ⟨stop c, fun z => absurd trivial z⟩
    · simp (disch := omega) only [ax_const, ax_iload, ax_lload, ax_aload, ax_istore, ax_astore, ax_iinc, ax_i2, ax_i2n, ax_l2, ax_lsh, ax_ii, ax_il, ax_li, ax_pop, ax_dup, ax_dup2, ax_if, ax_cmp, ax_acmp, ax_goto, ax_getI, ax_getR, ax_putI, ax_putR, ax_gets, ax_getsT, ax_aldI, ax_aldR, ax_astI, ax_astR, ax_alen, ax_ret, ax_aret, ax_vret, am_st, am_kl, List.getElem?_cons_zero, List.getElem?_cons_succ, List.set_cons_zero, List.set_cons_succ, Value.category, true_and, and_true, if_true, if_false, reduceCtorEq, Bool.false_eq_true, false_implies, forall_const, Option.some.injEq, exists_eq_left', exists_eq_left, Sum.inl.injEq, Sum.inr.injEq, Prod.mk.injEq, nI_add, yl_lt, hH.1, hH.r7, hH.s7, nI_toInt, nI_clamp, am_ix_nI, am_ix_0, am_ix_1, am_ix_2, am_ix_3, am_n0, am_n1, am_n2, am_n3, am_n4, am_t0, am_t1, am_t2, am_t3, am_t4, am_tm1, am_nS, am_nP, am_nM, Int.ofNat_lt, Int.ofNat_le, e3, x2, o33]
      refine ⟨fun _ _ => ⟨x4, ?_⟩, fun z => by omega⟩
      refine am_callK [.int (nI x)] [] (d' := 0) (lim' := (am_tp σ, am_us σ)) rfl (by omega) (Nat.le_refl _) (Nat.le_refl _) rfl (Nat.le_of_ble_eq_true rfl) am_stat ?_
      refine c_ydig x1 (fun c _ _ => ?_) (fun c _ _ => ?_)
      · simp (disch := omega) only [ax_const, ax_iload, ax_lload, ax_aload, ax_istore, ax_astore, ax_iinc, ax_i2, ax_i2n, ax_l2, ax_lsh, ax_ii, ax_il, ax_li, ax_pop, ax_dup, ax_dup2, ax_if, ax_cmp, ax_acmp, ax_goto, ax_getI, ax_getR, ax_putI, ax_putR, ax_gets, ax_getsT, ax_aldI, ax_aldR, ax_astI, ax_astR, ax_alen, ax_ret, ax_aret, ax_vret, am_st, am_kl, List.getElem?_cons_zero, List.getElem?_cons_succ, List.set_cons_zero, List.set_cons_succ, Value.category, true_and, and_true, if_true, if_false, reduceCtorEq, Bool.false_eq_true, false_implies, forall_const, Option.some.injEq, exists_eq_left', exists_eq_left, Sum.inl.injEq, Sum.inr.injEq, Prod.mk.injEq, Option.toList_some, Option.toList_none, List.cons_append, List.nil_append, List.append_nil, o1]
        exact fun _ => go c
      · simp (disch := omega) only [ax_const, ax_iload, ax_lload, ax_aload, ax_istore, ax_astore, ax_iinc, ax_i2, ax_i2n, ax_l2, ax_lsh, ax_ii, ax_il, ax_li, ax_pop, ax_dup, ax_dup2, ax_if, ax_cmp, ax_acmp, ax_goto, ax_getI, ax_getR, ax_putI, ax_putR, ax_gets, ax_getsT, ax_aldI, ax_aldR, ax_astI, ax_astR, ax_alen, ax_ret, ax_aret, ax_vret, am_st, am_kl, List.getElem?_cons_zero, List.getElem?_cons_succ, List.set_cons_zero, List.set_cons_succ, Value.category, true_and, and_true, if_true, if_false, reduceCtorEq, Bool.false_eq_true, false_implies, forall_const, Option.some.injEq, exists_eq_left', exists_eq_left, Sum.inl.injEq, Sum.inr.injEq, Prod.mk.injEq, Option.toList_some, Option.toList_none, List.cons_append, List.nil_append, List.append_nil]
        exact ⟨stop c, fun z => absurd trivial z⟩
