/-! ===== Scanner ===== -/
def xn_kd (c : Nat) : Nat := if 97 ≤ c ∧ c ≤ 122 then 1 else if 48 ≤ c ∧ c ≤ 57 then 2 else 0
theorem xn_kd_lt (c : Nat) : xn_kd c < 3 := by
  unfold xn_kd
  split
  · decide
  · split <;> decide
theorem c_nkind {g : am_G} {l : Launch} {σ : am_S} {c : Nat} {Q : Option Value → am_S → Prop} (hc : c < 128) (hQ : Q (some (.int (nI (xn_kd c)))) σ) : am_C g l mX3_kindOf 0 (am_tp σ, am_us σ) [.int (nI c)] σ Q := by
  have t97 : Int32.toInt 97 = 97 := rfl
  have t122 : Int32.toInt 122 = 122 := rfl
  have t48 : Int32.toInt 48 = 48 := rfl
  have t57 : Int32.toInt 57 = 57 := rfl
  have h14 : ¬ (97 ≤ c ∧ c ≤ 122) → am_W g l mX3_kindOf 0 (am_tp σ, am_us σ) Q 14 [some (.int (nI c))] [] σ := by
    intro h
    refine kX3_kindOf_14 ?_
    unfold xn_kd at hQ
    rw [if_neg h] at hQ
    simp (disch := omega) only [ax_const, ax_iload, ax_lload, ax_aload, ax_istore, ax_astore, ax_iinc, ax_i2, ax_i2n, ax_l2, ax_lsh, ax_ii, ax_il, ax_li, ax_pop, ax_dup, ax_dup2, ax_if, ax_cmp, ax_acmp, ax_goto, ax_getI, ax_getR, ax_putI, ax_putR, ax_gets, ax_getsT, ax_aldI, ax_aldR, ax_astI, ax_astR, ax_alen, ax_ret, ax_aret, ax_vret, am_st, am_kl, List.getElem?_cons_zero, List.getElem?_cons_succ, List.set_cons_zero, List.set_cons_succ, Value.category, true_and, and_true, if_true, if_false, reduceCtorEq, Bool.false_eq_true, false_implies, forall_const, Option.some.injEq, exists_eq_left', exists_eq_left, Sum.inl.injEq, Sum.inr.injEq, Prod.mk.injEq, nI_toInt, nI_clamp, am_ix_nI, am_ix_0, am_ix_1, am_ix_2, am_ix_3, am_n0, am_n1, am_n2, am_n3, am_n4, am_t0, am_t1, am_t2, am_t3, am_t4, am_tm1, am_nS, am_nP, am_nM, Int.ofNat_lt, Int.ofNat_le, t48, t57]
    refine ⟨fun z => ?_, fun z => ⟨fun w => ?_, fun w => ?_⟩⟩
    · rwa [if_neg (by omega)] at hQ
    · rwa [if_neg (by omega)] at hQ
    · rwa [if_pos (by omega)] at hQ
  refine am_C.go [some (.int (nI c))] (by decide +kernel) (Nat.le_of_ble_eq_true rfl) rfl (kX3_kindOf_0 ?_)
  simp (disch := omega) only [ax_const, ax_iload, ax_lload, ax_aload, ax_istore, ax_astore, ax_iinc, ax_i2, ax_i2n, ax_l2, ax_lsh, ax_ii, ax_il, ax_li, ax_pop, ax_dup, ax_dup2, ax_if, ax_cmp, ax_acmp, ax_goto, ax_getI, ax_getR, ax_putI, ax_putR, ax_gets, ax_getsT, ax_aldI, ax_aldR, ax_astI, ax_astR, ax_alen, ax_ret, ax_aret, ax_vret, am_st, am_kl, List.getElem?_cons_zero, List.getElem?_cons_succ, List.set_cons_zero, List.set_cons_succ, Value.category, true_and, and_true, if_true, if_false, reduceCtorEq, Bool.false_eq_true, false_implies, forall_const, Option.some.injEq, exists_eq_left', exists_eq_left, Sum.inl.injEq, Sum.inr.injEq, Prod.mk.injEq, nI_toInt, nI_clamp, am_ix_nI, am_ix_0, am_ix_1, am_ix_2, am_ix_3, am_n0, am_n1, am_n2, am_n3, am_n4, am_t0, am_t1, am_t2, am_t3, am_t4, am_tm1, am_nS, am_nP, am_nM, Int.ofNat_lt, Int.ofNat_le, t97, t122]
  refine ⟨fun z => h14 (by omega), fun z => ⟨fun w => h14 (by omega), fun w => ?_⟩⟩
  unfold xn_kd at hQ
  rwa [if_pos (by omega)] at hQ
/-- how many of r go on with what c begins -/
def xn_run (c : Nat) (r : List Nat) : Nat := if xn_kd c = 0 then 0 else (r.takeWhile (fun x => xn_kd x == xn_kd c)).length
theorem xn_run_le (c : Nat) (r : List Nat) : xn_run c r ≤ r.length := by
  unfold xn_run
  split
  · exact Nat.zero_le _
  · exact (List.takeWhile_prefix _).length_le
theorem xn_X.get {σ : am_S} {a : Nat} {dr pre r : List Nat} {c : Nat} (h : xn_X σ a dr) (hd : dr = pre ++ c :: r) : c < 128 ∧ am_i σ a pre.length = nI c ∧ pre.length < dr.length ∧ dr.length ≤ 80 := by
  have h0 : dr[pre.length]? = some c := by rw [hd]; simp
  exact ⟨(h.2.2 _ _ h0).1, (h.2.2 _ _ h0).2, (List.getElem?_eq_some_iff.mp h0).1, h.2.1⟩
theorem xn_end_loop {g : am_G} {l : Launch} {σ : am_S} {a d c : Nat} {dr pre : List Nat} {r : List Nat} {Q : Option Value → am_S → Prop} (hd : 1 ≤ d) (hX : xn_X σ a dr) (hk : xn_kd c ≠ 0) (hQ : Q (some (.int (nI (pre.length + 1 + (r.takeWhile (fun x => xn_kd x == xn_kd c)).length)))) σ) :
    ∀ (T done : List Nat), dr = pre ++ c :: done ++ T → done.length + (T.takeWhile (fun x => xn_kd x == xn_kd c)).length = (r.takeWhile (fun x => xn_kd x == xn_kd c)).length → am_W g l mX3_endOf d (am_tp σ, am_us σ) Q 12 [some (.ref a), some (.int (nI pre.length)), some (.int (nI dr.length)), some (.int (nI (xn_kd c))), some (.int (nI (pre.length + 1 + done.length)))] [] σ := by
  have hkl := xn_kd_lt c
  have e0 : nI (xn_kd c) = 0 ↔ xn_kd c = 0 := nI_inj (b := 0) (by omega) (by omega)
  have hl80 := hX.2.1
  intro T
  induction T with
  | nil =>
    intro done hdr he
    have hdl : dr.length = pre.length + 1 + done.length := by rw [hdr]; simp; omega
    have e : done.length = (r.takeWhile (fun x => xn_kd x == xn_kd c)).length := he
    refine kX3_endOf_12 ?_
    simp (disch := omega) only [ax_const, ax_iload, ax_lload, ax_aload, ax_istore, ax_astore, ax_iinc, ax_i2, ax_i2n, ax_l2, ax_lsh, ax_ii, ax_il, ax_li, ax_pop, ax_dup, ax_dup2, ax_if, ax_cmp, ax_acmp, ax_goto, ax_getI, ax_getR, ax_putI, ax_putR, ax_gets, ax_getsT, ax_aldI, ax_aldR, ax_astI, ax_astR, ax_alen, ax_ret, ax_aret, ax_vret, am_st, am_kl, List.getElem?_cons_zero, List.getElem?_cons_succ, List.set_cons_zero, List.set_cons_succ, Value.category, true_and, and_true, if_true, if_false, reduceCtorEq, Bool.false_eq_true, false_implies, forall_const, Option.some.injEq, exists_eq_left', exists_eq_left, Sum.inl.injEq, Sum.inr.injEq, Prod.mk.injEq, nI_toInt, nI_clamp, am_ix_nI, am_ix_0, am_ix_1, am_ix_2, am_ix_3, am_n0, am_n1, am_n2, am_n3, am_n4, am_t0, am_t1, am_t2, am_t3, am_t4, am_tm1, am_nS, am_nP, am_nM, Int.ofNat_lt, Int.ofNat_le, e0]
    refine ⟨fun z => absurd z hk, fun _ => ⟨fun z => by omega, fun _ => ?_⟩⟩
    rw [e]
    exact hQ
  | cons x T ih =>
    intro done hdr he
    have hdl : dr.length = pre.length + 1 + done.length + (T.length + 1) := by rw [hdr]; simp; omega
    have hxl := xn_kd_lt x
    obtain ⟨x1, x2, x3, x4⟩ := hX.get (pre := pre ++ c :: done) (c := x) (r := T) (by rw [hdr])
    have epl : (pre ++ c :: done).length = pre.length + 1 + done.length := by simp; omega
    rw [epl] at x2
    have e1 : nI (xn_kd x) = nI (xn_kd c) ↔ xn_kd x = xn_kd c := nI_inj (by omega) (by omega)
    refine kX3_endOf_12 ?_
    simp (disch := omega) only [ax_const, ax_iload, ax_lload, ax_aload, ax_istore, ax_astore, ax_iinc, ax_i2, ax_i2n, ax_l2, ax_lsh, ax_ii, ax_il, ax_li, ax_pop, ax_dup, ax_dup2, ax_if, ax_cmp, ax_acmp, ax_goto, ax_getI, ax_getR, ax_putI, ax_putR, ax_gets, ax_getsT, ax_aldI, ax_aldR, ax_astI, ax_astR, ax_alen, ax_ret, ax_aret, ax_vret, am_st, am_kl, List.getElem?_cons_zero, List.getElem?_cons_succ, List.set_cons_zero, List.set_cons_succ, Value.category, true_and, and_true, if_true, if_false, reduceCtorEq, Bool.false_eq_true, false_implies, forall_const, Option.some.injEq, exists_eq_left', exists_eq_left, Sum.inl.injEq, Sum.inr.injEq, Prod.mk.injEq, nI_toInt, nI_clamp, am_ix_nI, am_ix_0, am_ix_1, am_ix_2, am_ix_3, am_n0, am_n1, am_n2, am_n3, am_n4, am_t0, am_t1, am_t2, am_t3, am_t4, am_tm1, am_nS, am_nP, am_nM, Int.ofNat_lt, Int.ofNat_le, e0, hX.1, x2]
    refine ⟨fun z => absurd z hk, fun _ => ⟨fun _ => ⟨by omega, ?_⟩, fun z => by omega⟩⟩
    refine am_callK [.int (nI x)] [] (d' := 0) (lim' := (am_tp σ, am_us σ)) rfl (by omega) (Nat.le_refl _) (Nat.le_refl _) rfl (Nat.le_of_ble_eq_true rfl) am_stat ?_
    refine c_nkind x1 (fun _ _ => ?_)
    simp (disch := omega) only [ax_const, ax_iload, ax_lload, ax_aload, ax_istore, ax_astore, ax_iinc, ax_i2, ax_i2n, ax_l2, ax_lsh, ax_ii, ax_il, ax_li, ax_pop, ax_dup, ax_dup2, ax_if, ax_cmp, ax_acmp, ax_goto, ax_getI, ax_getR, ax_putI, ax_putR, ax_gets, ax_getsT, ax_aldI, ax_aldR, ax_astI, ax_astR, ax_alen, ax_ret, ax_aret, ax_vret, am_st, am_kl, List.getElem?_cons_zero, List.getElem?_cons_succ, List.set_cons_zero, List.set_cons_succ, Value.category, true_and, and_true, if_true, if_false, reduceCtorEq, Bool.false_eq_true, false_implies, forall_const, Option.some.injEq, exists_eq_left', exists_eq_left, Sum.inl.injEq, Sum.inr.injEq, Prod.mk.injEq, nI_toInt, nI_clamp, am_ix_nI, am_ix_0, am_ix_1, am_ix_2, am_ix_3, am_n0, am_n1, am_n2, am_n3, am_n4, am_t0, am_t1, am_t2, am_t3, am_t4, am_tm1, am_nS, am_nP, am_nM, Int.ofNat_lt, Int.ofNat_le, Option.toList_some, Option.toList_none, List.cons_append, List.nil_append, List.append_nil, e1]
    refine ⟨fun z => ?_, fun z => ?_⟩
    · rw [List.takeWhile_cons, if_pos (beq_iff_eq.mpr z), List.length_cons] at he
      have := ih (done ++ [x]) (by rw [hdr]; simp) (by rw [List.length_append, ← he]; simp; omega)
      rw [List.length_append] at this
      exact this
    · rw [List.takeWhile_cons, if_neg (fun q => z (beq_iff_eq.mp q))] at he
      have e : done.length = (r.takeWhile (fun x => xn_kd x == xn_kd c)).length := he
      rw [e]
      exact hQ
theorem c_nend {g : am_G} {l : Launch} {σ : am_S} {a c : Nat} {dr pre r : List Nat} {Q : Option Value → am_S → Prop} (hX : xn_X σ a dr) (hdr : dr = pre ++ c :: r) (hQ : Q (some (.int (nI (pre.length + 1 + xn_run c r)))) σ) : am_C g l mX3_endOf 1 (am_tp σ, am_us σ) [.ref a, .int (nI pre.length), .int (nI dr.length)] σ Q := by
  obtain ⟨x1, x2, x3, x4⟩ := hX.get hdr
  refine am_C.go [some (.ref a), some (.int (nI pre.length)), some (.int (nI dr.length)), none, none] (by decide +kernel) (Nat.le_of_ble_eq_true rfl) rfl (kX3_endOf_0 ?_)
  simp (disch := omega) only [ax_const, ax_iload, ax_lload, ax_aload, ax_istore, ax_astore, ax_iinc, ax_i2, ax_i2n, ax_l2, ax_lsh, ax_ii, ax_il, ax_li, ax_pop, ax_dup, ax_dup2, ax_if, ax_cmp, ax_acmp, ax_goto, ax_getI, ax_getR, ax_putI, ax_putR, ax_gets, ax_getsT, ax_aldI, ax_aldR, ax_astI, ax_astR, ax_alen, ax_ret, ax_aret, ax_vret, am_st, am_kl, List.getElem?_cons_zero, List.getElem?_cons_succ, List.set_cons_zero, List.set_cons_succ, Value.category, true_and, and_true, if_true, if_false, reduceCtorEq, Bool.false_eq_true, false_implies, forall_const, Option.some.injEq, exists_eq_left', exists_eq_left, Sum.inl.injEq, Sum.inr.injEq, Prod.mk.injEq, nI_toInt, nI_clamp, am_ix_nI, am_ix_0, am_ix_1, am_ix_2, am_ix_3, am_n0, am_n1, am_n2, am_n3, am_n4, am_t0, am_t1, am_t2, am_t3, am_t4, am_tm1, am_nS, am_nP, am_nM, Int.ofNat_lt, Int.ofNat_le, hX.1, x2]
  refine ⟨by omega, ?_⟩
  refine am_callK [.int (nI c)] [] (d' := 0) (lim' := (am_tp σ, am_us σ)) rfl (by omega) (Nat.le_refl _) (Nat.le_refl _) rfl (Nat.le_of_ble_eq_true rfl) am_stat ?_
  refine c_nkind x1 (fun _ _ => ?_)
  simp (disch := omega) only [ax_const, ax_iload, ax_lload, ax_aload, ax_istore, ax_astore, ax_iinc, ax_i2, ax_i2n, ax_l2, ax_lsh, ax_ii, ax_il, ax_li, ax_pop, ax_dup, ax_dup2, ax_if, ax_cmp, ax_acmp, ax_goto, ax_getI, ax_getR, ax_putI, ax_putR, ax_gets, ax_getsT, ax_aldI, ax_aldR, ax_astI, ax_astR, ax_alen, ax_ret, ax_aret, ax_vret, am_st, am_kl, List.getElem?_cons_zero, List.getElem?_cons_succ, List.set_cons_zero, List.set_cons_succ, Value.category, true_and, and_true, if_true, if_false, reduceCtorEq, Bool.false_eq_true, false_implies, forall_const, Option.some.injEq, exists_eq_left', exists_eq_left, Sum.inl.injEq, Sum.inr.injEq, Prod.mk.injEq, nI_toInt, nI_clamp, am_ix_nI, am_ix_0, am_ix_1, am_ix_2, am_ix_3, am_n0, am_n1, am_n2, am_n3, am_n4, am_t0, am_t1, am_t2, am_t3, am_t4, am_tm1, am_nS, am_nP, am_nM, Int.ofNat_lt, Int.ofNat_le, Option.toList_some, Option.toList_none, List.cons_append, List.nil_append, List.append_nil]
  by_cases hk : xn_kd c = 0
  · unfold xn_run at hQ
    rw [if_pos hk] at hQ
    refine kX3_endOf_12 ?_
    have e0 : nI (xn_kd c) = 0 := by rw [hk]; rfl
    simp (disch := omega) only [ax_const, ax_iload, ax_lload, ax_aload, ax_istore, ax_astore, ax_iinc, ax_i2, ax_i2n, ax_l2, ax_lsh, ax_ii, ax_il, ax_li, ax_pop, ax_dup, ax_dup2, ax_if, ax_cmp, ax_acmp, ax_goto, ax_getI, ax_getR, ax_putI, ax_putR, ax_gets, ax_getsT, ax_aldI, ax_aldR, ax_astI, ax_astR, ax_alen, ax_ret, ax_aret, ax_vret, am_st, am_kl, List.getElem?_cons_zero, List.getElem?_cons_succ, List.set_cons_zero, List.set_cons_succ, Value.category, true_and, and_true, if_true, if_false, reduceCtorEq, Bool.false_eq_true, false_implies, forall_const, Option.some.injEq, exists_eq_left', exists_eq_left, Sum.inl.injEq, Sum.inr.injEq, Prod.mk.injEq, nI_toInt, nI_clamp, am_ix_nI, am_ix_0, am_ix_1, am_ix_2, am_ix_3, am_n0, am_n1, am_n2, am_n3, am_n4, am_t0, am_t1, am_t2, am_t3, am_t4, am_tm1, am_nS, am_nP, am_nM, Int.ofNat_lt, Int.ofNat_le, e0]
    exact ⟨hQ, fun z => absurd trivial z⟩
  · unfold xn_run at hQ
    rw [if_neg hk] at hQ
    exact xn_end_loop (Nat.le_refl _) hX hk hQ r [] (by rw [hdr]; simp) (by simp)
/-! numberOf -/
def xn_num (w : List Nat) : Int32 := w.foldl (fun n c => n * 10 + (nI c - 48)) 0
theorem xn_num_loop {g : am_G} {l : Launch} {σ : am_S} {a d : Nat} {dr pre w post : List Nat} {Q : Option Value → am_S → Prop} (hX : xn_X σ a dr) (hdr : dr = pre ++ w ++ post) (hQ : Q (some (.int (xn_num w))) σ) :
    ∀ (T done : List Nat) (n : Int32), w = done ++ T → T.foldl (fun n c => n * 10 + (nI c - 48)) n = xn_num w → am_W g l mX3_numberOf d (am_tp σ, am_us σ) Q 5 [some (.ref a), some (.int (nI pre.length)), some (.int (nI (pre.length + w.length))), some (.int n), some (.int (nI (pre.length + done.length)))] [] σ := by
  have hdl : dr.length = pre.length + w.length + post.length := by rw [hdr, List.length_append, List.length_append]
  have hl80 := hX.2.1
  intro T
  induction T with
  | nil =>
    intro done n hw hn
    have hl : w.length = done.length := by rw [hw]; simp
    have hn : n = xn_num w := hn
    refine kX3_numberOf_5 ?_
    simp (disch := omega) only [ax_const, ax_iload, ax_lload, ax_aload, ax_istore, ax_astore, ax_iinc, ax_i2, ax_i2n, ax_l2, ax_lsh, ax_ii, ax_il, ax_li, ax_pop, ax_dup, ax_dup2, ax_if, ax_cmp, ax_acmp, ax_goto, ax_getI, ax_getR, ax_putI, ax_putR, ax_gets, ax_getsT, ax_aldI, ax_aldR, ax_astI, ax_astR, ax_alen, ax_ret, ax_aret, ax_vret, am_st, am_kl, List.getElem?_cons_zero, List.getElem?_cons_succ, List.set_cons_zero, List.set_cons_succ, Value.category, true_and, and_true, if_true, if_false, reduceCtorEq, Bool.false_eq_true, false_implies, forall_const, Option.some.injEq, exists_eq_left', exists_eq_left, Sum.inl.injEq, Sum.inr.injEq, Prod.mk.injEq, nI_toInt, nI_clamp, am_ix_nI, am_ix_0, am_ix_1, am_ix_2, am_ix_3, am_n0, am_n1, am_n2, am_n3, am_n4, am_t0, am_t1, am_t2, am_t3, am_t4, am_tm1, am_nS, am_nP, am_nM, Int.ofNat_lt, Int.ofNat_le]
    rw [hn]
    exact ⟨fun z => by omega, fun _ => hQ⟩
  | cons x T ih =>
    intro done n hw hn
    have hl : w.length = done.length + (T.length + 1) := by rw [hw]; simp
    obtain ⟨x1, x2, x3, x4⟩ := hX.get (pre := pre ++ done) (c := x) (r := T ++ post) (by rw [hdr, hw]; simp)
    rw [List.length_append] at x2
    rw [List.foldl_cons] at hn
    refine kX3_numberOf_5 ?_
    simp (disch := omega) only [ax_const, ax_iload, ax_lload, ax_aload, ax_istore, ax_astore, ax_iinc, ax_i2, ax_i2n, ax_l2, ax_lsh, ax_ii, ax_il, ax_li, ax_pop, ax_dup, ax_dup2, ax_if, ax_cmp, ax_acmp, ax_goto, ax_getI, ax_getR, ax_putI, ax_putR, ax_gets, ax_getsT, ax_aldI, ax_aldR, ax_astI, ax_astR, ax_alen, ax_ret, ax_aret, ax_vret, am_st, am_kl, List.getElem?_cons_zero, List.getElem?_cons_succ, List.set_cons_zero, List.set_cons_succ, Value.category, true_and, and_true, if_true, if_false, reduceCtorEq, Bool.false_eq_true, false_implies, forall_const, Option.some.injEq, exists_eq_left', exists_eq_left, Sum.inl.injEq, Sum.inr.injEq, Prod.mk.injEq, nI_toInt, nI_clamp, am_ix_nI, am_ix_0, am_ix_1, am_ix_2, am_ix_3, am_n0, am_n1, am_n2, am_n3, am_n4, am_t0, am_t1, am_t2, am_t3, am_t4, am_tm1, am_nS, am_nP, am_nM, Int.ofNat_lt, Int.ofNat_le, hX.1, x2]
    refine ⟨fun _ => ⟨by omega, ?_⟩, fun z => by omega⟩
    have := ih (done ++ [x]) _ (by rw [hw]; simp) hn
    rw [List.length_append] at this
    exact this
theorem c_nnum {g : am_G} {l : Launch} {σ : am_S} {a : Nat} {dr pre w post : List Nat} {Q : Option Value → am_S → Prop} (hX : xn_X σ a dr) (hdr : dr = pre ++ w ++ post) (hQ : Q (some (.int (xn_num w))) σ) : am_C g l mX3_numberOf 0 (am_tp σ, am_us σ) [.ref a, .int (nI pre.length), .int (nI (pre.length + w.length))] σ Q := by
  refine am_C.go [some (.ref a), some (.int (nI pre.length)), some (.int (nI (pre.length + w.length))), none, none] (by decide +kernel) (Nat.le_of_ble_eq_true rfl) rfl (kX3_numberOf_0 ?_)
  simp (disch := omega) only [ax_const, ax_iload, ax_lload, ax_aload, ax_istore, ax_astore, ax_iinc, ax_i2, ax_i2n, ax_l2, ax_lsh, ax_ii, ax_il, ax_li, ax_pop, ax_dup, ax_dup2, ax_if, ax_cmp, ax_acmp, ax_goto, ax_getI, ax_getR, ax_putI, ax_putR, ax_gets, ax_getsT, ax_aldI, ax_aldR, ax_astI, ax_astR, ax_alen, ax_ret, ax_aret, ax_vret, am_st, am_kl, List.getElem?_cons_zero, List.getElem?_cons_succ, List.set_cons_zero, List.set_cons_succ, Value.category, true_and, and_true, if_true, if_false, reduceCtorEq, Bool.false_eq_true, false_implies, forall_const, Option.some.injEq, exists_eq_left', exists_eq_left, Sum.inl.injEq, Sum.inr.injEq, Prod.mk.injEq, nI_toInt, nI_clamp, am_ix_nI, am_ix_0, am_ix_1, am_ix_2, am_ix_3, am_n0, am_n1, am_n2, am_n3, am_n4, am_t0, am_t1, am_t2, am_t3, am_t4, am_tm1, am_nS, am_nP, am_nM, Int.ofNat_lt, Int.ofNat_le]
  exact xn_num_loop hX hdr hQ w [] 0 rfl rfl
/-! scan -/
theorem xt_fd_w (w : List Nat) : ∀ n t, xt_fd w n t = 35 ∨ xt_w (xt_fd w n t) = w
  | 0, _ => Or.inl rfl
  | n + 1, t => by
    rw [xt_fd]
    split
    · rename_i h
      exact Or.inr h
    · exact xt_fd_w w n (t + 1)
theorem xt_of_w (w : List Nat) : xt_of w = 35 ∨ xt_w (xt_of w) = w := xt_fd_w w 37 0
def xn_tk (c : Nat) (r : List Nat) : Nat × Int32 :=
  if xn_kd c = 2 then (if 9 < 1 + xn_run c r then (35, 0) else (33, xn_num (c :: r.take (xn_run c r)))) else (xt_of (c :: r.take (xn_run c r)), 0)
def xn_sc : List Nat → Nat → List (Nat × Int32)
  | [], _ => []
  | _ :: r, k + 1 => xn_sc r k
  | c :: r, 0 => if c = 32 then xn_sc r 0 else xn_tk c r :: xn_sc r (xn_run c r)
def xn_S (σ : am_S) (z : Nat) : Prop := am_sh σ z = some (.inl 3) ∧ am_r σ z 0 = some (z + 1) ∧ am_r σ z 1 = some (z + 2) ∧ am_sh σ (z + 1) = some (.inr (8, 81)) ∧ am_sh σ (z + 2) = some (.inr (0, 81))
theorem xn_S.fm {P : Nat → Prop} {σ σ' : am_S} {z : Nat} (h : xn_S σ z) (hf : am_fm P σ σ') (hP : ¬ P z) : xn_S σ' z := by
  unfold xn_S
  rw [hf.1, (hf.2.2.2 z hP).2]
  exact h
/-- the tokens ts have been read -/
def xn_L (g : am_G) (σ : am_S) (z : Nat) (ts : List (Nat × Int32)) : Prop := ts.length ≤ 81 ∧ ∀ i t o, ts[i]? = some (t, o) → t < 37 ∧ am_r σ (z + 1) i = some (am_tk g t) ∧ (t = 33 → am_i σ (z + 2) i = o)
theorem xn_L.fm {g : am_G} {P : Nat → Prop} {σ σ' : am_S} {z : Nat} {ts : List (Nat × Int32)} (h : xn_L g σ z ts) (hf : am_fm P σ σ') (h1 : ¬ P (z + 1)) (h2 : ¬ P (z + 2)) : xn_L g σ' z ts := by
  unfold xn_L
  rw [(hf.2.2.2 _ h1).2, (hf.2.2.2 _ h2).1]
  exact h
theorem xn_L.add {g : am_G} {σ σ' : am_S} {z t : Nat} {o : Int32} {ts : List (Nat × Int32)} (h : xn_L g σ z ts) (hl : ts.length < 81) (ht : t < 37) (h1 : am_r σ' (z + 1) = fun j => if j = ts.length then some (am_tk g t) else am_r σ (z + 1) j) (h2 : ∀ j, j < ts.length → am_i σ' (z + 2) j = am_i σ (z + 2) j) (h3 : t = 33 → am_i σ' (z + 2) ts.length = o) : xn_L g σ' z (ts ++ [(t, o)]) := by
  refine ⟨by simp; omega, fun i t' o' hi => ?_⟩
  by_cases q : i < ts.length
  · rw [List.getElem?_append_left q] at hi
    obtain ⟨a1, a2, a3⟩ := h.2 i t' o' hi
    rw [h1]
    dsimp only
    rw [if_neg (by omega), h2 i q]
    exact ⟨a1, a2, a3⟩
  · rw [List.getElem?_append_right (by omega)] at hi
    have e : i = ts.length := by
      have := (List.getElem?_eq_some_iff.mp hi).1
      simp at this
      omega
    subst e
    rw [Nat.sub_self, List.getElem?_cons_zero, Option.some.injEq, Prod.mk.injEq] at hi
    obtain ⟨rfl, rfl⟩ := hi
    rw [h1]
    exact ⟨ht, if_pos rfl, h3⟩
theorem xn_sc_loop {g : am_G} {l : Launch} {a z d tp us : Nat} {dr : List Nat} {F : List (Nat × Int32)} {Q : Option Value → am_S → Prop} {σ0 : am_S} (hd : 6 ≤ d) (hza : a < z ∨ z + 3 ≤ a) (hB : g.2.2.1.size ≤ z)
    (hQ : ∀ σ', xn_S σ' z → xn_L g σ' z (F ++ [(36, 0)]) → am_fm (fun b => b = z + 1 ∨ b = z + 2) σ0 σ' → Q none σ') :
    ∀ (T pre : List Nat) (ts : List (Nat × Int32)) (e : Nat) (σ : am_S), dr = pre ++ T → e ≤ 81 → F = ts ++ xn_sc T (e - pre.length) → ts.length ≤ pre.length → xt_T g σ → xn_X σ a dr → xn_S σ z → xn_L g σ z ts → am_fm (fun b => b = z + 1 ∨ b = z + 2) σ0 σ → am_tp σ = tp → am_us σ = us →
      am_W g l mX3_scan d (tp, us) Q 8 [some (.ref z), some (.ref a), some (.int (nI dr.length)), some (.int (nI ts.length)), some (.int (nI e)), some (.int (nI pre.length))] [] σ := by
  intro T
  induction T with
  | nil =>
    intro pre ts e σ hdr he hF hts hT hX hS hL hf h1 h2
    have hl : dr.length = pre.length := by rw [hdr]; simp
    have hl80 := hX.2.1
    obtain ⟨s1, s2, s3, s4, s5⟩ := id hS
    have hF : F = ts := by rw [hF, xn_sc, List.append_nil]
    have k36 := (hT.1 36 (by decide)).1
    refine kX3_scan_8 ?_
    simp (disch := omega) only [ax_const, ax_iload, ax_lload, ax_aload, ax_istore, ax_astore, ax_iinc, ax_i2, ax_i2n, ax_l2, ax_lsh, ax_ii, ax_il, ax_li, ax_pop, ax_dup, ax_dup2, ax_if, ax_cmp, ax_acmp, ax_goto, ax_getI, ax_getR, ax_putI, ax_putR, ax_gets, ax_getsT, ax_aldI, ax_aldR, ax_astI, ax_astR, ax_alen, ax_ret, ax_aret, ax_vret, am_st, am_kl, List.getElem?_cons_zero, List.getElem?_cons_succ, List.set_cons_zero, List.set_cons_succ, Value.category, true_and, and_true, if_true, if_false, reduceCtorEq, Bool.false_eq_true, false_implies, forall_const, Option.some.injEq, exists_eq_left', exists_eq_left, Sum.inl.injEq, Sum.inr.injEq, Prod.mk.injEq, nI_toInt, nI_clamp, am_ix_nI, am_ix_0, am_ix_1, am_ix_2, am_ix_3, am_n0, am_n1, am_n2, am_n3, am_n4, am_t0, am_t1, am_t2, am_t3, am_t4, am_tm1, am_nS, am_nP, am_nM, Int.ofNat_lt, Int.ofNat_le, am_sh_wi, am_sh_wr, am_r_wi, am_i_wr, am_tp_wi, am_tp_wr, am_us_wi, am_us_wr, am_i_wi, am_r_wr, s1, s2, s4, k36]
    refine ⟨fun z => by omega, fun _ => ⟨by omega, ?_⟩⟩
    rw [if_neg (by decide)]
    refine ⟨rfl, h1, h2, hQ _ ?_ ?_ (hf.wr (Or.inl rfl))⟩
    · exact hS.fm (P := fun b => b = z + 1) (am_fm.rf.wr rfl) (by omega)
    · rw [hF]
      refine hL.add (by omega) (by decide) ?_ (fun j hj => rfl) (fun q => by cases q)
      funext j
      rw [am_r_wr]
      simp
  | cons c T ih =>
    intro pre ts e σ hdr he hF hts hT hX hS hL hf h1 h2
    have hl : dr.length = pre.length + (T.length + 1) := by rw [hdr]; simp
    obtain ⟨x1, x2, x3, x4⟩ := hX.get hdr
    obtain ⟨s1, s2, s3, s4, s5⟩ := id hS
    have hdr2 : dr = (pre ++ [c]) ++ T := by rw [hdr]; simp
    have ihn : ∀ (ts : List (Nat × Int32)) (e : Nat) (σ : am_S), e ≤ 81 → F = ts ++ xn_sc T (e - (pre.length + 1)) → ts.length ≤ pre.length + 1 → xt_T g σ → xn_X σ a dr → xn_S σ z → xn_L g σ z ts → am_fm (fun b => b = z + 1 ∨ b = z + 2) σ0 σ → am_tp σ = tp → am_us σ = us →
      am_W g l mX3_scan d (tp, us) Q 8 [some (.ref z), some (.ref a), some (.int (nI dr.length)), some (.int (nI ts.length)), some (.int (nI e)), some (.int (nI (pre.length + 1)))] [] σ := by
      intro ts e σ k1 k2 k3 k4 k5 k6 k7 k8 k9 k10
      have := ih (pre ++ [c]) ts e σ hdr2 k1 (by rw [List.length_append]; exact k2) (by rw [List.length_append]; exact k3) k4 k5 k6 k7 k8 k9 k10
      rw [List.length_append] at this
      exact this
    clear ih
    have e32 : nI c = 32 ↔ c = 32 := nI_inj (b := 32) (by omega) (by omega)
    refine kX3_scan_8 ?_
    simp (disch := omega) only [ax_const, ax_iload, ax_lload, ax_aload, ax_istore, ax_astore, ax_iinc, ax_i2, ax_i2n, ax_l2, ax_lsh, ax_ii, ax_il, ax_li, ax_pop, ax_dup, ax_dup2, ax_if, ax_cmp, ax_acmp, ax_goto, ax_getI, ax_getR, ax_putI, ax_putR, ax_gets, ax_getsT, ax_aldI, ax_aldR, ax_astI, ax_astR, ax_alen, ax_ret, ax_aret, ax_vret, am_st, am_kl, List.getElem?_cons_zero, List.getElem?_cons_succ, List.set_cons_zero, List.set_cons_succ, Value.category, true_and, and_true, if_true, if_false, reduceCtorEq, Bool.false_eq_true, false_implies, forall_const, Option.some.injEq, exists_eq_left', exists_eq_left, Sum.inl.injEq, Sum.inr.injEq, Prod.mk.injEq, nI_toInt, nI_clamp, am_ix_nI, am_ix_0, am_ix_1, am_ix_2, am_ix_3, am_n0, am_n1, am_n2, am_n3, am_n4, am_t0, am_t1, am_t2, am_t3, am_t4, am_tm1, am_nS, am_nP, am_nM, Int.ofNat_lt, Int.ofNat_le, hX.1, x2, e32]
    refine ⟨fun _ => ⟨fun u0 => ?_, fun u0 => ⟨by omega, fun w => ?_, fun w => ?_⟩⟩, fun u0 => by omega⟩
    · obtain ⟨k, hk⟩ : ∃ k, e - pre.length = k + 1 := ⟨e - pre.length - 1, by omega⟩
      rw [hk, xn_sc] at hF
      exact ihn ts e σ he (by rw [hF]; congr 2; omega) (by omega) hT hX hS hL hf h1 h2
    · rw [show e - pre.length = 0 by omega, xn_sc, if_pos w] at hF
      exact ihn ts e σ he (by rw [hF]; congr 2; omega) (by omega) hT hX hS hL hf h1 h2
    · rw [show e - pre.length = 0 by omega, xn_sc, if_neg w] at hF
      have hrl := xn_run_le c T
      have hkl := xn_kd_lt c
      have e2 : nI (xn_kd c) = 2 ↔ xn_kd c = 2 := nI_inj (b := 2) (by omega) (by omega)
      have t9 : Int32.toInt 9 = 9 := rfl
      have esub : nI (pre.length + 1 + xn_run c T) - nI pre.length = nI (1 + xn_run c T) := by rw [pk_sub (by omega)]; congr 1; omega
      have hwl : (c :: T.take (xn_run c T)).length = 1 + xn_run c T := by rw [List.length_cons, List.length_take]; omega
      have hdw : dr = pre ++ (c :: T.take (xn_run c T)) ++ T.drop (xn_run c T) := by rw [hdr]; simp
      have ene : pre.length + (c :: T.take (xn_run c T)).length = pre.length + 1 + xn_run c T := by rw [hwl]; omega
      refine am_callK [.ref a, .int (nI pre.length), .int (nI dr.length)] [] (d' := 1) (lim' := (am_tp σ, am_us σ)) rfl (by omega) (by rw [h1]; exact Nat.le_refl _) (by rw [h2]; exact Nat.le_refl _) rfl (by decide) am_stat ?_
      refine c_nend hX hdr (fun _ _ => ?_)
      simp (disch := omega) only [ax_const, ax_iload, ax_lload, ax_aload, ax_istore, ax_astore, ax_iinc, ax_i2, ax_i2n, ax_l2, ax_lsh, ax_ii, ax_il, ax_li, ax_pop, ax_dup, ax_dup2, ax_if, ax_cmp, ax_acmp, ax_goto, ax_getI, ax_getR, ax_putI, ax_putR, ax_gets, ax_getsT, ax_aldI, ax_aldR, ax_astI, ax_astR, ax_alen, ax_ret, ax_aret, ax_vret, am_st, am_kl, List.getElem?_cons_zero, List.getElem?_cons_succ, List.set_cons_zero, List.set_cons_succ, Value.category, true_and, and_true, if_true, if_false, reduceCtorEq, Bool.false_eq_true, false_implies, forall_const, Option.some.injEq, exists_eq_left', exists_eq_left, Sum.inl.injEq, Sum.inr.injEq, Prod.mk.injEq, nI_toInt, nI_clamp, am_ix_nI, am_ix_0, am_ix_1, am_ix_2, am_ix_3, am_n0, am_n1, am_n2, am_n3, am_n4, am_t0, am_t1, am_t2, am_t3, am_t4, am_tm1, am_nS, am_nP, am_nM, Int.ofNat_lt, Int.ofNat_le, Option.toList_some, Option.toList_none, List.cons_append, List.nil_append, List.append_nil, hX.1, x2]
      refine ⟨by omega, ?_⟩
      refine am_callK [.int (nI c)] [] (d' := 0) (lim' := (am_tp σ, am_us σ)) rfl (by omega) (by rw [h1]; exact Nat.le_refl _) (by rw [h2]; exact Nat.le_refl _) rfl (by decide) am_stat ?_
      refine c_nkind x1 (fun _ _ => ?_)
      have hfin : ∀ (σ' : am_S) (t : Nat) (o : Int32), xn_tk c T = (t, o) → t < 37 → am_r σ' (z + 1) = (fun j => if j = ts.length then some (am_tk g t) else am_r σ (z + 1) j) → (∀ j, j < ts.length → am_i σ' (z + 2) j = am_i σ (z + 2) j) → (t = 33 → am_i σ' (z + 2) ts.length = o) → am_fm (fun b => b = z + 1 ∨ b = z + 2) σ σ' →
          am_W g l mX3_scan d (tp, us) Q 8 [some (.ref z), some (.ref a), some (.int (nI dr.length)), some (.int (nI (ts.length + 1))), some (.int (nI (pre.length + 1 + xn_run c T))), some (.int (nI (pre.length + 1)))] [] σ' := by
        intro σ' t o k1 k2 k3 k4 k5 k6
        have := ihn (ts ++ [(t, o)]) (pre.length + 1 + xn_run c T) σ' (by omega) (by rw [hF, ← k1]; simp) (by simp; omega) (hT.fm k6 (fun b x => by omega)) (hX.fm k6 (by omega)) (hS.fm k6 (by omega)) (hL.add (by omega) k2 k3 k4 k5) (hf.tr k6) (k6.2.1.trans h1) (k6.2.2.1.trans h2)
        rw [List.length_append] at this
        exact this
      have k35 := (hT.1 35 (by decide)).1
      have k33 := (hT.1 33 (by decide)).1
      simp (disch := omega) only [ax_const, ax_iload, ax_lload, ax_aload, ax_istore, ax_astore, ax_iinc, ax_i2, ax_i2n, ax_l2, ax_lsh, ax_ii, ax_il, ax_li, ax_pop, ax_dup, ax_dup2, ax_if, ax_cmp, ax_acmp, ax_goto, ax_getI, ax_getR, ax_putI, ax_putR, ax_gets, ax_getsT, ax_aldI, ax_aldR, ax_astI, ax_astR, ax_alen, ax_ret, ax_aret, ax_vret, am_st, am_kl, List.getElem?_cons_zero, List.getElem?_cons_succ, List.set_cons_zero, List.set_cons_succ, Value.category, true_and, and_true, if_true, if_false, reduceCtorEq, Bool.false_eq_true, false_implies, forall_const, Option.some.injEq, exists_eq_left', exists_eq_left, Sum.inl.injEq, Sum.inr.injEq, Prod.mk.injEq, nI_toInt, nI_clamp, am_ix_nI, am_ix_0, am_ix_1, am_ix_2, am_ix_3, am_n0, am_n1, am_n2, am_n3, am_n4, am_t0, am_t1, am_t2, am_t3, am_t4, am_tm1, am_nS, am_nP, am_nM, Int.ofNat_lt, Int.ofNat_le, Option.toList_some, Option.toList_none, List.cons_append, List.nil_append, List.append_nil, am_sh_wi, am_sh_wr, am_r_wi, am_i_wr, am_tp_wi, am_tp_wr, am_us_wi, am_us_wr, am_i_wi, am_r_wr, e2, esub, t9, s1, s2, s3, s4, s5, k35, k33]
      refine ⟨fun q => ⟨fun u => ⟨by omega, ?_⟩, fun u => ⟨by omega, ?_⟩⟩, fun q => ?_⟩
      · rw [if_neg (by decide)]
        refine ⟨rfl, hfin _ 35 0 (by unfold xn_tk; rw [if_pos q, if_pos (by omega)]) (by decide) ?_ (fun j hj => rfl) (fun y => by cases y) (am_fm.rf.wr (Or.inl rfl))⟩
        funext j
        rw [am_r_wr]
        simp
      · rw [if_neg (by decide)]
        refine ⟨rfl, z + 2, by rw [if_neg (by omega)], ?_⟩
        have fw : am_fm (fun b => b = z + 1 ∨ b = z + 2) σ (am_wr σ (z + 1) ts.length (some (am_tk g 33))) := am_fm.rf.wr (Or.inl rfl)
        have hcall := c_nnum (g := g) (l := l) (σ := am_wr σ (z + 1) ts.length (some (am_tk g 33))) (a := a) (dr := dr) (pre := pre) (w := c :: T.take (xn_run c T)) (post := T.drop (xn_run c T)) (Q := fun o σ' => am_tp σ' = am_tp σ → am_us σ' = am_us σ → ax_astI 0 (fun x => x) (ax_iinc 3 1 (ax_iinc 5 1 (am_W g l mX3_scan d (tp, us) Q 8))) [some (.ref z), some (.ref a), some (.int (nI dr.length)), some (.int (nI ts.length)), some (.int (nI (pre.length + 1 + xn_run c T))), some (.int (nI pre.length))] (o.toList ++ [.int (nI ts.length), .ref (z + 2)]) σ') (hX.fm fw (by omega)) hdw (fun q1 q2 => ?_)
        · rw [ene] at hcall
          exact am_callK [.ref a, .int (nI pre.length), .int (nI (pre.length + 1 + xn_run c T))] [.int (nI ts.length), .ref (z + 2)] (d' := 0) (lim' := (am_tp σ, am_us σ)) rfl (by omega) (by rw [h1]; exact Nat.le_refl _) (by rw [h2]; exact Nat.le_refl _) rfl (Nat.le_of_ble_eq_true rfl) am_stat hcall
        · simp (disch := omega) only [ax_const, ax_iload, ax_lload, ax_aload, ax_istore, ax_astore, ax_iinc, ax_i2, ax_i2n, ax_l2, ax_lsh, ax_ii, ax_il, ax_li, ax_pop, ax_dup, ax_dup2, ax_if, ax_cmp, ax_acmp, ax_goto, ax_getI, ax_getR, ax_putI, ax_putR, ax_gets, ax_getsT, ax_aldI, ax_aldR, ax_astI, ax_astR, ax_alen, ax_ret, ax_aret, ax_vret, am_st, am_kl, List.getElem?_cons_zero, List.getElem?_cons_succ, List.set_cons_zero, List.set_cons_succ, Value.category, true_and, and_true, if_true, if_false, reduceCtorEq, Bool.false_eq_true, false_implies, forall_const, Option.some.injEq, exists_eq_left', exists_eq_left, Sum.inl.injEq, Sum.inr.injEq, Prod.mk.injEq, nI_toInt, nI_clamp, am_ix_nI, am_ix_0, am_ix_1, am_ix_2, am_ix_3, am_n0, am_n1, am_n2, am_n3, am_n4, am_t0, am_t1, am_t2, am_t3, am_t4, am_tm1, am_nS, am_nP, am_nM, Int.ofNat_lt, Int.ofNat_le, Option.toList_some, Option.toList_none, List.cons_append, List.nil_append, List.append_nil, am_sh_wi, am_sh_wr, am_r_wi, am_i_wr, am_tp_wi, am_tp_wr, am_us_wi, am_us_wr, am_i_wi, am_r_wr, s5]
          refine ⟨by omega, hfin _ 33 _ (by unfold xn_tk; rw [if_pos q, if_neg (by omega)]) (by decide) ?_ (fun j hj => ?_) (fun _ => ?_) (fw.wi (Or.inr rfl))⟩
          · funext j
            rw [am_r_wi, am_r_wr]
            simp
          · rw [am_i_wi, if_neg (by omega), am_i_wr]
          · rw [am_i_wi, if_pos ⟨rfl, rfl⟩]
      · have hcall := c_tof (g := g) (l := l) (σ := σ) (a := a) (dr := dr) (pre := pre) (w := c :: T.take (xn_run c T)) (post := T.drop (xn_run c T)) (Q := fun o σ' => am_tp σ' = am_tp σ → am_us σ' = am_us σ → ax_astR 8 (ax_iinc 3 1 (ax_iinc 5 1 (am_W g l mX3_scan d (tp, us) Q 8))) [some (.ref z), some (.ref a), some (.int (nI dr.length)), some (.int (nI ts.length)), some (.int (nI (pre.length + 1 + xn_run c T))), some (.int (nI pre.length))] (o.toList ++ [.int (nI ts.length), .ref (z + 1)]) σ') hT hX hdw (fun q1 q2 => ?_)
        · rw [ene] at hcall
          exact am_callK [.ref a, .int (nI pre.length), .int (nI (pre.length + 1 + xn_run c T))] [.int (nI ts.length), .ref (z + 1)] (d' := 5) (lim' := (am_tp σ, am_us σ)) rfl (by omega) (by rw [h1]; exact Nat.le_refl _) (by rw [h2]; exact Nat.le_refl _) rfl (Nat.le_of_ble_eq_true rfl) am_stat hcall
        · have hto := xt_of_lt (c :: T.take (xn_run c T))
          have kto := (hT.1 _ hto).1
          simp (disch := omega) only [ax_const, ax_iload, ax_lload, ax_aload, ax_istore, ax_astore, ax_iinc, ax_i2, ax_i2n, ax_l2, ax_lsh, ax_ii, ax_il, ax_li, ax_pop, ax_dup, ax_dup2, ax_if, ax_cmp, ax_acmp, ax_goto, ax_getI, ax_getR, ax_putI, ax_putR, ax_gets, ax_getsT, ax_aldI, ax_aldR, ax_astI, ax_astR, ax_alen, ax_ret, ax_aret, ax_vret, am_st, am_kl, List.getElem?_cons_zero, List.getElem?_cons_succ, List.set_cons_zero, List.set_cons_succ, Value.category, true_and, and_true, if_true, if_false, reduceCtorEq, Bool.false_eq_true, false_implies, forall_const, Option.some.injEq, exists_eq_left', exists_eq_left, Sum.inl.injEq, Sum.inr.injEq, Prod.mk.injEq, nI_toInt, nI_clamp, am_ix_nI, am_ix_0, am_ix_1, am_ix_2, am_ix_3, am_n0, am_n1, am_n2, am_n3, am_n4, am_t0, am_t1, am_t2, am_t3, am_t4, am_tm1, am_nS, am_nP, am_nM, Int.ofNat_lt, Int.ofNat_le, Option.toList_some, Option.toList_none, List.cons_append, List.nil_append, List.append_nil, am_sh_wi, am_sh_wr, am_r_wi, am_i_wr, am_tp_wi, am_tp_wr, am_us_wi, am_us_wr, am_i_wi, am_r_wr, s4, kto]
          refine ⟨by omega, ?_⟩
          rw [if_neg (by decide)]
          refine ⟨rfl, hfin _ (xt_of (c :: T.take (xn_run c T))) 0 (by unfold xn_tk; rw [if_neg q]) hto ?_ (fun j hj => rfl) (fun y => ?_) (am_fm.rf.wr (Or.inl rfl))⟩
          · funext j
            rw [am_r_wr]
            simp
          · rcases xt_of_w (c :: T.take (xn_run c T)) with e | e
            · rw [e] at y
              cases y
            · rw [y] at e
              cases e
theorem c_nscan {g : am_G} {l : Launch} {σ : am_S} {a z : Nat} {dr : List Nat} {Q : Option Value → am_S → Prop} (hT : xt_T g σ) (hX : xn_X σ a dr) (hS : xn_S σ z) (hza : a < z ∨ z + 3 ≤ a) (hB : g.2.2.1.size ≤ z)
    (hQ : ∀ σ', xn_S σ' z → xn_L g σ' z (xn_sc dr 0 ++ [(36, 0)]) → am_fm (fun b => b = z + 1 ∨ b = z + 2) σ σ' → Q none σ') : am_C g l mX3_scan 6 (am_tp σ, am_us σ) [.ref z, .ref a, .int (nI dr.length)] σ Q := by
  refine am_C.go [some (.ref z), some (.ref a), some (.int (nI dr.length)), none, none, none] (by decide +kernel) (Nat.le_of_ble_eq_true rfl) rfl (kX3_scan_0 ?_)
  simp (disch := omega) only [ax_const, ax_iload, ax_lload, ax_aload, ax_istore, ax_astore, ax_iinc, ax_i2, ax_i2n, ax_l2, ax_lsh, ax_ii, ax_il, ax_li, ax_pop, ax_dup, ax_dup2, ax_if, ax_cmp, ax_acmp, ax_goto, ax_getI, ax_getR, ax_putI, ax_putR, ax_gets, ax_getsT, ax_aldI, ax_aldR, ax_astI, ax_astR, ax_alen, ax_ret, ax_aret, ax_vret, am_st, am_kl, List.getElem?_cons_zero, List.getElem?_cons_succ, List.set_cons_zero, List.set_cons_succ, Value.category, true_and, and_true, if_true, if_false, reduceCtorEq, Bool.false_eq_true, false_implies, forall_const, Option.some.injEq, exists_eq_left', exists_eq_left, Sum.inl.injEq, Sum.inr.injEq, Prod.mk.injEq, nI_toInt, nI_clamp, am_ix_nI, am_ix_0, am_ix_1, am_ix_2, am_ix_3, am_n0, am_n1, am_n2, am_n3, am_n4, am_t0, am_t1, am_t2, am_t3, am_t4, am_tm1, am_nS, am_nP, am_nM, Int.ofNat_lt, Int.ofNat_le]
  exact xn_sc_loop (Nat.le_refl _) hza hB hQ dr [] [] 0 σ rfl (by decide) rfl (Nat.le_refl _) hT hX hS ⟨by decide, fun i t o hi => by simp at hi⟩ .rf rfl rfl
