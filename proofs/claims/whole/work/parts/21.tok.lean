/-! ===== the texts of the tokens ===== -/
def xt_ws : List (List Nat) := [[105, 110, 115, 101, 114, 116], [117, 112, 100, 97, 116, 101], [100, 101, 108, 101, 116, 101], [115, 101, 108, 101, 99, 116], [116, 111, 112], [102, 114, 111, 109], [119, 104, 101, 114, 101], [103, 114, 111, 117, 112], [111, 114, 100, 101, 114], [100, 101, 115, 99], [99, 111, 117, 110, 116], [115, 117, 109], [97, 110, 100], [111, 114], [110, 111, 116], [107], [118], [119], [108, 97, 98], [65], [66], [46], [44], [40], [41], [91], [93], [43], [45], [42], [61], [60], [62], [], [], [], []]
def xt_w (t : Nat) : List Nat := xt_ws.getD t []
/-- the string b has these characters -/
def xt_W (g : am_G) (σ : am_S) (b : Nat) (w : List Nat) : Prop :=
  b < g.2.2.1.size ∧ am_sh σ b = some (.inl 11) ∧ am_i σ b 1 = 0 ∧ w.length ≤ 6 ∧ (∀ c, c ∈ w → c < 128) ∧ ∃ y, y < g.2.2.1.size ∧ am_r σ b 0 = some y ∧ am_sh σ y = some (.inr (10, w.length)) ∧ ∀ j c, w[j]? = some c → am_i σ y j = nI c
def xt_T (g : am_G) (σ : am_S) : Prop :=
  xt_K g σ ∧ (∀ t, t < 37 → ∃ b, am_r σ (am_tk g t) 0 = some b ∧ xt_W g σ b (xt_w t)) ∧ (am_tk g 37 < g.2.2.1.size ∧ am_sh σ (am_tk g 37) = some (.inr (9, 37)) ∧ ∀ t, t < 37 → am_r σ (am_tk g 37) t = some (am_tk g t)) ∧ g.2.2.2.2 38 = .int 1 ∧ ((∃ a, g.2.2.2.2 39 = .ref a) ∨ g.2.2.2.2 39 = .null)
theorem xt_W.fm {g : am_G} {P : Nat → Prop} {σ σ' : am_S} {b : Nat} {w : List Nat} (h : xt_W g σ b w) (hf : am_fm P σ σ') (hP : ∀ a, P a → g.2.2.1.size ≤ a) : xt_W g σ' b w := by
  obtain ⟨h1, h2, h3, h4, h5, y, h6, h7, h8, h9⟩ := h
  have nb : ¬ P b := fun z => by have := hP b z; omega
  have ny : ¬ P y := fun z => by have := hP y z; omega
  unfold xt_W
  rw [hf.1, (hf.2.2.2 b nb).1, (hf.2.2.2 b nb).2]
  refine ⟨h1, h2, h3, h4, h5, y, h6, h7, h8, ?_⟩
  rw [(hf.2.2.2 y ny).1]
  exact h9
theorem xt_T.fm {g : am_G} {P : Nat → Prop} {σ σ' : am_S} (h : xt_T g σ) (hf : am_fm P σ σ') (hP : ∀ a, P a → g.2.2.1.size ≤ a) : xt_T g σ' := by
  obtain ⟨h1, h2, ⟨h3, h4, h5⟩, h6, h7⟩ := h
  have n37 : ¬ P (am_tk g 37) := fun z => by have := hP _ z; omega
  refine ⟨h1.fm hf hP, fun t ht => ?_, ⟨h3, by rw [hf.1]; exact h4, by rw [(hf.2.2.2 _ n37).2]; exact h5⟩, h6, h7⟩
  obtain ⟨b, b1, b2⟩ := h2 t ht
  have nt : ¬ P (am_tk g t) := fun z => by have := hP _ z; have := (h1 t ht).2.1; omega
  exact ⟨b, by rw [(hf.2.2.2 _ nt).2]; exact b1, b2.fm hf hP⟩
theorem am_sr0 (x : Int32) : x >>> ((0 : Int32) &&& 31) = x := by
  rw [show ((0 : Int32) &&& 31) = 0 from rfl, Int32.shiftRight_zero]
theorem c_jcoder {g : am_G} {l : Launch} {σ : am_S} {b : Nat} {w : List Nat} {Q : Option Value → am_S → Prop} (hZ : g.2.2.2.2 38 = .int 1) (h : xt_W g σ b w) (hQ : Q (some (.int 0)) σ) : am_C g l mJ0_coder_7d493 0 (am_tp σ, am_us σ) [.ref b] σ Q := by
  obtain ⟨h1, h2, h3, h4, h5, y, h6, h7, h8, h9⟩ := h
  refine am_C.go [some (.ref b)] (by decide +kernel) (Nat.le_of_ble_eq_true rfl) rfl (kJ0_coder_7d493_0 ?_)
  have o1 : ¬ (1 : Int32) = 0 := by decide
  simp (disch := omega) only [ax_const, ax_iload, ax_lload, ax_aload, ax_istore, ax_astore, ax_iinc, ax_i2, ax_i2n, ax_l2, ax_lsh, ax_ii, ax_il, ax_li, ax_pop, ax_dup, ax_dup2, ax_if, ax_cmp, ax_acmp, ax_goto, ax_getI, ax_getR, ax_putI, ax_putR, ax_gets, ax_getsT, ax_aldI, ax_aldR, ax_astI, ax_astR, ax_alen, ax_ret, ax_aret, ax_vret, am_st, am_kl, List.getElem?_cons_zero, List.getElem?_cons_succ, List.set_cons_zero, List.set_cons_succ, Value.category, true_and, and_true, if_true, if_false, reduceCtorEq, Bool.false_eq_true, false_implies, forall_const, Option.some.injEq, exists_eq_left', exists_eq_left, Sum.inl.injEq, Sum.inr.injEq, Prod.mk.injEq, nI_toInt, nI_clamp, am_ix_nI, am_ix_0, am_ix_1, am_ix_2, am_ix_3, am_n0, am_n1, am_n2, am_n3, am_n4, am_t0, am_t1, am_t2, am_t3, am_t4, am_tm1, am_nS, am_nP, am_nM, Int.ofNat_lt, Int.ofNat_le, ax_gets, hZ, h2, h3, o1]
  exact fun _ => ⟨fun x hx => by cases hx; rfl, hQ⟩
theorem c_jlength {g : am_G} {l : Launch} {σ : am_S} {b : Nat} {w : List Nat} {Q : Option Value → am_S → Prop} (hZ : g.2.2.2.2 38 = .int 1) (h : xt_W g σ b w) (hQ : Q (some (.int (nI w.length))) σ) : am_C g l mJ0_length_8abf5 1 (am_tp σ, am_us σ) [.ref b] σ Q := by
  have h0 := h
  obtain ⟨h1, h2, h3, h4, h5, y, h6, h7, h8, h9⟩ := h
  refine am_C.go [some (.ref b)] (by decide +kernel) (Nat.le_of_ble_eq_true rfl) rfl (kJ0_length_8abf5_0 ?_)
  simp (disch := omega) only [ax_const, ax_iload, ax_lload, ax_aload, ax_istore, ax_astore, ax_iinc, ax_i2, ax_i2n, ax_l2, ax_lsh, ax_ii, ax_il, ax_li, ax_pop, ax_dup, ax_dup2, ax_if, ax_cmp, ax_acmp, ax_goto, ax_getI, ax_getR, ax_putI, ax_putR, ax_gets, ax_getsT, ax_aldI, ax_aldR, ax_astI, ax_astR, ax_alen, ax_ret, ax_aret, ax_vret, am_st, am_kl, List.getElem?_cons_zero, List.getElem?_cons_succ, List.set_cons_zero, List.set_cons_succ, Value.category, true_and, and_true, if_true, if_false, reduceCtorEq, Bool.false_eq_true, false_implies, forall_const, Option.some.injEq, exists_eq_left', exists_eq_left, Sum.inl.injEq, Sum.inr.injEq, Prod.mk.injEq, nI_toInt, nI_clamp, am_ix_nI, am_ix_0, am_ix_1, am_ix_2, am_ix_3, am_n0, am_n1, am_n2, am_n3, am_n4, am_t0, am_t1, am_t2, am_t3, am_t4, am_tm1, am_nS, am_nP, am_nM, Int.ofNat_lt, Int.ofNat_le, h2, h7, h8]
  refine ⟨10, w.length, ⟨rfl, rfl⟩, ?_⟩
  refine am_callK [.ref b] [.int (Int32.ofNat w.length)] (d' := 0) (lim' := (am_tp σ, am_us σ)) rfl (by omega) (Nat.le_refl _) (Nat.le_refl _) rfl (Nat.le_of_ble_eq_true rfl) (am_recv h2) ?_
  refine c_jcoder hZ h0 (fun _ _ => ?_)
  simp (disch := omega) only [ax_const, ax_iload, ax_lload, ax_aload, ax_istore, ax_astore, ax_iinc, ax_i2, ax_i2n, ax_l2, ax_lsh, ax_ii, ax_il, ax_li, ax_pop, ax_dup, ax_dup2, ax_if, ax_cmp, ax_acmp, ax_goto, ax_getI, ax_getR, ax_putI, ax_putR, ax_gets, ax_getsT, ax_aldI, ax_aldR, ax_astI, ax_astR, ax_alen, ax_ret, ax_aret, ax_vret, am_st, am_kl, List.getElem?_cons_zero, List.getElem?_cons_succ, List.set_cons_zero, List.set_cons_succ, Value.category, true_and, and_true, if_true, if_false, reduceCtorEq, Bool.false_eq_true, false_implies, forall_const, Option.some.injEq, exists_eq_left', exists_eq_left, Sum.inl.injEq, Sum.inr.injEq, Prod.mk.injEq, nI_toInt, nI_clamp, am_ix_nI, am_ix_0, am_ix_1, am_ix_2, am_ix_3, am_n0, am_n1, am_n2, am_n3, am_n4, am_t0, am_t1, am_t2, am_t3, am_t4, am_tm1, am_nS, am_nP, am_nM, Int.ofNat_lt, Int.ofNat_le, Option.toList_some, Option.toList_none, List.cons_append, List.nil_append, List.append_nil, am_sr0]
  exact hQ
theorem c_jlatin {g : am_G} {l : Launch} {σ : am_S} {b : Nat} {w : List Nat} {Q : Option Value → am_S → Prop} (hZ : g.2.2.2.2 38 = .int 1) (h : xt_W g σ b w) (hQ : Q (some (.int 1)) σ) : am_C g l mJ0_isLatin1_aae02 0 (am_tp σ, am_us σ) [.ref b] σ Q := by
  obtain ⟨h1, h2, h3, h4, h5, y, h6, h7, h8, h9⟩ := h
  refine am_C.go [some (.ref b)] (by decide +kernel) (Nat.le_of_ble_eq_true rfl) rfl (kJ0_isLatin1_aae02_0 ?_)
  have o1 : ¬ (1 : Int32) = 0 := by decide
  simp (disch := omega) only [ax_const, ax_iload, ax_lload, ax_aload, ax_istore, ax_astore, ax_iinc, ax_i2, ax_i2n, ax_l2, ax_lsh, ax_ii, ax_il, ax_li, ax_pop, ax_dup, ax_dup2, ax_if, ax_cmp, ax_acmp, ax_goto, ax_getI, ax_getR, ax_putI, ax_putR, ax_gets, ax_getsT, ax_aldI, ax_aldR, ax_astI, ax_astR, ax_alen, ax_ret, ax_aret, ax_vret, am_st, am_kl, List.getElem?_cons_zero, List.getElem?_cons_succ, List.set_cons_zero, List.set_cons_succ, Value.category, true_and, and_true, if_true, if_false, reduceCtorEq, Bool.false_eq_true, false_implies, forall_const, Option.some.injEq, exists_eq_left', exists_eq_left, Sum.inl.injEq, Sum.inr.injEq, Prod.mk.injEq, nI_toInt, nI_clamp, am_ix_nI, am_ix_0, am_ix_1, am_ix_2, am_ix_3, am_n0, am_n1, am_n2, am_n3, am_n4, am_t0, am_t1, am_t2, am_t3, am_t4, am_tm1, am_nS, am_nP, am_nM, Int.ofNat_lt, Int.ofNat_le, ax_gets, hZ, h2, h3, o1]
  exact fun _ => ⟨⟨by simp, hQ⟩, fun z => absurd trivial z⟩
theorem c_jcheck3 {g : am_G} {l : Launch} {σ : am_S} {i n : Nat} {v : Value} {Q : Option Value → am_S → Prop} (hv : (∃ a, v = .ref a) ∨ v = .null) (hi : i < n) (hn : n < 2 ^ 31) (hQ : Q (some (.int (nI i))) σ) : am_C g l mJ3_checkIndex_8e157 0 (am_tp σ, am_us σ) [.int (nI i), .int (nI n), v] σ Q := by
  rcases hv with ⟨a, rfl⟩ | rfl
  · refine am_C.go [some (.int (nI i)), some (.int (nI n)), some (.ref a)] (by decide +kernel) (Nat.le_of_ble_eq_true rfl) rfl (kJ3_checkIndex_8e157_0 ?_)
    simp (disch := omega) only [ax_const, ax_iload, ax_lload, ax_aload, ax_istore, ax_astore, ax_iinc, ax_i2, ax_i2n, ax_l2, ax_lsh, ax_ii, ax_il, ax_li, ax_pop, ax_dup, ax_dup2, ax_if, ax_cmp, ax_acmp, ax_goto, ax_getI, ax_getR, ax_putI, ax_putR, ax_gets, ax_getsT, ax_aldI, ax_aldR, ax_astI, ax_astR, ax_alen, ax_ret, ax_aret, ax_vret, am_st, am_kl, List.getElem?_cons_zero, List.getElem?_cons_succ, List.set_cons_zero, List.set_cons_succ, Value.category, true_and, and_true, if_true, if_false, reduceCtorEq, Bool.false_eq_true, false_implies, forall_const, Option.some.injEq, exists_eq_left', exists_eq_left, Sum.inl.injEq, Sum.inr.injEq, Prod.mk.injEq, nI_toInt, nI_clamp, am_ix_nI, am_ix_0, am_ix_1, am_ix_2, am_ix_3, am_n0, am_n1, am_n2, am_n3, am_n4, am_t0, am_t1, am_t2, am_t3, am_t4, am_tm1, am_nS, am_nP, am_nM, Int.ofNat_lt, Int.ofNat_le]
    exact ⟨fun z => by omega, fun _ => ⟨fun _ => hQ, fun z => absurd hi z⟩⟩
  · refine am_C.go [some (.int (nI i)), some (.int (nI n)), some .null] (by decide +kernel) (Nat.le_of_ble_eq_true rfl) rfl (kJ3_checkIndex_8e157_0 ?_)
    simp (disch := omega) only [ax_const, ax_iload, ax_lload, ax_aload, ax_istore, ax_astore, ax_iinc, ax_i2, ax_i2n, ax_l2, ax_lsh, ax_ii, ax_il, ax_li, ax_pop, ax_dup, ax_dup2, ax_if, ax_cmp, ax_acmp, ax_goto, ax_getI, ax_getR, ax_putI, ax_putR, ax_gets, ax_getsT, ax_aldI, ax_aldR, ax_astI, ax_astR, ax_alen, ax_ret, ax_aret, ax_vret, am_st, am_kl, List.getElem?_cons_zero, List.getElem?_cons_succ, List.set_cons_zero, List.set_cons_succ, Value.category, true_and, and_true, if_true, if_false, reduceCtorEq, Bool.false_eq_true, false_implies, forall_const, Option.some.injEq, exists_eq_left', exists_eq_left, Sum.inl.injEq, Sum.inr.injEq, Prod.mk.injEq, nI_toInt, nI_clamp, am_ix_nI, am_ix_0, am_ix_1, am_ix_2, am_ix_3, am_n0, am_n1, am_n2, am_n3, am_n4, am_t0, am_t1, am_t2, am_t3, am_t4, am_tm1, am_nS, am_nP, am_nM, Int.ofNat_lt, Int.ofNat_le]
    exact ⟨fun z => by omega, fun _ => ⟨fun _ => hQ, fun z => absurd hi z⟩⟩
theorem c_jcheck {g : am_G} {l : Launch} {σ : am_S} {i n : Nat} {Q : Option Value → am_S → Prop} (hv : (∃ a, g.2.2.2.2 39 = .ref a) ∨ g.2.2.2.2 39 = .null) (hi : i < n) (hn : n < 2 ^ 31) (hQ : Q none σ) : am_C g l mJ0_checkIndex_df160 1 (am_tp σ, am_us σ) [.int (nI i), .int (nI n)] σ Q := by
  refine am_C.go [some (.int (nI i)), some (.int (nI n))] (by decide +kernel) (Nat.le_of_ble_eq_true rfl) rfl (kJ0_checkIndex_df160_0 ?_)
  simp (disch := omega) only [ax_const, ax_iload, ax_lload, ax_aload, ax_istore, ax_astore, ax_iinc, ax_i2, ax_i2n, ax_l2, ax_lsh, ax_ii, ax_il, ax_li, ax_pop, ax_dup, ax_dup2, ax_if, ax_cmp, ax_acmp, ax_goto, ax_getI, ax_getR, ax_putI, ax_putR, ax_gets, ax_getsT, ax_aldI, ax_aldR, ax_astI, ax_astR, ax_alen, ax_ret, ax_aret, ax_vret, am_st, am_kl, List.getElem?_cons_zero, List.getElem?_cons_succ, List.set_cons_zero, List.set_cons_succ, Value.category, true_and, and_true, if_true, if_false, reduceCtorEq, Bool.false_eq_true, false_implies, forall_const, Option.some.injEq, exists_eq_left', exists_eq_left, Sum.inl.injEq, Sum.inr.injEq, Prod.mk.injEq, nI_toInt, nI_clamp, am_ix_nI, am_ix_0, am_ix_1, am_ix_2, am_ix_3, am_n0, am_n1, am_n2, am_n3, am_n4, am_t0, am_t1, am_t2, am_t3, am_t4, am_tm1, am_nS, am_nP, am_nM, Int.ofNat_lt, Int.ofNat_le, ax_gets]
  refine am_callK [.int (nI i), .int (nI n), g.2.2.2.2 39] [] (d' := 0) (lim' := (am_tp σ, am_us σ)) rfl (by omega) (Nat.le_refl _) (Nat.le_refl _) rfl (Nat.le_of_ble_eq_true rfl) am_stat ?_
  refine c_jcheck3 hv hi hn (fun _ _ => ?_)
  simp (disch := omega) only [ax_const, ax_iload, ax_lload, ax_aload, ax_istore, ax_astore, ax_iinc, ax_i2, ax_i2n, ax_l2, ax_lsh, ax_ii, ax_il, ax_li, ax_pop, ax_dup, ax_dup2, ax_if, ax_cmp, ax_acmp, ax_goto, ax_getI, ax_getR, ax_putI, ax_putR, ax_gets, ax_getsT, ax_aldI, ax_aldR, ax_astI, ax_astR, ax_alen, ax_ret, ax_aret, ax_vret, am_st, am_kl, List.getElem?_cons_zero, List.getElem?_cons_succ, List.set_cons_zero, List.set_cons_succ, Value.category, true_and, and_true, if_true, if_false, reduceCtorEq, Bool.false_eq_true, false_implies, forall_const, Option.some.injEq, exists_eq_left', exists_eq_left, Sum.inl.injEq, Sum.inr.injEq, Prod.mk.injEq, nI_toInt, nI_clamp, am_ix_nI, am_ix_0, am_ix_1, am_ix_2, am_ix_3, am_n0, am_n1, am_n2, am_n3, am_n4, am_t0, am_t1, am_t2, am_t3, am_t4, am_tm1, am_nS, am_nP, am_nM, Int.ofNat_lt, Int.ofNat_le, Option.toList_some, Option.toList_none, List.cons_append, List.nil_append, List.append_nil]
  exact hQ
theorem c_jlcharAt {g : am_G} {l : Launch} {σ : am_S} {y n i c : Nat} {Q : Option Value → am_S → Prop} (hv : (∃ a, g.2.2.2.2 39 = .ref a) ∨ g.2.2.2.2 39 = .null) (hy : am_sh σ y = some (.inr (10, n))) (hn : n < 2 ^ 31) (hi : i < n) (hc : c < 128) (hyc : am_i σ y i = nI c) (hQ : Q (some (.int (nI c))) σ) : am_C g l mJ1_charAt_3b067 2 (am_tp σ, am_us σ) [.ref y, .int (nI i)] σ Q := by
  refine am_C.go [some (.ref y), some (.int (nI i))] (by decide +kernel) (Nat.le_of_ble_eq_true rfl) rfl (kJ1_charAt_3b067_0 ?_)
  simp (disch := omega) only [ax_const, ax_iload, ax_lload, ax_aload, ax_istore, ax_astore, ax_iinc, ax_i2, ax_i2n, ax_l2, ax_lsh, ax_ii, ax_il, ax_li, ax_pop, ax_dup, ax_dup2, ax_if, ax_cmp, ax_acmp, ax_goto, ax_getI, ax_getR, ax_putI, ax_putR, ax_gets, ax_getsT, ax_aldI, ax_aldR, ax_astI, ax_astR, ax_alen, ax_ret, ax_aret, ax_vret, am_st, am_kl, List.getElem?_cons_zero, List.getElem?_cons_succ, List.set_cons_zero, List.set_cons_succ, Value.category, true_and, and_true, if_true, if_false, reduceCtorEq, Bool.false_eq_true, false_implies, forall_const, Option.some.injEq, exists_eq_left', exists_eq_left, Sum.inl.injEq, Sum.inr.injEq, Prod.mk.injEq, nI_toInt, nI_clamp, am_ix_nI, am_ix_0, am_ix_1, am_ix_2, am_ix_3, am_n0, am_n1, am_n2, am_n3, am_n4, am_t0, am_t1, am_t2, am_t3, am_t4, am_tm1, am_nS, am_nP, am_nM, Int.ofNat_lt, Int.ofNat_le, hy]
  refine ⟨10, n, ⟨rfl, rfl⟩, ?_⟩
  refine am_callK [.int (nI i), .int (nI n)] [] (d' := 1) (lim' := (am_tp σ, am_us σ)) rfl (by omega) (Nat.le_refl _) (Nat.le_refl _) rfl (Nat.le_of_ble_eq_true rfl) am_stat ?_
  refine c_jcheck hv hi hn (fun _ _ => ?_)
  have e1 : nI c &&& 255 = nI c := by rw [pk_andN (by omega) 8 (by decide), Nat.mod_eq_of_lt (by omega)]
  have e2 : ((nI c).toUInt32 % 65536).toInt32 = nI c := by rw [pk_char, pk_tn (by omega), Nat.mod_eq_of_lt (by omega)]
  simp (disch := omega) only [ax_const, ax_iload, ax_lload, ax_aload, ax_istore, ax_astore, ax_iinc, ax_i2, ax_i2n, ax_l2, ax_lsh, ax_ii, ax_il, ax_li, ax_pop, ax_dup, ax_dup2, ax_if, ax_cmp, ax_acmp, ax_goto, ax_getI, ax_getR, ax_putI, ax_putR, ax_gets, ax_getsT, ax_aldI, ax_aldR, ax_astI, ax_astR, ax_alen, ax_ret, ax_aret, ax_vret, am_st, am_kl, List.getElem?_cons_zero, List.getElem?_cons_succ, List.set_cons_zero, List.set_cons_succ, Value.category, true_and, and_true, if_true, if_false, reduceCtorEq, Bool.false_eq_true, false_implies, forall_const, Option.some.injEq, exists_eq_left', exists_eq_left, Sum.inl.injEq, Sum.inr.injEq, Prod.mk.injEq, nI_toInt, nI_clamp, am_ix_nI, am_ix_0, am_ix_1, am_ix_2, am_ix_3, am_n0, am_n1, am_n2, am_n3, am_n4, am_t0, am_t1, am_t2, am_t3, am_t4, am_tm1, am_nS, am_nP, am_nM, Int.ofNat_lt, Int.ofNat_le, Option.toList_some, Option.toList_none, List.cons_append, List.nil_append, List.append_nil, hy, hyc, e1, e2]
  refine ⟨hi, fun x hx => ?_, hQ⟩
  cases hx
  exact (pk_charN (by omega)).1
theorem c_jcharAt {g : am_G} {l : Launch} {σ : am_S} {b i c : Nat} {w : List Nat} {Q : Option Value → am_S → Prop} (hZ : g.2.2.2.2 38 = .int 1) (hv : (∃ a, g.2.2.2.2 39 = .ref a) ∨ g.2.2.2.2 39 = .null) (h : xt_W g σ b w) (hi : w[i]? = some c) (hQ : Q (some (.int (nI c))) σ) : am_C g l mJ0_charAt_5068e 3 (am_tp σ, am_us σ) [.ref b, .int (nI i)] σ Q := by
  have h0 := h
  obtain ⟨h1, h2, h3, h4, h5, y, h6, h7, h8, h9⟩ := h
  have hil := (List.getElem?_eq_some_iff.mp hi).1
  have hcm : c ∈ w := List.mem_iff_getElem?.mpr ⟨i, hi⟩
  refine am_C.go [some (.ref b), some (.int (nI i))] (by decide +kernel) (Nat.le_of_ble_eq_true rfl) rfl (kJ0_charAt_5068e_0 ?_)
  simp (disch := omega) only [ax_const, ax_iload, ax_lload, ax_aload, ax_istore, ax_astore, ax_iinc, ax_i2, ax_i2n, ax_l2, ax_lsh, ax_ii, ax_il, ax_li, ax_pop, ax_dup, ax_dup2, ax_if, ax_cmp, ax_acmp, ax_goto, ax_getI, ax_getR, ax_putI, ax_putR, ax_gets, ax_getsT, ax_aldI, ax_aldR, ax_astI, ax_astR, ax_alen, ax_ret, ax_aret, ax_vret, am_st, am_kl, List.getElem?_cons_zero, List.getElem?_cons_succ, List.set_cons_zero, List.set_cons_succ, Value.category, true_and, and_true, if_true, if_false, reduceCtorEq, Bool.false_eq_true, false_implies, forall_const, Option.some.injEq, exists_eq_left', exists_eq_left, Sum.inl.injEq, Sum.inr.injEq, Prod.mk.injEq, nI_toInt, nI_clamp, am_ix_nI, am_ix_0, am_ix_1, am_ix_2, am_ix_3, am_n0, am_n1, am_n2, am_n3, am_n4, am_t0, am_t1, am_t2, am_t3, am_t4, am_tm1, am_nS, am_nP, am_nM, Int.ofNat_lt, Int.ofNat_le]
  refine am_callK [.ref b] [] (d' := 0) (lim' := (am_tp σ, am_us σ)) rfl (by omega) (Nat.le_refl _) (Nat.le_refl _) rfl (Nat.le_of_ble_eq_true rfl) (am_recv h2) ?_
  refine c_jlatin hZ h0 (fun _ _ => ?_)
  have o1 : ¬ (1 : Int32) = 0 := by decide
  simp (disch := omega) only [ax_const, ax_iload, ax_lload, ax_aload, ax_istore, ax_astore, ax_iinc, ax_i2, ax_i2n, ax_l2, ax_lsh, ax_ii, ax_il, ax_li, ax_pop, ax_dup, ax_dup2, ax_if, ax_cmp, ax_acmp, ax_goto, ax_getI, ax_getR, ax_putI, ax_putR, ax_gets, ax_getsT, ax_aldI, ax_aldR, ax_astI, ax_astR, ax_alen, ax_ret, ax_aret, ax_vret, am_st, am_kl, List.getElem?_cons_zero, List.getElem?_cons_succ, List.set_cons_zero, List.set_cons_succ, Value.category, true_and, and_true, if_true, if_false, reduceCtorEq, Bool.false_eq_true, false_implies, forall_const, Option.some.injEq, exists_eq_left', exists_eq_left, Sum.inl.injEq, Sum.inr.injEq, Prod.mk.injEq, nI_toInt, nI_clamp, am_ix_nI, am_ix_0, am_ix_1, am_ix_2, am_ix_3, am_n0, am_n1, am_n2, am_n3, am_n4, am_t0, am_t1, am_t2, am_t3, am_t4, am_tm1, am_nS, am_nP, am_nM, Int.ofNat_lt, Int.ofNat_le, Option.toList_some, Option.toList_none, List.cons_append, List.nil_append, List.append_nil, o1, h2, h7, not_false_eq_true]
  refine am_callK [.ref y, .int (nI i)] [] (d' := 2) (lim' := (am_tp σ, am_us σ)) rfl (by omega) (Nat.le_refl _) (Nat.le_refl _) rfl (Nat.le_of_ble_eq_true rfl) am_stat ?_
  refine c_jlcharAt hv h8 (by omega) hil (h5 c hcm) (h9 i c hi) (fun _ _ => ?_)
  simp (disch := omega) only [ax_const, ax_iload, ax_lload, ax_aload, ax_istore, ax_astore, ax_iinc, ax_i2, ax_i2n, ax_l2, ax_lsh, ax_ii, ax_il, ax_li, ax_pop, ax_dup, ax_dup2, ax_if, ax_cmp, ax_acmp, ax_goto, ax_getI, ax_getR, ax_putI, ax_putR, ax_gets, ax_getsT, ax_aldI, ax_aldR, ax_astI, ax_astR, ax_alen, ax_ret, ax_aret, ax_vret, am_st, am_kl, List.getElem?_cons_zero, List.getElem?_cons_succ, List.set_cons_zero, List.set_cons_succ, Value.category, true_and, and_true, if_true, if_false, reduceCtorEq, Bool.false_eq_true, false_implies, forall_const, Option.some.injEq, exists_eq_left', exists_eq_left, Sum.inl.injEq, Sum.inr.injEq, Prod.mk.injEq, nI_toInt, nI_clamp, am_ix_nI, am_ix_0, am_ix_1, am_ix_2, am_ix_3, am_n0, am_n1, am_n2, am_n3, am_n4, am_t0, am_t1, am_t2, am_t3, am_t4, am_tm1, am_nS, am_nP, am_nM, Int.ofNat_lt, Int.ofNat_le, Option.toList_some, Option.toList_none, List.cons_append, List.nil_append, List.append_nil]
  refine ⟨fun x hx => ?_, hQ⟩
  cases hx
  have := h5 c hcm
  exact (pk_charN (by omega)).1
/-! isAt, of -/
/-- the text at a -/
def xn_X (σ : am_S) (a : Nat) (dr : List Nat) : Prop := am_sh σ a = some (.inr (1, 80)) ∧ dr.length ≤ 80 ∧ ∀ i c, dr[i]? = some c → c < 128 ∧ am_i σ a i = nI c
theorem xn_X.fm {P : Nat → Prop} {σ σ' : am_S} {a : Nat} {dr : List Nat} (h : xn_X σ a dr) (hf : am_fm P σ σ') (hP : ¬ P a) : xn_X σ' a dr := by
  unfold xn_X
  rw [hf.1, (hf.2.2.2 a hP).1]
  exact h
theorem xn_at_loop {g : am_G} {l : Launch} {σ : am_S} {a t d : Nat} {w dr pre post : List Nat} {Q : Option Value → am_S → Prop} (hd : 4 ≤ d) (hT : xt_T g σ) (ht : t < 37) (hX : xn_X σ a dr) (hdr : dr = pre ++ w ++ post) (hl : (xt_w t).length = w.length) (hQ : Q (some (.int (if xt_w t = w then 1 else 0))) σ) :
    ∀ (T1 T2 done : List Nat), xt_w t = done ++ T1 → w = done ++ T2 → am_W g l mX8_isAt d (am_tp σ, am_us σ) Q 18 [some (.ref (am_tk g t)), some (.ref a), some (.int (nI pre.length)), some (.int (nI (pre.length + w.length))), some (.int (nI done.length))] [] σ := by
  obtain ⟨q1, q2, q3, q4, q5⟩ := hT
  obtain ⟨b, b1, b2⟩ := q2 t ht
  obtain ⟨k1, k2, k3, k4⟩ := q1 t ht
  obtain ⟨x1, x2, x3⟩ := hX
  have hdl : dr.length = pre.length + w.length + post.length := by rw [hdr, List.length_append, List.length_append]
  intro T1
  induction T1 with
  | nil =>
    intro T2 done h1 h2
    have l1 : (xt_w t).length = done.length := by rw [h1]; simp
    have l2 : w.length = done.length + T2.length := by rw [h2]; simp
    have eT : T2 = [] := List.length_eq_zero_iff.mp (by omega)
    subst eT
    refine kX8_isAt_18 ?_
    simp (disch := omega) only [ax_const, ax_iload, ax_lload, ax_aload, ax_istore, ax_astore, ax_iinc, ax_i2, ax_i2n, ax_l2, ax_lsh, ax_ii, ax_il, ax_li, ax_pop, ax_dup, ax_dup2, ax_if, ax_cmp, ax_acmp, ax_goto, ax_getI, ax_getR, ax_putI, ax_putR, ax_gets, ax_getsT, ax_aldI, ax_aldR, ax_astI, ax_astR, ax_alen, ax_ret, ax_aret, ax_vret, am_st, am_kl, List.getElem?_cons_zero, List.getElem?_cons_succ, List.set_cons_zero, List.set_cons_succ, Value.category, true_and, and_true, if_true, if_false, reduceCtorEq, Bool.false_eq_true, false_implies, forall_const, Option.some.injEq, exists_eq_left', exists_eq_left, Sum.inl.injEq, Sum.inr.injEq, Prod.mk.injEq, nI_toInt, nI_clamp, am_ix_nI, am_ix_0, am_ix_1, am_ix_2, am_ix_3, am_n0, am_n1, am_n2, am_n3, am_n4, am_t0, am_t1, am_t2, am_t3, am_t4, am_tm1, am_nS, am_nP, am_nM, Int.ofNat_lt, Int.ofNat_le, k1, b1]
    refine am_callK [.ref b] [.int (nI done.length)] (d' := 1) (lim' := (am_tp σ, am_us σ)) rfl (by omega) (Nat.le_refl _) (Nat.le_refl _) rfl (Nat.le_of_ble_eq_true rfl) (am_recv b2.2.1) ?_
    refine c_jlength q4 b2 (fun _ _ => ?_)
    rw [if_pos (by rw [h1, h2])] at hQ
    simp (disch := omega) only [ax_const, ax_iload, ax_lload, ax_aload, ax_istore, ax_astore, ax_iinc, ax_i2, ax_i2n, ax_l2, ax_lsh, ax_ii, ax_il, ax_li, ax_pop, ax_dup, ax_dup2, ax_if, ax_cmp, ax_acmp, ax_goto, ax_getI, ax_getR, ax_putI, ax_putR, ax_gets, ax_getsT, ax_aldI, ax_aldR, ax_astI, ax_astR, ax_alen, ax_ret, ax_aret, ax_vret, am_st, am_kl, List.getElem?_cons_zero, List.getElem?_cons_succ, List.set_cons_zero, List.set_cons_succ, Value.category, true_and, and_true, if_true, if_false, reduceCtorEq, Bool.false_eq_true, false_implies, forall_const, Option.some.injEq, exists_eq_left', exists_eq_left, Sum.inl.injEq, Sum.inr.injEq, Prod.mk.injEq, nI_toInt, nI_clamp, am_ix_nI, am_ix_0, am_ix_1, am_ix_2, am_ix_3, am_n0, am_n1, am_n2, am_n3, am_n4, am_t0, am_t1, am_t2, am_t3, am_t4, am_tm1, am_nS, am_nP, am_nM, Int.ofNat_lt, Int.ofNat_le, Option.toList_some, Option.toList_none, List.cons_append, List.nil_append, List.append_nil]
    exact ⟨fun z => by omega, fun _ => ⟨by simp, hQ⟩⟩
  | cons c T1 ih =>
    intro T2 done h1 h2
    have l1 : (xt_w t).length = done.length + (T1.length + 1) := by rw [h1]; simp
    have l2 : w.length = done.length + T2.length := by rw [h2]; simp
    obtain ⟨c2, T2, rfl⟩ : ∃ c2 T3, T2 = c2 :: T3 := by
      cases T2 with
      | nil => simp at l2; omega
      | cons c2 T3 => exact ⟨c2, T3, rfl⟩
    have g1 : (xt_w t)[done.length]? = some c := by rw [h1]; simp
    have g2 : dr[pre.length + done.length]? = some c2 := by
      rw [hdr, h2, List.append_assoc, List.getElem?_append_right (by omega), Nat.add_sub_cancel_left]
      simp
    obtain ⟨y1, y2⟩ := x3 _ _ g2
    have hcm : c < 128 := b2.2.2.2.2.1 c (List.mem_iff_getElem?.mpr ⟨_, g1⟩)
    refine kX8_isAt_18 ?_
    simp (disch := omega) only [ax_const, ax_iload, ax_lload, ax_aload, ax_istore, ax_astore, ax_iinc, ax_i2, ax_i2n, ax_l2, ax_lsh, ax_ii, ax_il, ax_li, ax_pop, ax_dup, ax_dup2, ax_if, ax_cmp, ax_acmp, ax_goto, ax_getI, ax_getR, ax_putI, ax_putR, ax_gets, ax_getsT, ax_aldI, ax_aldR, ax_astI, ax_astR, ax_alen, ax_ret, ax_aret, ax_vret, am_st, am_kl, List.getElem?_cons_zero, List.getElem?_cons_succ, List.set_cons_zero, List.set_cons_succ, Value.category, true_and, and_true, if_true, if_false, reduceCtorEq, Bool.false_eq_true, false_implies, forall_const, Option.some.injEq, exists_eq_left', exists_eq_left, Sum.inl.injEq, Sum.inr.injEq, Prod.mk.injEq, nI_toInt, nI_clamp, am_ix_nI, am_ix_0, am_ix_1, am_ix_2, am_ix_3, am_n0, am_n1, am_n2, am_n3, am_n4, am_t0, am_t1, am_t2, am_t3, am_t4, am_tm1, am_nS, am_nP, am_nM, Int.ofNat_lt, Int.ofNat_le, k1, b1]
    refine am_callK [.ref b] [.int (nI done.length)] (d' := 1) (lim' := (am_tp σ, am_us σ)) rfl (by omega) (Nat.le_refl _) (Nat.le_refl _) rfl (Nat.le_of_ble_eq_true rfl) (am_recv b2.2.1) ?_
    refine c_jlength q4 b2 (fun _ _ => ?_)
    simp (disch := omega) only [ax_const, ax_iload, ax_lload, ax_aload, ax_istore, ax_astore, ax_iinc, ax_i2, ax_i2n, ax_l2, ax_lsh, ax_ii, ax_il, ax_li, ax_pop, ax_dup, ax_dup2, ax_if, ax_cmp, ax_acmp, ax_goto, ax_getI, ax_getR, ax_putI, ax_putR, ax_gets, ax_getsT, ax_aldI, ax_aldR, ax_astI, ax_astR, ax_alen, ax_ret, ax_aret, ax_vret, am_st, am_kl, List.getElem?_cons_zero, List.getElem?_cons_succ, List.set_cons_zero, List.set_cons_succ, Value.category, true_and, and_true, if_true, if_false, reduceCtorEq, Bool.false_eq_true, false_implies, forall_const, Option.some.injEq, exists_eq_left', exists_eq_left, Sum.inl.injEq, Sum.inr.injEq, Prod.mk.injEq, nI_toInt, nI_clamp, am_ix_nI, am_ix_0, am_ix_1, am_ix_2, am_ix_3, am_n0, am_n1, am_n2, am_n3, am_n4, am_t0, am_t1, am_t2, am_t3, am_t4, am_tm1, am_nS, am_nP, am_nM, Int.ofNat_lt, Int.ofNat_le, Option.toList_some, Option.toList_none, List.cons_append, List.nil_append, List.append_nil, k1, b1]
    refine ⟨fun _ => ?_, fun z => by omega⟩
    refine am_callK [.ref b, .int (nI done.length)] [] (d' := 3) (lim' := (am_tp σ, am_us σ)) rfl (by omega) (Nat.le_refl _) (Nat.le_refl _) rfl (Nat.le_of_ble_eq_true rfl) (am_recv b2.2.1) ?_
    refine c_jcharAt q4 q5 b2 g1 (fun _ _ => ?_)
    simp (disch := omega) only [ax_const, ax_iload, ax_lload, ax_aload, ax_istore, ax_astore, ax_iinc, ax_i2, ax_i2n, ax_l2, ax_lsh, ax_ii, ax_il, ax_li, ax_pop, ax_dup, ax_dup2, ax_if, ax_cmp, ax_acmp, ax_goto, ax_getI, ax_getR, ax_putI, ax_putR, ax_gets, ax_getsT, ax_aldI, ax_aldR, ax_astI, ax_astR, ax_alen, ax_ret, ax_aret, ax_vret, am_st, am_kl, List.getElem?_cons_zero, List.getElem?_cons_succ, List.set_cons_zero, List.set_cons_succ, Value.category, true_and, and_true, if_true, if_false, reduceCtorEq, Bool.false_eq_true, false_implies, forall_const, Option.some.injEq, exists_eq_left', exists_eq_left, Sum.inl.injEq, Sum.inr.injEq, Prod.mk.injEq, nI_toInt, nI_clamp, am_ix_nI, am_ix_0, am_ix_1, am_ix_2, am_ix_3, am_n0, am_n1, am_n2, am_n3, am_n4, am_t0, am_t1, am_t2, am_t3, am_t4, am_tm1, am_nS, am_nP, am_nM, Int.ofNat_lt, Int.ofNat_le, Option.toList_some, Option.toList_none, List.cons_append, List.nil_append, List.append_nil, nI_add, x1, y2]
    refine ⟨by omega, fun z => ?_, fun z => ?_⟩
    · have e : c = c2 := (nI_inj (by omega) (by omega)).mp z
      subst e
      have := ih T2 (done ++ [c]) (by rw [h1]; simp) (by rw [h2]; simp)
      rw [List.length_append] at this
      exact this
    · rw [if_neg (fun q => z (by
        rw [h1, h2] at q
        have q := List.append_cancel_left q
        cases q
        rfl))] at hQ
      exact ⟨by simp, hQ⟩
theorem c_tisAt {g : am_G} {l : Launch} {σ : am_S} {a t : Nat} {w dr pre post : List Nat} {Q : Option Value → am_S → Prop} (hT : xt_T g σ) (ht : t < 37) (hX : xn_X σ a dr) (hdr : dr = pre ++ w ++ post) (hQ : Q (some (.int (if xt_w t = w then 1 else 0))) σ) : am_C g l mX8_isAt 4 (am_tp σ, am_us σ) [.ref (am_tk g t), .ref a, .int (nI pre.length), .int (nI (pre.length + w.length))] σ Q := by
  have hT0 := hT
  have hX0 := hX
  obtain ⟨q1, q2, q3, q4, q5⟩ := hT
  obtain ⟨b, b1, b2⟩ := q2 t ht
  obtain ⟨k1, k2, k3, k4⟩ := q1 t ht
  obtain ⟨x1, x2, x3⟩ := hX
  have hdl : dr.length = pre.length + w.length + post.length := by rw [hdr, List.length_append, List.length_append]
  have hwl := b2.2.2.2.1
  refine am_C.go [some (.ref (am_tk g t)), some (.ref a), some (.int (nI pre.length)), some (.int (nI (pre.length + w.length))), none] (by decide +kernel) (Nat.le_of_ble_eq_true rfl) rfl (kX8_isAt_0 ?_)
  simp (disch := omega) only [ax_const, ax_iload, ax_lload, ax_aload, ax_istore, ax_astore, ax_iinc, ax_i2, ax_i2n, ax_l2, ax_lsh, ax_ii, ax_il, ax_li, ax_pop, ax_dup, ax_dup2, ax_if, ax_cmp, ax_acmp, ax_goto, ax_getI, ax_getR, ax_putI, ax_putR, ax_gets, ax_getsT, ax_aldI, ax_aldR, ax_astI, ax_astR, ax_alen, ax_ret, ax_aret, ax_vret, am_st, am_kl, List.getElem?_cons_zero, List.getElem?_cons_succ, List.set_cons_zero, List.set_cons_succ, Value.category, true_and, and_true, if_true, if_false, reduceCtorEq, Bool.false_eq_true, false_implies, forall_const, Option.some.injEq, exists_eq_left', exists_eq_left, Sum.inl.injEq, Sum.inr.injEq, Prod.mk.injEq, nI_toInt, nI_clamp, am_ix_nI, am_ix_0, am_ix_1, am_ix_2, am_ix_3, am_n0, am_n1, am_n2, am_n3, am_n4, am_t0, am_t1, am_t2, am_t3, am_t4, am_tm1, am_nS, am_nP, am_nM, Int.ofNat_lt, Int.ofNat_le, k1, b1]
  refine am_callK [.ref b] [] (d' := 1) (lim' := (am_tp σ, am_us σ)) rfl (by omega) (Nat.le_refl _) (Nat.le_refl _) rfl (Nat.le_of_ble_eq_true rfl) (am_recv b2.2.1) ?_
  refine c_jlength q4 b2 (fun _ _ => ?_)
  have e1 : nI (pre.length + w.length) - nI pre.length = nI w.length := by rw [pk_sub (by omega)]; congr 1; omega
  have e2 : nI (xt_w t).length = nI w.length ↔ (xt_w t).length = w.length := nI_inj (by omega) (by omega)
  simp (disch := omega) only [ax_const, ax_iload, ax_lload, ax_aload, ax_istore, ax_astore, ax_iinc, ax_i2, ax_i2n, ax_l2, ax_lsh, ax_ii, ax_il, ax_li, ax_pop, ax_dup, ax_dup2, ax_if, ax_cmp, ax_acmp, ax_goto, ax_getI, ax_getR, ax_putI, ax_putR, ax_gets, ax_getsT, ax_aldI, ax_aldR, ax_astI, ax_astR, ax_alen, ax_ret, ax_aret, ax_vret, am_st, am_kl, List.getElem?_cons_zero, List.getElem?_cons_succ, List.set_cons_zero, List.set_cons_succ, Value.category, true_and, and_true, if_true, if_false, reduceCtorEq, Bool.false_eq_true, false_implies, forall_const, Option.some.injEq, exists_eq_left', exists_eq_left, Sum.inl.injEq, Sum.inr.injEq, Prod.mk.injEq, nI_toInt, nI_clamp, am_ix_nI, am_ix_0, am_ix_1, am_ix_2, am_ix_3, am_n0, am_n1, am_n2, am_n3, am_n4, am_t0, am_t1, am_t2, am_t3, am_t4, am_tm1, am_nS, am_nP, am_nM, Int.ofNat_lt, Int.ofNat_le, Option.toList_some, Option.toList_none, List.cons_append, List.nil_append, List.append_nil, e1, e2]
  refine ⟨fun z => xn_at_loop (Nat.le_refl _) hT0 ht hX0 hdr z hQ (xt_w t) w [] rfl rfl, fun z => ?_⟩
  rw [if_neg (fun q => z (by rw [q]))] at hQ
  exact ⟨by simp, hQ⟩
/-- the token that the word w is, from token t on -/
def xt_fd (w : List Nat) : Nat → Nat → Nat
  | 0, _ => 35
  | n + 1, t => if xt_w t = w then t else xt_fd w n (t + 1)
def xt_of (w : List Nat) : Nat := xt_fd w 37 0
theorem xt_fd_lt (w : List Nat) : ∀ n t, n + t = 37 → xt_fd w n t < 37
  | 0, _, _ => Nat.le_of_ble_eq_true rfl
  | n + 1, t, h => by
    rw [xt_fd]
    split
    · omega
    · exact xt_fd_lt w n (t + 1) (by omega)
theorem xt_of_lt (w : List Nat) : xt_of w < 37 := xt_fd_lt w 37 0 rfl
theorem xt_of_loop {g : am_G} {l : Launch} {σ : am_S} {a d : Nat} {w dr pre post : List Nat} {Q : Option Value → am_S → Prop} (hd : 5 ≤ d) (hT : xt_T g σ) (hX : xn_X σ a dr) (hdr : dr = pre ++ w ++ post) (hQ : Q (some (.ref (am_tk g (xt_of w)))) σ) :
    ∀ (n t : Nat), n + t = 37 → xt_fd w n t = xt_of w → am_W g l mX8_of d (am_tp σ, am_us σ) Q 2 [some (.ref a), some (.int (nI pre.length)), some (.int (nI (pre.length + w.length))), some (.int (nI t))] [] σ := by
  obtain ⟨q1, q2, ⟨q6, q7, q8⟩, q4, q5⟩ := id hT
  intro n
  induction n with
  | zero =>
    intro t hn he
    have e35 : 35 = xt_of w := he
    refine kX8_of_2 ?_
    simp (disch := omega) only [ax_const, ax_iload, ax_lload, ax_aload, ax_istore, ax_astore, ax_iinc, ax_i2, ax_i2n, ax_l2, ax_lsh, ax_ii, ax_il, ax_li, ax_pop, ax_dup, ax_dup2, ax_if, ax_cmp, ax_acmp, ax_goto, ax_getI, ax_getR, ax_putI, ax_putR, ax_gets, ax_getsT, ax_aldI, ax_aldR, ax_astI, ax_astR, ax_alen, ax_ret, ax_aret, ax_vret, am_st, am_kl, List.getElem?_cons_zero, List.getElem?_cons_succ, List.set_cons_zero, List.set_cons_succ, Value.category, true_and, and_true, if_true, if_false, reduceCtorEq, Bool.false_eq_true, false_implies, forall_const, Option.some.injEq, exists_eq_left', exists_eq_left, Sum.inl.injEq, Sum.inr.injEq, Prod.mk.injEq, nI_toInt, nI_clamp, am_ix_nI, am_ix_0, am_ix_1, am_ix_2, am_ix_3, am_n0, am_n1, am_n2, am_n3, am_n4, am_t0, am_t1, am_t2, am_t3, am_t4, am_tm1, am_nS, am_nP, am_nM, Int.ofNat_lt, Int.ofNat_le, q7]
    refine ⟨9, 37, ⟨rfl, rfl⟩, ?_⟩
    have e37 : (Int32.ofNat 37).toInt = 37 := rfl
    simp (disch := omega) only [ax_const, ax_iload, ax_lload, ax_aload, ax_istore, ax_astore, ax_iinc, ax_i2, ax_i2n, ax_l2, ax_lsh, ax_ii, ax_il, ax_li, ax_pop, ax_dup, ax_dup2, ax_if, ax_cmp, ax_acmp, ax_goto, ax_getI, ax_getR, ax_putI, ax_putR, ax_gets, ax_getsT, ax_aldI, ax_aldR, ax_astI, ax_astR, ax_alen, ax_ret, ax_aret, ax_vret, am_st, am_kl, List.getElem?_cons_zero, List.getElem?_cons_succ, List.set_cons_zero, List.set_cons_succ, Value.category, true_and, and_true, if_true, if_false, reduceCtorEq, Bool.false_eq_true, false_implies, forall_const, Option.some.injEq, exists_eq_left', exists_eq_left, Sum.inl.injEq, Sum.inr.injEq, Prod.mk.injEq, nI_toInt, nI_clamp, am_ix_nI, am_ix_0, am_ix_1, am_ix_2, am_ix_3, am_n0, am_n1, am_n2, am_n3, am_n4, am_t0, am_t1, am_t2, am_t3, am_t4, am_tm1, am_nS, am_nP, am_nM, Int.ofNat_lt, Int.ofNat_le, q7, e37]
    rw [e35]
    exact ⟨fun z => by omega, fun _ => hQ⟩
  | succ n ih =>
    intro t hn he
    rw [xt_fd] at he
    have k8 := q8 t (by omega)
    refine kX8_of_2 ?_
    simp (disch := omega) only [ax_const, ax_iload, ax_lload, ax_aload, ax_istore, ax_astore, ax_iinc, ax_i2, ax_i2n, ax_l2, ax_lsh, ax_ii, ax_il, ax_li, ax_pop, ax_dup, ax_dup2, ax_if, ax_cmp, ax_acmp, ax_goto, ax_getI, ax_getR, ax_putI, ax_putR, ax_gets, ax_getsT, ax_aldI, ax_aldR, ax_astI, ax_astR, ax_alen, ax_ret, ax_aret, ax_vret, am_st, am_kl, List.getElem?_cons_zero, List.getElem?_cons_succ, List.set_cons_zero, List.set_cons_succ, Value.category, true_and, and_true, if_true, if_false, reduceCtorEq, Bool.false_eq_true, false_implies, forall_const, Option.some.injEq, exists_eq_left', exists_eq_left, Sum.inl.injEq, Sum.inr.injEq, Prod.mk.injEq, nI_toInt, nI_clamp, am_ix_nI, am_ix_0, am_ix_1, am_ix_2, am_ix_3, am_n0, am_n1, am_n2, am_n3, am_n4, am_t0, am_t1, am_t2, am_t3, am_t4, am_tm1, am_nS, am_nP, am_nM, Int.ofNat_lt, Int.ofNat_le, q7]
    refine ⟨9, 37, ⟨rfl, rfl⟩, ?_⟩
    have e37 : (Int32.ofNat 37).toInt = 37 := rfl
    simp (disch := omega) only [ax_const, ax_iload, ax_lload, ax_aload, ax_istore, ax_astore, ax_iinc, ax_i2, ax_i2n, ax_l2, ax_lsh, ax_ii, ax_il, ax_li, ax_pop, ax_dup, ax_dup2, ax_if, ax_cmp, ax_acmp, ax_goto, ax_getI, ax_getR, ax_putI, ax_putR, ax_gets, ax_getsT, ax_aldI, ax_aldR, ax_astI, ax_astR, ax_alen, ax_ret, ax_aret, ax_vret, am_st, am_kl, List.getElem?_cons_zero, List.getElem?_cons_succ, List.set_cons_zero, List.set_cons_succ, Value.category, true_and, and_true, if_true, if_false, reduceCtorEq, Bool.false_eq_true, false_implies, forall_const, Option.some.injEq, exists_eq_left', exists_eq_left, Sum.inl.injEq, Sum.inr.injEq, Prod.mk.injEq, nI_toInt, nI_clamp, am_ix_nI, am_ix_0, am_ix_1, am_ix_2, am_ix_3, am_n0, am_n1, am_n2, am_n3, am_n4, am_t0, am_t1, am_t2, am_t3, am_t4, am_tm1, am_nS, am_nP, am_nM, Int.ofNat_lt, Int.ofNat_le, q7, e37, k8]
    refine ⟨fun _ => ⟨by omega, ?_⟩, fun z => by omega⟩
    refine am_callK [.ref (am_tk g t), .ref a, .int (nI pre.length), .int (nI (pre.length + w.length))] [] (d' := 4) (lim' := (am_tp σ, am_us σ)) rfl (by omega) (Nat.le_refl _) (Nat.le_refl _) rfl (Nat.le_of_ble_eq_true rfl) (am_recv (q1 t (by omega)).1) ?_
    refine c_tisAt hT (by omega) hX hdr (fun _ _ => ?_)
    simp (disch := omega) only [ax_const, ax_iload, ax_lload, ax_aload, ax_istore, ax_astore, ax_iinc, ax_i2, ax_i2n, ax_l2, ax_lsh, ax_ii, ax_il, ax_li, ax_pop, ax_dup, ax_dup2, ax_if, ax_cmp, ax_acmp, ax_goto, ax_getI, ax_getR, ax_putI, ax_putR, ax_gets, ax_getsT, ax_aldI, ax_aldR, ax_astI, ax_astR, ax_alen, ax_ret, ax_aret, ax_vret, am_st, am_kl, List.getElem?_cons_zero, List.getElem?_cons_succ, List.set_cons_zero, List.set_cons_succ, Value.category, true_and, and_true, if_true, if_false, reduceCtorEq, Bool.false_eq_true, false_implies, forall_const, Option.some.injEq, exists_eq_left', exists_eq_left, Sum.inl.injEq, Sum.inr.injEq, Prod.mk.injEq, nI_toInt, nI_clamp, am_ix_nI, am_ix_0, am_ix_1, am_ix_2, am_ix_3, am_n0, am_n1, am_n2, am_n3, am_n4, am_t0, am_t1, am_t2, am_t3, am_t4, am_tm1, am_nS, am_nP, am_nM, Int.ofNat_lt, Int.ofNat_le, Option.toList_some, Option.toList_none, List.cons_append, List.nil_append, List.append_nil]
    by_cases e : xt_w t = w
    · rw [if_pos e] at he ⊢
      have o1 : ¬ (1 : Int32) = 0 := by decide
      simp (disch := omega) only [ax_const, ax_iload, ax_lload, ax_aload, ax_istore, ax_astore, ax_iinc, ax_i2, ax_i2n, ax_l2, ax_lsh, ax_ii, ax_il, ax_li, ax_pop, ax_dup, ax_dup2, ax_if, ax_cmp, ax_acmp, ax_goto, ax_getI, ax_getR, ax_putI, ax_putR, ax_gets, ax_getsT, ax_aldI, ax_aldR, ax_astI, ax_astR, ax_alen, ax_ret, ax_aret, ax_vret, am_st, am_kl, List.getElem?_cons_zero, List.getElem?_cons_succ, List.set_cons_zero, List.set_cons_succ, Value.category, true_and, and_true, if_true, if_false, reduceCtorEq, Bool.false_eq_true, false_implies, forall_const, Option.some.injEq, exists_eq_left', exists_eq_left, Sum.inl.injEq, Sum.inr.injEq, Prod.mk.injEq, nI_toInt, nI_clamp, am_ix_nI, am_ix_0, am_ix_1, am_ix_2, am_ix_3, am_n0, am_n1, am_n2, am_n3, am_n4, am_t0, am_t1, am_t2, am_t3, am_t4, am_tm1, am_nS, am_nP, am_nM, Int.ofNat_lt, Int.ofNat_le, o1, q7, k8, not_false_eq_true]
      rw [he]
      exact ⟨by omega, hQ⟩
    · rw [if_neg e] at he ⊢
      simp (disch := omega) only [ax_const, ax_iload, ax_lload, ax_aload, ax_istore, ax_astore, ax_iinc, ax_i2, ax_i2n, ax_l2, ax_lsh, ax_ii, ax_il, ax_li, ax_pop, ax_dup, ax_dup2, ax_if, ax_cmp, ax_acmp, ax_goto, ax_getI, ax_getR, ax_putI, ax_putR, ax_gets, ax_getsT, ax_aldI, ax_aldR, ax_astI, ax_astR, ax_alen, ax_ret, ax_aret, ax_vret, am_st, am_kl, List.getElem?_cons_zero, List.getElem?_cons_succ, List.set_cons_zero, List.set_cons_succ, Value.category, true_and, and_true, if_true, if_false, reduceCtorEq, Bool.false_eq_true, false_implies, forall_const, Option.some.injEq, exists_eq_left', exists_eq_left, Sum.inl.injEq, Sum.inr.injEq, Prod.mk.injEq, nI_toInt, nI_clamp, am_ix_nI, am_ix_0, am_ix_1, am_ix_2, am_ix_3, am_n0, am_n1, am_n2, am_n3, am_n4, am_t0, am_t1, am_t2, am_t3, am_t4, am_tm1, am_nS, am_nP, am_nM, Int.ofNat_lt, Int.ofNat_le, not_true_eq_false]
      exact ih (t + 1) (by omega) he
theorem c_tof {g : am_G} {l : Launch} {σ : am_S} {a : Nat} {w dr pre post : List Nat} {Q : Option Value → am_S → Prop} (hT : xt_T g σ) (hX : xn_X σ a dr) (hdr : dr = pre ++ w ++ post) (hQ : Q (some (.ref (am_tk g (xt_of w)))) σ) : am_C g l mX8_of 5 (am_tp σ, am_us σ) [.ref a, .int (nI pre.length), .int (nI (pre.length + w.length))] σ Q := by
  refine am_C.go [some (.ref a), some (.int (nI pre.length)), some (.int (nI (pre.length + w.length))), none] (by decide +kernel) (Nat.le_of_ble_eq_true rfl) rfl (kX8_of_0 ?_)
  simp (disch := omega) only [ax_const, ax_iload, ax_lload, ax_aload, ax_istore, ax_astore, ax_iinc, ax_i2, ax_i2n, ax_l2, ax_lsh, ax_ii, ax_il, ax_li, ax_pop, ax_dup, ax_dup2, ax_if, ax_cmp, ax_acmp, ax_goto, ax_getI, ax_getR, ax_putI, ax_putR, ax_gets, ax_getsT, ax_aldI, ax_aldR, ax_astI, ax_astR, ax_alen, ax_ret, ax_aret, ax_vret, am_st, am_kl, List.getElem?_cons_zero, List.getElem?_cons_succ, List.set_cons_zero, List.set_cons_succ, Value.category, true_and, and_true, if_true, if_false, reduceCtorEq, Bool.false_eq_true, false_implies, forall_const, Option.some.injEq, exists_eq_left', exists_eq_left, Sum.inl.injEq, Sum.inr.injEq, Prod.mk.injEq, nI_toInt, nI_clamp, am_ix_nI, am_ix_0, am_ix_1, am_ix_2, am_ix_3, am_n0, am_n1, am_n2, am_n3, am_n4, am_t0, am_t1, am_t2, am_t3, am_t4, am_tm1, am_nS, am_nP, am_nM, Int.ofNat_lt, Int.ofNat_le]
  exact xt_of_loop (Nat.le_refl _) hT hX hdr hQ 37 0 rfl rfl
