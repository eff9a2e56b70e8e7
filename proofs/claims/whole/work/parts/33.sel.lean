/-! ===== Selection: point, isCovered, isFound ===== -/
def xl_S (σ : am_S) (e S : Nat) : Prop :=
  am_sh σ e = some (.inl 4) ∧ am_r σ e 0 = some (e + 1) ∧ am_r σ e 1 = some (e + 51) ∧ am_r σ e 2 = some S ∧ am_r σ e 4 = some (e + 101) ∧ am_r σ e 5 = some (e + 102) ∧ am_r σ e 7 = some (e + 103) ∧ am_r σ e 8 = some (e + 104) ∧ am_r σ e 9 = some (e + 105) ∧ am_r σ e 10 = some (e + 106) ∧ ∀ i, i < 6 → am_sh σ (e + 101 + i) = some (.inr (0, 40))
/-- where the working out of a select writes -/
def xl_P (S e b : Nat) : Prop := (b = S + 5 ∨ b = S + 9 ∨ b = S + 13 ∨ b = S + 15 ∨ b = S + 22 ∨ b = S + 26 ∨ b = S + 30) ∨ b = e ∨ (e + 101 ≤ b ∧ b < e + 107)
def xl_J (g : am_G) (σ : am_S) (e S : Nat) (k : Nat → Nat) (ss : Nat → List (Nat × Int32)) (f s : Nat) (two top : Bool) (L1 L2 : List xr_E) : Prop :=
  xt_K g σ ∧ xl_S σ e S ∧ (∃ p, xr_R σ (e + 1) 48 p L1) ∧ (two = true → ∃ p, xr_R σ (e + 51) 48 p L2) ∧ xs_S σ S ∧ xs_CS g σ S k ss ∧ am_i σ S 1 = (if top then 1 else 0) ∧ am_i σ S 3 = nI f ∧ am_i σ S 4 = (if two then nI s else -1) ∧ f < 2 ∧ s < 2 ∧ (two = true → f ≠ s) ∧ g.2.2.1.size ≤ S ∧ S + 31 ≤ e
theorem xl_J.up {g : am_G} {σ σ' : am_S} {e S f s : Nat} {k : Nat → Nat} {ss : Nat → List (Nat × Int32)} {two top : Bool} {L1 L2 : List xr_E} (h : xl_J g σ e S k ss f s two top L1 L2) (hf : am_fm (xl_P S e) σ σ') (hS : xs_S σ' S) (hr : am_r σ' e = am_r σ e) : xl_J g σ' e S k ss f s two top L1 L2 := by
  obtain ⟨h1, h2, ⟨p, h3⟩, h4, h5, h6, h7, h8, h9, h10, h11, h12, h13, h14⟩ := h
  have hn : ¬ xl_P S e S := by unfold xl_P; omega
  unfold xl_J xl_S
  rw [hr, hf.1, (hf.2.2.2 S hn).1]
  refine ⟨h1.fm hf (fun b x => by unfold xl_P at x; omega), h2, ⟨p, h3.fm hf (fun b x y z => by unfold xl_P at z; omega)⟩, fun q => ?_, hS, h6.fm hf (fun b x y z => by unfold xl_P at z; omega), h7, h8, h9, h10, h11, h12, h13, h14⟩
  obtain ⟨p2, h4⟩ := h4 q
  exact ⟨p2, h4.fm hf (fun b x y z => by unfold xl_P at z; omega)⟩
/-- the rows a, b are pointed at -/
def xl_en (two : Bool) (f s : Nat) (env : Nat → Int32) (a b : xr_E) : Prop := xs_m env f a ∧ xs_m env 2 a ∧ (two = true → xs_m env s b)
theorem c_lpoint {g : am_G} {l : Launch} {σ : am_S} {e S f s i j : Nat} {k : Nat → Nat} {ss : Nat → List (Nat × Int32)} {two top : Bool} {L1 L2 : List xr_E} {a b : xr_E} {Q : Option Value → am_S → Prop} (h : xl_J g σ e S k ss f s two top L1 L2) (hi : L1[i]? = some a) (hj : two = true → L2[j]? = some b) (hj2 : j < 2 ^ 31)
    (hQ : ∀ σ', xl_J g σ' e S k ss f s two top L1 L2 → xl_en two f s (xs_ev σ' S) a b → am_fm (fun b => b = S + 15) σ σ' → Q none σ') : am_C g l mX4_point 1 (am_tp σ, am_us σ) [.ref e, .int (nI i), .int (nI j)] σ Q := by
  have h0 := h
  obtain ⟨h1, h2, ⟨p, h3⟩, h4, h5, h6, h7, h8, h9, h10, h11, h12, h13, h14⟩ := h
  obtain ⟨y1, y2, y3, y4, y5, y6, y7, y8, y9, y10, y11⟩ := h2
  obtain ⟨b0, b1, b2, b3, b4, b5, b6, b7, b8⟩ := h3.get hi
  have hl1 := h3.2.2.2.1
  have hil := (List.getElem?_eq_some_iff.mp hi).1
  refine am_C.go [some (.ref e), some (.int (nI i)), some (.int (nI j))] (by decide +kernel) (Nat.le_of_ble_eq_true rfl) rfl (kX4_point_0 ?_)
  simp (disch := omega) only [ax_const, ax_iload, ax_lload, ax_aload, ax_istore, ax_astore, ax_iinc, ax_i2, ax_i2n, ax_l2, ax_lsh, ax_ii, ax_il, ax_li, ax_pop, ax_dup, ax_dup2, ax_if, ax_cmp, ax_acmp, ax_goto, ax_getI, ax_getR, ax_putI, ax_putR, ax_gets, ax_getsT, ax_aldI, ax_aldR, ax_astI, ax_astR, ax_alen, ax_ret, ax_aret, ax_vret, am_st, am_kl, List.getElem?_cons_zero, List.getElem?_cons_succ, List.set_cons_zero, List.set_cons_succ, Value.category, true_and, and_true, if_true, if_false, reduceCtorEq, Bool.false_eq_true, false_implies, forall_const, Option.some.injEq, exists_eq_left', exists_eq_left, Sum.inl.injEq, Sum.inr.injEq, Prod.mk.injEq, nI_toInt, nI_clamp, am_ix_nI, am_ix_0, am_ix_1, am_ix_2, am_ix_3, am_n0, am_n1, am_n2, am_n3, am_n4, am_t0, am_t1, am_t2, am_t3, am_t4, am_tm1, am_nS, am_nP, am_nM, Int.ofNat_lt, Int.ofNat_le, y1, y2, y4, h3.1, h3.2.1, h3.2.2.2.2.2.1, b1]
  refine ⟨by omega, ?_⟩
  refine am_callK [.ref S, .ref (p i)] [] (d' := 0) (lim' := (am_tp σ, am_us σ)) rfl (by decide) (Nat.le_refl _) (Nat.le_refl _) rfl (Nat.le_of_ble_eq_true rfl) (am_recv h5.1) ?_
  refine c_spoint h5 h8 h10 b4 (fun σ1 k1 k2 k3 k4 k5 t1 u1 => ?_)
  have hPe : am_fm (xl_P S e) σ σ1 := k5.mono (fun b x => Or.inl (by omega))
  have hJ1 := h0.up hPe k1 (k5.2.2.2 e (by omega)).2
  have r4 : am_sh σ1 (p i) = some (.inr (0, 4)) := by rw [k5.1]; exact b4
  have rat : xr_at σ1 (p i) a := by
    unfold xr_at
    rw [(k5.2.2.2 (p i) (by omega)).1]
    exact ⟨b5, b6, b7, b8⟩
  have z4 : am_r σ1 e 2 = some S := by rw [(k5.2.2.2 e (by omega)).2]; exact y4
  have z3 : am_r σ1 e 1 = some (e + 51) := by rw [(k5.2.2.2 e (by omega)).2]; exact y3
  have z1 : am_sh σ1 e = some (.inl 4) := by rw [k5.1]; exact y1
  have q4 : am_i σ1 S 4 = if two then nI s else -1 := by rw [(k5.2.2.2 S (by omega)).1]; exact h9
  simp (disch := omega) only [ax_const, ax_iload, ax_lload, ax_aload, ax_istore, ax_astore, ax_iinc, ax_i2, ax_i2n, ax_l2, ax_lsh, ax_ii, ax_il, ax_li, ax_pop, ax_dup, ax_dup2, ax_if, ax_cmp, ax_acmp, ax_goto, ax_getI, ax_getR, ax_putI, ax_putR, ax_gets, ax_getsT, ax_aldI, ax_aldR, ax_astI, ax_astR, ax_alen, ax_ret, ax_aret, ax_vret, am_st, am_kl, List.getElem?_cons_zero, List.getElem?_cons_succ, List.set_cons_zero, List.set_cons_succ, Value.category, true_and, and_true, if_true, if_false, reduceCtorEq, Bool.false_eq_true, false_implies, forall_const, Option.some.injEq, exists_eq_left', exists_eq_left, Sum.inl.injEq, Sum.inr.injEq, Prod.mk.injEq, nI_toInt, nI_clamp, am_ix_nI, am_ix_0, am_ix_1, am_ix_2, am_ix_3, am_n0, am_n1, am_n2, am_n3, am_n4, am_t0, am_t1, am_t2, am_t3, am_t4, am_tm1, am_nS, am_nP, am_nM, Int.ofNat_lt, Int.ofNat_le, Option.toList_some, Option.toList_none, List.cons_append, List.nil_append, List.append_nil, z1, z4]
  refine am_callK [.ref S] [] (d' := 0) (lim' := (am_tp σ1, am_us σ1)) rfl (by decide) (by rw [t1]; exact Nat.le_refl _) (by rw [u1]; exact Nat.le_refl _) rfl (by decide) (am_recv k1.1) ?_
  refine c_stwo k1 (fun _ _ => ?_)
  cases two with
  | false =>
    rw [q4, if_neg (show ¬ (false = true) by decide), if_pos rfl]
    simp (disch := omega) only [ax_const, ax_iload, ax_lload, ax_aload, ax_istore, ax_astore, ax_iinc, ax_i2, ax_i2n, ax_l2, ax_lsh, ax_ii, ax_il, ax_li, ax_pop, ax_dup, ax_dup2, ax_if, ax_cmp, ax_acmp, ax_goto, ax_getI, ax_getR, ax_putI, ax_putR, ax_gets, ax_getsT, ax_aldI, ax_aldR, ax_astI, ax_astR, ax_alen, ax_ret, ax_aret, ax_vret, am_st, am_kl, List.getElem?_cons_zero, List.getElem?_cons_succ, List.set_cons_zero, List.set_cons_succ, Value.category, true_and, and_true, if_true, if_false, reduceCtorEq, Bool.false_eq_true, false_implies, forall_const, Option.some.injEq, exists_eq_left', exists_eq_left, Sum.inl.injEq, Sum.inr.injEq, Prod.mk.injEq, nI_toInt, nI_clamp, am_ix_nI, am_ix_0, am_ix_1, am_ix_2, am_ix_3, am_n0, am_n1, am_n2, am_n3, am_n4, am_t0, am_t1, am_t2, am_t3, am_t4, am_tm1, am_nS, am_nP, am_nM, Int.ofNat_lt, Int.ofNat_le, Option.toList_some, Option.toList_none, List.cons_append, List.nil_append, List.append_nil]
    exact ⟨⟨t1, u1, hQ σ1 hJ1 ⟨c_pointed k2 r4 rat, c_pointed k3 r4 rat, fun z => by cases z⟩ k5⟩, fun z => absurd trivial z⟩
  | true =>
    rw [q4, if_pos rfl, if_neg (nI_m1 (by omega))]
    obtain ⟨p2, g2⟩ := hJ1.2.2.2.1 rfl
    have hjb := hj rfl
    obtain ⟨c0, c1, c2, c3, c4, c5, c6, c7, c8⟩ := g2.get hjb
    have o1 : ¬ (1 : Int32) = 0 := by decide
    simp (disch := omega) only [ax_const, ax_iload, ax_lload, ax_aload, ax_istore, ax_astore, ax_iinc, ax_i2, ax_i2n, ax_l2, ax_lsh, ax_ii, ax_il, ax_li, ax_pop, ax_dup, ax_dup2, ax_if, ax_cmp, ax_acmp, ax_goto, ax_getI, ax_getR, ax_putI, ax_putR, ax_gets, ax_getsT, ax_aldI, ax_aldR, ax_astI, ax_astR, ax_alen, ax_ret, ax_aret, ax_vret, am_st, am_kl, List.getElem?_cons_zero, List.getElem?_cons_succ, List.set_cons_zero, List.set_cons_succ, Value.category, true_and, and_true, if_true, if_false, reduceCtorEq, Bool.false_eq_true, false_implies, forall_const, Option.some.injEq, exists_eq_left', exists_eq_left, Sum.inl.injEq, Sum.inr.injEq, Prod.mk.injEq, nI_toInt, nI_clamp, am_ix_nI, am_ix_0, am_ix_1, am_ix_2, am_ix_3, am_n0, am_n1, am_n2, am_n3, am_n4, am_t0, am_t1, am_t2, am_t3, am_t4, am_tm1, am_nS, am_nP, am_nM, Int.ofNat_lt, Int.ofNat_le, Option.toList_some, Option.toList_none, List.cons_append, List.nil_append, List.append_nil, o1, z1, z3, z4, g2.1, g2.2.1, g2.2.2.2.2.2.1, c1]
    have hl2 := g2.2.2.2.1
    have hjl := (List.getElem?_eq_some_iff.mp hjb).1
    refine fun _ => ⟨by omega, ?_⟩
    refine am_callK [.ref S, .ref (p2 j)] [] (d' := 0) (lim' := (am_tp σ1, am_us σ1)) rfl (by decide) (by rw [t1]; exact Nat.le_refl _) (by rw [u1]; exact Nat.le_refl _) rfl (by decide) (am_recv k1.1) ?_
    rw [if_pos rfl] at q4
    have hfs := h12 rfl
    refine c_spointSecond k1 q4 h11 c4 (fun σ2 m1 m2 m3 m4 t2 u2 => ?_)
    have r42 : am_sh σ2 (p i) = some (.inr (0, 4)) := by rw [m4.1]; exact r4
    have rat2 : xr_at σ2 (p i) a := by
      unfold xr_at
      rw [(m4.2.2.2 (p i) (by omega)).1]
      exact rat
    have s42 : am_sh σ2 (p2 j) = some (.inr (0, 4)) := by rw [m4.1]; exact c4
    have sat2 : xr_at σ2 (p2 j) b := by
      unfold xr_at
      rw [(m4.2.2.2 (p2 j) (by omega)).1]
      exact ⟨c5, c6, c7, c8⟩
    have n2 : am_r σ2 (S + 15) f = some (p i) := by rw [m3 f hfs]; exact k2
    have n3 : am_r σ2 (S + 15) 2 = some (p i) := by rw [m3 2 (by omega)]; exact k3
    simp (disch := omega) only [ax_const, ax_iload, ax_lload, ax_aload, ax_istore, ax_astore, ax_iinc, ax_i2, ax_i2n, ax_l2, ax_lsh, ax_ii, ax_il, ax_li, ax_pop, ax_dup, ax_dup2, ax_if, ax_cmp, ax_acmp, ax_goto, ax_getI, ax_getR, ax_putI, ax_putR, ax_gets, ax_getsT, ax_aldI, ax_aldR, ax_astI, ax_astR, ax_alen, ax_ret, ax_aret, ax_vret, am_st, am_kl, List.getElem?_cons_zero, List.getElem?_cons_succ, List.set_cons_zero, List.set_cons_succ, Value.category, true_and, and_true, if_true, if_false, reduceCtorEq, Bool.false_eq_true, false_implies, forall_const, Option.some.injEq, exists_eq_left', exists_eq_left, Sum.inl.injEq, Sum.inr.injEq, Prod.mk.injEq, nI_toInt, nI_clamp, am_ix_nI, am_ix_0, am_ix_1, am_ix_2, am_ix_3, am_n0, am_n1, am_n2, am_n3, am_n4, am_t0, am_t1, am_t2, am_t3, am_t4, am_tm1, am_nS, am_nP, am_nM, Int.ofNat_lt, Int.ofNat_le, Option.toList_some, Option.toList_none, List.cons_append, List.nil_append, List.append_nil]
    exact ⟨t2.trans t1, u2.trans u1, hQ σ2 (hJ1.up (m4.mono (fun b x => Or.inl (by omega))) m1 (m4.2.2.2 e (by omega)).2) ⟨c_pointed n2 r42 rat2, c_pointed n3 r42 rat2, fun _ => c_pointed m2 s42 sat2⟩ (k5.tr m4)⟩
def xl_cv (two : Bool) (L1 L2 : List xr_E) (a b : xr_E) : Bool := L1.any (xr_cov a) || (two && L2.any (xr_cov b))
theorem c_lcovered {g : am_G} {l : Launch} {σ : am_S} {e S f s i j : Nat} {k : Nat → Nat} {ss : Nat → List (Nat × Int32)} {two top : Bool} {L1 L2 : List xr_E} {a b : xr_E} {Q : Option Value → am_S → Prop} (h : xl_J g σ e S k ss f s two top L1 L2) (hi : L1[i]? = some a) (hj : two = true → L2[j]? = some b)
    (hQ : Q (some (.int (if xl_cv two L1 L2 a b then 1 else 0))) σ) : am_C g l mX4_isCovered 2 (am_tp σ, am_us σ) [.ref e, .int (nI i), .int (nI j)] σ Q := by
  obtain ⟨h1, h2, ⟨p, h3⟩, h4, h5, h6, h7, h8, h9, h10, h11, h12, h13, h14⟩ := h
  obtain ⟨y1, y2, y3, y4, y5, y6, y7, y8, y9, y10, y11⟩ := h2
  obtain ⟨b0, b1, b2, b3, b4, b5, b6, b7, b8⟩ := h3.get hi
  have hil := (List.getElem?_eq_some_iff.mp hi).1
  have hl1 := h3.2.2.2.1
  have o1 : ¬ (1 : Int32) = 0 := by decide
  unfold xl_cv at hQ
  refine am_C.go [some (.ref e), some (.int (nI i)), some (.int (nI j))] (by decide +kernel) (Nat.le_of_ble_eq_true rfl) rfl (kX4_isCovered_0 ?_)
  simp (disch := omega) only [ax_const, ax_iload, ax_lload, ax_aload, ax_istore, ax_astore, ax_iinc, ax_i2, ax_i2n, ax_l2, ax_lsh, ax_ii, ax_il, ax_li, ax_pop, ax_dup, ax_dup2, ax_if, ax_cmp, ax_acmp, ax_goto, ax_getI, ax_getR, ax_putI, ax_putR, ax_gets, ax_getsT, ax_aldI, ax_aldR, ax_astI, ax_astR, ax_alen, ax_ret, ax_aret, ax_vret, am_st, am_kl, List.getElem?_cons_zero, List.getElem?_cons_succ, List.set_cons_zero, List.set_cons_succ, Value.category, true_and, and_true, if_true, if_false, reduceCtorEq, Bool.false_eq_true, false_implies, forall_const, Option.some.injEq, exists_eq_left', exists_eq_left, Sum.inl.injEq, Sum.inr.injEq, Prod.mk.injEq, nI_toInt, nI_clamp, am_ix_nI, am_ix_0, am_ix_1, am_ix_2, am_ix_3, am_n0, am_n1, am_n2, am_n3, am_n4, am_t0, am_t1, am_t2, am_t3, am_t4, am_tm1, am_nS, am_nP, am_nM, Int.ofNat_lt, Int.ofNat_le, y1, y2, h3.1, h3.2.1, h3.2.2.2.2.2.1, b1]
  refine ⟨by omega, ?_⟩
  refine am_callK [.ref (e + 1), .ref (p i)] [] (d' := 1) (lim' := (am_tp σ, am_us σ)) rfl (by decide) (Nat.le_refl _) (Nat.le_refl _) rfl (Nat.le_of_ble_eq_true rfl) (am_recv h3.1) ?_
  refine c_covers h3 b4 ⟨b5, b6, b7, b8⟩ (fun _ _ => ?_)
  cases hc1 : L1.any (xr_cov a) with
  | true =>
    rw [hc1] at hQ
    simp (disch := omega) only [ax_const, ax_iload, ax_lload, ax_aload, ax_istore, ax_astore, ax_iinc, ax_i2, ax_i2n, ax_l2, ax_lsh, ax_ii, ax_il, ax_li, ax_pop, ax_dup, ax_dup2, ax_if, ax_cmp, ax_acmp, ax_goto, ax_getI, ax_getR, ax_putI, ax_putR, ax_gets, ax_getsT, ax_aldI, ax_aldR, ax_astI, ax_astR, ax_alen, ax_ret, ax_aret, ax_vret, am_st, am_kl, List.getElem?_cons_zero, List.getElem?_cons_succ, List.set_cons_zero, List.set_cons_succ, Value.category, true_and, and_true, if_true, if_false, reduceCtorEq, Bool.false_eq_true, false_implies, forall_const, Option.some.injEq, exists_eq_left', exists_eq_left, Sum.inl.injEq, Sum.inr.injEq, Prod.mk.injEq, nI_toInt, nI_clamp, am_ix_nI, am_ix_0, am_ix_1, am_ix_2, am_ix_3, am_n0, am_n1, am_n2, am_n3, am_n4, am_t0, am_t1, am_t2, am_t3, am_t4, am_tm1, am_nS, am_nP, am_nM, Int.ofNat_lt, Int.ofNat_le, Option.toList_some, Option.toList_none, List.cons_append, List.nil_append, List.append_nil, o1]
    exact fun _ => ⟨by simp, hQ⟩
  | false =>
    rw [hc1] at hQ
    simp (disch := omega) only [ax_const, ax_iload, ax_lload, ax_aload, ax_istore, ax_astore, ax_iinc, ax_i2, ax_i2n, ax_l2, ax_lsh, ax_ii, ax_il, ax_li, ax_pop, ax_dup, ax_dup2, ax_if, ax_cmp, ax_acmp, ax_goto, ax_getI, ax_getR, ax_putI, ax_putR, ax_gets, ax_getsT, ax_aldI, ax_aldR, ax_astI, ax_astR, ax_alen, ax_ret, ax_aret, ax_vret, am_st, am_kl, List.getElem?_cons_zero, List.getElem?_cons_succ, List.set_cons_zero, List.set_cons_succ, Value.category, true_and, and_true, if_true, if_false, reduceCtorEq, Bool.false_eq_true, false_implies, forall_const, Option.some.injEq, exists_eq_left', exists_eq_left, Sum.inl.injEq, Sum.inr.injEq, Prod.mk.injEq, nI_toInt, nI_clamp, am_ix_nI, am_ix_0, am_ix_1, am_ix_2, am_ix_3, am_n0, am_n1, am_n2, am_n3, am_n4, am_t0, am_t1, am_t2, am_t3, am_t4, am_tm1, am_nS, am_nP, am_nM, Int.ofNat_lt, Int.ofNat_le, Option.toList_some, Option.toList_none, List.cons_append, List.nil_append, List.append_nil, y1, y4]
    refine ⟨?_, fun z => absurd trivial z⟩
    refine am_callK [.ref S] [] (d' := 0) (lim' := (am_tp σ, am_us σ)) rfl (by decide) (Nat.le_refl _) (Nat.le_refl _) rfl (Nat.le_of_ble_eq_true rfl) (am_recv h5.1) ?_
    refine c_stwo h5 (fun _ _ => ?_)
    cases two with
    | false =>
      rw [h9, if_neg (show ¬ (false = true) by decide), if_pos rfl]
      simp (disch := omega) only [ax_const, ax_iload, ax_lload, ax_aload, ax_istore, ax_astore, ax_iinc, ax_i2, ax_i2n, ax_l2, ax_lsh, ax_ii, ax_il, ax_li, ax_pop, ax_dup, ax_dup2, ax_if, ax_cmp, ax_acmp, ax_goto, ax_getI, ax_getR, ax_putI, ax_putR, ax_gets, ax_getsT, ax_aldI, ax_aldR, ax_astI, ax_astR, ax_alen, ax_ret, ax_aret, ax_vret, am_st, am_kl, List.getElem?_cons_zero, List.getElem?_cons_succ, List.set_cons_zero, List.set_cons_succ, Value.category, true_and, and_true, if_true, if_false, reduceCtorEq, Bool.false_eq_true, false_implies, forall_const, Option.some.injEq, exists_eq_left', exists_eq_left, Sum.inl.injEq, Sum.inr.injEq, Prod.mk.injEq, nI_toInt, nI_clamp, am_ix_nI, am_ix_0, am_ix_1, am_ix_2, am_ix_3, am_n0, am_n1, am_n2, am_n3, am_n4, am_t0, am_t1, am_t2, am_t3, am_t4, am_tm1, am_nS, am_nP, am_nM, Int.ofNat_lt, Int.ofNat_le, Option.toList_some, Option.toList_none, List.cons_append, List.nil_append, List.append_nil]
      exact ⟨⟨by simp, hQ⟩, fun z => absurd trivial z⟩
    | true =>
      rw [h9, if_pos rfl, if_neg (nI_m1 (by omega))]
      obtain ⟨p2, g2⟩ := h4 rfl
      have hjb := hj rfl
      obtain ⟨c0, c1, c2, c3, c4, c5, c6, c7, c8⟩ := g2.get hjb
      have hl2 := g2.2.2.2.1
      have hjl := (List.getElem?_eq_some_iff.mp hjb).1
      simp (disch := omega) only [ax_const, ax_iload, ax_lload, ax_aload, ax_istore, ax_astore, ax_iinc, ax_i2, ax_i2n, ax_l2, ax_lsh, ax_ii, ax_il, ax_li, ax_pop, ax_dup, ax_dup2, ax_if, ax_cmp, ax_acmp, ax_goto, ax_getI, ax_getR, ax_putI, ax_putR, ax_gets, ax_getsT, ax_aldI, ax_aldR, ax_astI, ax_astR, ax_alen, ax_ret, ax_aret, ax_vret, am_st, am_kl, List.getElem?_cons_zero, List.getElem?_cons_succ, List.set_cons_zero, List.set_cons_succ, Value.category, true_and, and_true, if_true, if_false, reduceCtorEq, Bool.false_eq_true, false_implies, forall_const, Option.some.injEq, exists_eq_left', exists_eq_left, Sum.inl.injEq, Sum.inr.injEq, Prod.mk.injEq, nI_toInt, nI_clamp, am_ix_nI, am_ix_0, am_ix_1, am_ix_2, am_ix_3, am_n0, am_n1, am_n2, am_n3, am_n4, am_t0, am_t1, am_t2, am_t3, am_t4, am_tm1, am_nS, am_nP, am_nM, Int.ofNat_lt, Int.ofNat_le, Option.toList_some, Option.toList_none, List.cons_append, List.nil_append, List.append_nil, o1, y1, y3, g2.1, g2.2.1, g2.2.2.2.2.2.1, c1]
      refine fun _ => ⟨by omega, ?_⟩
      refine am_callK [.ref (e + 51), .ref (p2 j)] [] (d' := 1) (lim' := (am_tp σ, am_us σ)) rfl (by decide) (Nat.le_refl _) (Nat.le_refl _) rfl (Nat.le_of_ble_eq_true rfl) (am_recv g2.1) ?_
      refine c_covers g2 c4 ⟨c5, c6, c7, c8⟩ (fun _ _ => ?_)
      cases hc2 : L2.any (xr_cov b) with
      | true =>
        rw [hc2] at hQ
        simp (disch := omega) only [ax_const, ax_iload, ax_lload, ax_aload, ax_istore, ax_astore, ax_iinc, ax_i2, ax_i2n, ax_l2, ax_lsh, ax_ii, ax_il, ax_li, ax_pop, ax_dup, ax_dup2, ax_if, ax_cmp, ax_acmp, ax_goto, ax_getI, ax_getR, ax_putI, ax_putR, ax_gets, ax_getsT, ax_aldI, ax_aldR, ax_astI, ax_astR, ax_alen, ax_ret, ax_aret, ax_vret, am_st, am_kl, List.getElem?_cons_zero, List.getElem?_cons_succ, List.set_cons_zero, List.set_cons_succ, Value.category, true_and, and_true, if_true, if_false, reduceCtorEq, Bool.false_eq_true, false_implies, forall_const, Option.some.injEq, exists_eq_left', exists_eq_left, Sum.inl.injEq, Sum.inr.injEq, Prod.mk.injEq, nI_toInt, nI_clamp, am_ix_nI, am_ix_0, am_ix_1, am_ix_2, am_ix_3, am_n0, am_n1, am_n2, am_n3, am_n4, am_t0, am_t1, am_t2, am_t3, am_t4, am_tm1, am_nS, am_nP, am_nM, Int.ofNat_lt, Int.ofNat_le, Option.toList_some, Option.toList_none, List.cons_append, List.nil_append, List.append_nil, o1]
        exact fun _ => ⟨by simp, hQ⟩
      | false =>
        rw [hc2] at hQ
        simp (disch := omega) only [ax_const, ax_iload, ax_lload, ax_aload, ax_istore, ax_astore, ax_iinc, ax_i2, ax_i2n, ax_l2, ax_lsh, ax_ii, ax_il, ax_li, ax_pop, ax_dup, ax_dup2, ax_if, ax_cmp, ax_acmp, ax_goto, ax_getI, ax_getR, ax_putI, ax_putR, ax_gets, ax_getsT, ax_aldI, ax_aldR, ax_astI, ax_astR, ax_alen, ax_ret, ax_aret, ax_vret, am_st, am_kl, List.getElem?_cons_zero, List.getElem?_cons_succ, List.set_cons_zero, List.set_cons_succ, Value.category, true_and, and_true, if_true, if_false, reduceCtorEq, Bool.false_eq_true, false_implies, forall_const, Option.some.injEq, exists_eq_left', exists_eq_left, Sum.inl.injEq, Sum.inr.injEq, Prod.mk.injEq, nI_toInt, nI_clamp, am_ix_nI, am_ix_0, am_ix_1, am_ix_2, am_ix_3, am_n0, am_n1, am_n2, am_n3, am_n4, am_t0, am_t1, am_t2, am_t3, am_t4, am_tm1, am_nS, am_nP, am_nM, Int.ofNat_lt, Int.ofNat_le, Option.toList_some, Option.toList_none, List.cons_append, List.nil_append, List.append_nil]
        exact ⟨⟨by simp, hQ⟩, fun z => absurd trivial z⟩
