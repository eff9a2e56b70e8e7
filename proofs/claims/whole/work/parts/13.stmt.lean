/-! ===== Statement ===== -/
/-- what of a statement's block never changes; the three rows that are pointed at are rows -/
def xs_S (σ : am_S) (S : Nat) : Prop :=
  am_sh σ S = some (.inl 6) ∧ am_r σ S 7 = some (S + 1) ∧ am_r σ S 8 = some (S + 2) ∧ am_r σ S 9 = some (S + 6) ∧ am_r σ S 10 = some (S + 10) ∧ am_r σ S 11 = some (S + 14) ∧ am_r σ S 12 = some (S + 15) ∧
  am_sh σ (S + 1) = some (.inr (7, 3)) ∧ (∀ i, i < 3 → am_r σ (S + 1) i = some (S + 19 + 4 * i)) ∧ am_sh σ (S + 14) = some (.inr (2, 3)) ∧ am_sh σ (S + 15) = some (.inr (3, 3)) ∧ ∀ j, j < 3 → ∃ b, am_r σ (S + 15) j = some b ∧ am_sh σ b = some (.inr (0, 4))
theorem xs_S.fm {P : Nat → Prop} {σ σ' : am_S} {S : Nat} (h : xs_S σ S) (hf : am_fm P σ σ') (h0 : ¬ P S) (h1 : ¬ P (S + 1)) (h2 : ¬ P (S + 15)) : xs_S σ' S := by
  obtain ⟨a1, a2, a3, a4, a5, a6, a7, a8, a9, a10, a11, a12⟩ := h
  unfold xs_S
  rw [hf.1, (hf.2.2.2 S h0).2, (hf.2.2.2 _ h1).2, (hf.2.2.2 _ h2).2]
  exact ⟨a1, a2, a3, a4, a5, a6, a7, a8, a9, a10, a11, a12⟩
/-- a row's column -/
def xr_col (e : xr_E) (c : Nat) : Int32 := if c = 0 then e.1 else if c = 1 then e.2.1 else if c = 2 then e.2.2.1 else e.2.2.2
theorem xr_at.col {σ : am_S} {a : Nat} {e : xr_E} (h : xr_at σ a e) {c : Nat} (hc : c < 4) : am_i σ a c = xr_col e c := by
  obtain ⟨h0, h1, h2, h3⟩ := h
  match c, hc with
  | 0, _ => exact h0
  | 1, _ => exact h1
  | 2, _ => exact h2
  | 3, _ => exact h3
/-- table j of a statement is pointed at a row with these columns -/
def xs_pt (σ : am_S) (S j : Nat) (e : xr_E) : Prop := ∃ b, am_r σ (S + 15) j = some b ∧ am_sh σ b = some (.inr (0, 4)) ∧ xr_at σ b e
/-- an environment holds the row e for table j -/
def xs_m (env : Nat → Int32) (j : Nat) (e : xr_E) : Prop := ∀ c, c < 4 → env (4 * j + c) = xr_col e c
theorem c_spoint {g : am_G} {l : Launch} {σ : am_S} {S a f : Nat} {Q : Option Value → am_S → Prop} (h : xs_S σ S) (hf : am_i σ S 3 = nI f) (hf2 : f < 2) (ha : am_sh σ a = some (.inr (0, 4)))
    (hQ : ∀ σ', xs_S σ' S → am_r σ' (S + 15) f = some a → am_r σ' (S + 15) 2 = some a → (∀ j, j ≠ f → j ≠ 2 → am_r σ' (S + 15) j = am_r σ (S + 15) j) → am_fm (fun b => b = S + 15) σ σ' → Q none σ') : am_C g l mX6_point 0 (am_tp σ, am_us σ) [.ref S, .ref a] σ Q := by
  obtain ⟨a1, a2, a3, a4, a5, a6, a7, a8, a9, a10, a11, a12⟩ := h
  refine am_C.go [some (.ref S), some (.ref a)] (by decide +kernel) (Nat.le_of_ble_eq_true rfl) rfl (kX6_point_0 ?_)
  simp (disch := omega) only [ax_const, ax_iload, ax_lload, ax_aload, ax_istore, ax_astore, ax_iinc, ax_i2, ax_i2n, ax_l2, ax_lsh, ax_ii, ax_il, ax_li, ax_pop, ax_dup, ax_dup2, ax_if, ax_cmp, ax_acmp, ax_goto, ax_getI, ax_getR, ax_putI, ax_putR, ax_gets, ax_getsT, ax_aldI, ax_aldR, ax_astI, ax_astR, ax_alen, ax_ret, ax_aret, ax_vret, am_st, am_kl, List.getElem?_cons_zero, List.getElem?_cons_succ, List.set_cons_zero, List.set_cons_succ, Value.category, true_and, and_true, if_true, if_false, reduceCtorEq, Bool.false_eq_true, false_implies, forall_const, Option.some.injEq, exists_eq_left', exists_eq_left, Sum.inl.injEq, Sum.inr.injEq, Prod.mk.injEq, nI_toInt, nI_clamp, am_ix_nI, am_ix_0, am_ix_1, am_ix_2, am_ix_3, am_n0, am_n1, am_n2, am_n3, am_n4, am_t0, am_t1, am_t2, am_t3, am_t4, am_tm1, am_nS, am_nP, am_nM, Int.ofNat_lt, Int.ofNat_le, am_sh_wi, am_sh_wr, am_r_wi, am_i_wr, am_tp_wi, am_tp_wr, am_us_wi, am_us_wr, am_i_wi, am_r_wr, a1, a7, a11, hf, ha]
  have e : ¬ (S = S + 15) := by omega
  have e1 : ¬ (S + 1 = S + 15) := by omega
  refine ⟨by omega, ⟨4, rfl⟩, ?_⟩
  simp (disch := omega) only [ax_const, ax_iload, ax_lload, ax_aload, ax_istore, ax_astore, ax_iinc, ax_i2, ax_i2n, ax_l2, ax_lsh, ax_ii, ax_il, ax_li, ax_pop, ax_dup, ax_dup2, ax_if, ax_cmp, ax_acmp, ax_goto, ax_getI, ax_getR, ax_putI, ax_putR, ax_gets, ax_getsT, ax_aldI, ax_aldR, ax_astI, ax_astR, ax_alen, ax_ret, ax_aret, ax_vret, am_st, am_kl, List.getElem?_cons_zero, List.getElem?_cons_succ, List.set_cons_zero, List.set_cons_succ, Value.category, true_and, and_true, if_true, if_false, reduceCtorEq, Bool.false_eq_true, false_implies, forall_const, Option.some.injEq, exists_eq_left', exists_eq_left, Sum.inl.injEq, Sum.inr.injEq, Prod.mk.injEq, nI_toInt, nI_clamp, am_ix_nI, am_ix_0, am_ix_1, am_ix_2, am_ix_3, am_n0, am_n1, am_n2, am_n3, am_n4, am_t0, am_t1, am_t2, am_t3, am_t4, am_tm1, am_nS, am_nP, am_nM, Int.ofNat_lt, Int.ofNat_le, e, false_and, a7, a11]
  refine ⟨by decide, ⟨4, rfl⟩, hQ _ ⟨a1, ?_, ?_, ?_, ?_, ?_, ?_, a8, fun i hi => ?_, a10, a11, fun j hj => ?_⟩ ?_ ?_ (fun j j1 j2 => ?_) ((am_fm.rf (P := fun b => b = S + 15)).wr rfl |>.wr rfl)⟩
  all_goals simp only [am_r_wr, e, e1, false_and, if_false, a2, a3, a4, a5, a6, a7, am_sh_wr]
  · exact a9 i hi
  · by_cases j2 : j = 2
    · exact ⟨a, by simp [j2], ha⟩
    · by_cases j1 : j = f
      · exact ⟨a, by simp [j1], ha⟩
      · obtain ⟨b, b1, b2⟩ := a12 j hj
        exact ⟨b, by simp [j1, j2, b1], b2⟩
  · by_cases j2 : f = 2
    · simp [j2]
    · simp [j2]
  · simp
  · simp [j1, j2]
theorem c_spointSecond {g : am_G} {l : Launch} {σ : am_S} {S a f : Nat} {Q : Option Value → am_S → Prop} (h : xs_S σ S) (hf : am_i σ S 4 = nI f) (hf2 : f < 2) (ha : am_sh σ a = some (.inr (0, 4)))
    (hQ : ∀ σ', xs_S σ' S → am_r σ' (S + 15) f = some a → (∀ j, j ≠ f → am_r σ' (S + 15) j = am_r σ (S + 15) j) → am_fm (fun b => b = S + 15) σ σ' → Q none σ') : am_C g l mX6_pointSecond 0 (am_tp σ, am_us σ) [.ref S, .ref a] σ Q := by
  obtain ⟨a1, a2, a3, a4, a5, a6, a7, a8, a9, a10, a11, a12⟩ := h
  refine am_C.go [some (.ref S), some (.ref a)] (by decide +kernel) (Nat.le_of_ble_eq_true rfl) rfl (kX6_pointSecond_0 ?_)
  have e : ¬ (S = S + 15) := by omega
  have e1 : ¬ (S + 1 = S + 15) := by omega
  simp (disch := omega) only [ax_const, ax_iload, ax_lload, ax_aload, ax_istore, ax_astore, ax_iinc, ax_i2, ax_i2n, ax_l2, ax_lsh, ax_ii, ax_il, ax_li, ax_pop, ax_dup, ax_dup2, ax_if, ax_cmp, ax_acmp, ax_goto, ax_getI, ax_getR, ax_putI, ax_putR, ax_gets, ax_getsT, ax_aldI, ax_aldR, ax_astI, ax_astR, ax_alen, ax_ret, ax_aret, ax_vret, am_st, am_kl, List.getElem?_cons_zero, List.getElem?_cons_succ, List.set_cons_zero, List.set_cons_succ, Value.category, true_and, and_true, if_true, if_false, reduceCtorEq, Bool.false_eq_true, false_implies, forall_const, Option.some.injEq, exists_eq_left', exists_eq_left, Sum.inl.injEq, Sum.inr.injEq, Prod.mk.injEq, nI_toInt, nI_clamp, am_ix_nI, am_ix_0, am_ix_1, am_ix_2, am_ix_3, am_n0, am_n1, am_n2, am_n3, am_n4, am_t0, am_t1, am_t2, am_t3, am_t4, am_tm1, am_nS, am_nP, am_nM, Int.ofNat_lt, Int.ofNat_le, am_sh_wi, am_sh_wr, am_r_wi, am_i_wr, am_tp_wi, am_tp_wr, am_us_wi, am_us_wr, am_i_wi, am_r_wr, a1, a7, a11, hf, ha]
  refine ⟨by omega, ⟨4, rfl⟩, hQ _ ⟨a1, ?_, ?_, ?_, ?_, ?_, ?_, a8, fun i hi => ?_, a10, a11, fun j hj => ?_⟩ ?_ (fun j j1 => ?_) ((am_fm.rf (P := fun b => b = S + 15)).wr rfl)⟩
  all_goals simp only [am_r_wr, e, e1, false_and, if_false, a2, a3, a4, a5, a6, a7, am_sh_wr]
  · exact a9 i hi
  · by_cases j1 : j = f
    · exact ⟨a, by simp [j1], ha⟩
    · obtain ⟨b, b1, b2⟩ := a12 j hj
      exact ⟨b, by simp [j1, b1], b2⟩
  · simp
  · simp [j1]
/-- the environment that a statement's rows make -/
def xs_ev (σ : am_S) (S : Nat) : Nat → Int32 := fun o => am_i σ ((am_r σ (S + 15) (o / 4)).getD 0) (o % 4)
theorem xs_S.env {σ : am_S} {S : Nat} (h : xs_S σ S) : xk_env σ (S + 15) (xs_ev σ S) := by
  obtain ⟨a1, a2, a3, a4, a5, a6, a7, a8, a9, a10, a11, a12⟩ := h
  refine ⟨a11, fun o ho => ?_⟩
  obtain ⟨b, b1, b2⟩ := a12 (o / 4) (by omega)
  refine ⟨b, b1, b2, ?_⟩
  unfold xs_ev
  rw [b1]
  rfl
theorem xs_pt.m {σ : am_S} {S j : Nat} {e : xr_E} (h : xs_pt σ S j e) : xs_m (xs_ev σ S) j e := by
  obtain ⟨b, b1, b2, b3⟩ := h
  intro c hc
  unfold xs_ev
  rw [show (4 * j + c) / 4 = j by omega, show (4 * j + c) % 4 = c by omega, b1]
  exact b3.col hc
theorem xs_S.apart {g : am_G} {σ : am_S} {S c kd : Nat} {ss : List (Nat × Int32)} (h : xs_S σ S) (hc : xk_C g σ c kd ss) : ∀ o, o < 12 → ∀ b, am_r σ (S + 15) (o / 4) = some b → b ≠ c + 3 := by
  intro o ho b hb e
  obtain ⟨b', b1, b2⟩ := h.2.2.2.2.2.2.2.2.2.2.2 (o / 4) (by omega)
  cases hb.symm.trans b1
  subst e
  have := hc.2.2.2.2.2.2.1
  rw [this] at b2
  simp at b2
theorem c_swork {g : am_G} {l : Launch} {σ : am_S} {S c kd : Nat} {ss : List (Nat × Int32)} {v : Int32} {Q : Option Value → am_S → Prop} (hK : xt_K g σ) (h : xs_S σ S) (hB : g.2.2.1.size ≤ c) (hc : xk_C g σ c kd ss) (hr : xk_run (xs_ev σ S) ss [] = some [v])
    (hQ : ∀ σ', am_fm (fun b => b = c + 3) σ σ' → Q (some (.int v)) σ') : am_C g l mX6_workOut 2 (am_tp σ, am_us σ) [.ref S, .ref c] σ Q := by
  have h0 := h
  obtain ⟨a1, a2, a3, a4, a5, a6, a7, a8, a9, a10, a11, a12⟩ := h
  refine am_C.go [some (.ref S), some (.ref c)] (by decide +kernel) (Nat.le_of_ble_eq_true rfl) rfl (kX6_workOut_0 ?_)
  simp (disch := omega) only [ax_const, ax_iload, ax_lload, ax_aload, ax_istore, ax_astore, ax_iinc, ax_i2, ax_i2n, ax_l2, ax_lsh, ax_ii, ax_il, ax_li, ax_pop, ax_dup, ax_dup2, ax_if, ax_cmp, ax_acmp, ax_goto, ax_getI, ax_getR, ax_putI, ax_putR, ax_gets, ax_getsT, ax_aldI, ax_aldR, ax_astI, ax_astR, ax_alen, ax_ret, ax_aret, ax_vret, am_st, am_kl, List.getElem?_cons_zero, List.getElem?_cons_succ, List.set_cons_zero, List.set_cons_succ, Value.category, true_and, and_true, if_true, if_false, reduceCtorEq, Bool.false_eq_true, false_implies, forall_const, Option.some.injEq, exists_eq_left', exists_eq_left, Sum.inl.injEq, Sum.inr.injEq, Prod.mk.injEq, nI_toInt, nI_clamp, am_ix_nI, am_ix_0, am_ix_1, am_ix_2, am_ix_3, am_n0, am_n1, am_n2, am_n3, am_n4, am_t0, am_t1, am_t2, am_t3, am_t4, am_tm1, am_nS, am_nP, am_nM, Int.ofNat_lt, Int.ofNat_le, a1, a7]
  refine am_callK [.ref c, .ref (S + 15)] [] (d' := 1) (lim' := (am_tp σ, am_us σ)) rfl (by decide) (Nat.le_refl _) (Nat.le_refl _) rfl (Nat.le_of_ble_eq_true rfl) (am_recv hc.1) ?_
  refine c_kwork hK hB hc h0.env (h0.apart hc) hr (fun σ' hf q1 q2 => ?_)
  simp only [ax_const, ax_iload, ax_lload, ax_aload, ax_istore, ax_astore, ax_iinc, ax_i2, ax_i2n, ax_l2, ax_lsh, ax_ii, ax_il, ax_li, ax_pop, ax_dup, ax_dup2, ax_if, ax_cmp, ax_acmp, ax_goto, ax_getI, ax_getR, ax_putI, ax_putR, ax_gets, ax_getsT, ax_aldI, ax_aldR, ax_astI, ax_astR, ax_alen, ax_ret, ax_aret, ax_vret, am_st, am_kl, List.getElem?_cons_zero, List.getElem?_cons_succ, List.set_cons_zero, List.set_cons_succ, Value.category, true_and, and_true, if_true, if_false, reduceCtorEq, Bool.false_eq_true, false_implies, forall_const, Option.some.injEq, exists_eq_left', exists_eq_left, Sum.inl.injEq, Sum.inr.injEq, Prod.mk.injEq, Option.toList_some, Option.toList_none, List.cons_append, List.nil_append, List.append_nil]
  exact ⟨q1, q2, hQ σ' hf⟩
theorem c_sholds {g : am_G} {l : Launch} {σ : am_S} {S kd : Nat} {ss : List (Nat × Int32)} {B : Bool} {Q : Option Value → am_S → Prop} (hK : xt_K g σ) (h : xs_S σ S) (hB : g.2.2.1.size ≤ S) (hc : xk_C g σ (S + 2) kd ss) (hr : (kd = 0 ∧ B = true) ∨ (kd = 1 ∧ xk_run (xs_ev σ S) ss [] = some [if B then 1 else 0]))
    (hQ : ∀ σ', am_fm (fun b => b = S + 5) σ σ' → Q (some (.int (if B then 1 else 0))) σ') : am_C g l mX6_holds 2 (am_tp σ, am_us σ) [.ref S] σ Q := by
  have h0 := h
  obtain ⟨a1, a2, a3, a4, a5, a6, a7, a8, a9, a10, a11, a12⟩ := h
  have hk0 := hc.2.2.2.2.2.2.2.1
  refine am_C.go [some (.ref S)] (by decide +kernel) (Nat.le_of_ble_eq_true rfl) rfl (kX6_holds_0 ?_)
  simp (disch := omega) only [ax_const, ax_iload, ax_lload, ax_aload, ax_istore, ax_astore, ax_iinc, ax_i2, ax_i2n, ax_l2, ax_lsh, ax_ii, ax_il, ax_li, ax_pop, ax_dup, ax_dup2, ax_if, ax_cmp, ax_acmp, ax_goto, ax_getI, ax_getR, ax_putI, ax_putR, ax_gets, ax_getsT, ax_aldI, ax_aldR, ax_astI, ax_astR, ax_alen, ax_ret, ax_aret, ax_vret, am_st, am_kl, List.getElem?_cons_zero, List.getElem?_cons_succ, List.set_cons_zero, List.set_cons_succ, Value.category, true_and, and_true, if_true, if_false, reduceCtorEq, Bool.false_eq_true, false_implies, forall_const, Option.some.injEq, exists_eq_left', exists_eq_left, Sum.inl.injEq, Sum.inr.injEq, Prod.mk.injEq, nI_toInt, nI_clamp, am_ix_nI, am_ix_0, am_ix_1, am_ix_2, am_ix_3, am_n0, am_n1, am_n2, am_n3, am_n4, am_t0, am_t1, am_t2, am_t3, am_t4, am_tm1, am_nS, am_nP, am_nM, Int.ofNat_lt, Int.ofNat_le, a1, a3, a7, hc.1, hk0]
  rcases hr with ⟨rfl, rfl⟩ | ⟨rfl, hr⟩
  · exact ⟨fun _ => ⟨by simp, hQ σ .rf⟩, fun x => absurd rfl x⟩
  · refine ⟨(fun x => by cases x), fun _ => ?_⟩
    refine am_callK [.ref (S + 2), .ref (S + 15)] [] (d' := 1) (lim' := (am_tp σ, am_us σ)) rfl (by decide) (Nat.le_refl _) (Nat.le_refl _) rfl (Nat.le_of_ble_eq_true rfl) (am_recv hc.1) ?_
    refine c_kwork hK (by omega) hc h0.env (h0.apart hc) hr (fun σ' hf q1 q2 => ?_)
    have hq := hQ σ' hf
    simp only [ax_const, ax_iload, ax_lload, ax_aload, ax_istore, ax_astore, ax_iinc, ax_i2, ax_i2n, ax_l2, ax_lsh, ax_ii, ax_il, ax_li, ax_pop, ax_dup, ax_dup2, ax_if, ax_cmp, ax_acmp, ax_goto, ax_getI, ax_getR, ax_putI, ax_putR, ax_gets, ax_getsT, ax_aldI, ax_aldR, ax_astI, ax_astR, ax_alen, ax_ret, ax_aret, ax_vret, am_st, am_kl, List.getElem?_cons_zero, List.getElem?_cons_succ, List.set_cons_zero, List.set_cons_succ, Value.category, true_and, and_true, if_true, if_false, reduceCtorEq, Bool.false_eq_true, false_implies, forall_const, Option.some.injEq, exists_eq_left', exists_eq_left, Sum.inl.injEq, Sum.inr.injEq, Prod.mk.injEq, Option.toList_some, Option.toList_none, List.cons_append, List.nil_append, List.append_nil]
    cases B with
    | true => exact ⟨fun _ => ⟨by simp, q1, q2, hq⟩, fun x => absurd rfl x⟩
    | false => exact ⟨fun x => absurd x (by decide), fun _ => ⟨by simp, q1, q2, hq⟩⟩
theorem c_stwo {g : am_G} {l : Launch} {σ : am_S} {S : Nat} {Q : Option Value → am_S → Prop} (h : xs_S σ S) (hQ : Q (some (.int (if am_i σ S 4 = -1 then 0 else 1))) σ) : am_C g l mX6_hasTwoTables 0 (am_tp σ, am_us σ) [.ref S] σ Q := by
  refine am_C.go [some (.ref S)] (by decide +kernel) (Nat.le_of_ble_eq_true rfl) rfl (kX6_hasTwoTables_0 ?_)
  simp (disch := omega) only [ax_const, ax_iload, ax_lload, ax_aload, ax_istore, ax_astore, ax_iinc, ax_i2, ax_i2n, ax_l2, ax_lsh, ax_ii, ax_il, ax_li, ax_pop, ax_dup, ax_dup2, ax_if, ax_cmp, ax_acmp, ax_goto, ax_getI, ax_getR, ax_putI, ax_putR, ax_gets, ax_getsT, ax_aldI, ax_aldR, ax_astI, ax_astR, ax_alen, ax_ret, ax_aret, ax_vret, am_st, am_kl, List.getElem?_cons_zero, List.getElem?_cons_succ, List.set_cons_zero, List.set_cons_succ, Value.category, true_and, and_true, if_true, if_false, reduceCtorEq, Bool.false_eq_true, false_implies, forall_const, Option.some.injEq, exists_eq_left', exists_eq_left, Sum.inl.injEq, Sum.inr.injEq, Prod.mk.injEq, nI_toInt, nI_clamp, am_ix_nI, am_ix_0, am_ix_1, am_ix_2, am_ix_3, am_n0, am_n1, am_n2, am_n3, am_n4, am_t0, am_t1, am_t2, am_t3, am_t4, am_tm1, am_nS, am_nP, am_nM, Int.ofNat_lt, Int.ofNat_le, h.1]
  refine ⟨fun x => ⟨by simp, ?_⟩, fun x => ⟨by simp, ?_⟩⟩
  · rwa [if_pos x] at hQ
  · rwa [if_neg x] at hQ
theorem c_smay {g : am_G} {l : Launch} {σ : am_S} {S v : Nat} {t : Int32} {Q : Option Value → am_S → Prop} (hK : xt_K g σ) (h : xs_S σ S) (hv : am_r σ S 0 = some (am_tk g v)) (hv37 : v < 37)
    (hQ : Q (some (.int (if v = 0 then 0 else if t = 2 then (if am_i σ S 4 = -1 then 1 else 0) else if t = am_i σ S 3 ∨ t = am_i σ S 4 then 1 else 0))) σ) : am_C g l mX6_mayHaveColumnOf 1 (am_tp σ, am_us σ) [.ref S, .int t] σ Q := by
  refine am_C.go [some (.ref S), some (.int t)] (by decide +kernel) (Nat.le_of_ble_eq_true rfl) rfl (kX6_mayHaveColumnOf_0 ?_)
  simp (disch := omega) only [ax_const, ax_iload, ax_lload, ax_aload, ax_istore, ax_astore, ax_iinc, ax_i2, ax_i2n, ax_l2, ax_lsh, ax_ii, ax_il, ax_li, ax_pop, ax_dup, ax_dup2, ax_if, ax_cmp, ax_acmp, ax_goto, ax_getI, ax_getR, ax_putI, ax_putR, ax_gets, ax_getsT, ax_aldI, ax_aldR, ax_astI, ax_astR, ax_alen, ax_ret, ax_aret, ax_vret, am_st, am_kl, List.getElem?_cons_zero, List.getElem?_cons_succ, List.set_cons_zero, List.set_cons_succ, Value.category, true_and, and_true, if_true, if_false, reduceCtorEq, Bool.false_eq_true, false_implies, forall_const, Option.some.injEq, exists_eq_left', exists_eq_left, Sum.inl.injEq, Sum.inr.injEq, Prod.mk.injEq, nI_toInt, nI_clamp, am_ix_nI, am_ix_0, am_ix_1, am_ix_2, am_ix_3, am_n0, am_n1, am_n2, am_n3, am_n4, am_t0, am_t1, am_t2, am_t3, am_t4, am_tm1, am_nS, am_nP, am_nM, Int.ofNat_lt, Int.ofNat_le, h.1, hv, hK.inj hv37 (show 0 < 37 by decide)]
  refine ⟨fun x => ⟨by simp, ?_⟩, fun x => ⟨fun y => ?_, fun y => ⟨fun z => ⟨by simp, ?_⟩, fun z => ⟨fun w => ⟨by simp, ?_⟩, fun w => ⟨by simp, ?_⟩⟩⟩⟩⟩
  · rwa [if_pos x] at hQ
  · rw [if_neg x, if_pos y] at hQ
    refine am_callK [.ref S] [] (d' := 0) (lim' := (am_tp σ, am_us σ)) rfl (by decide) (Nat.le_refl _) (Nat.le_refl _) rfl (Nat.le_of_ble_eq_true rfl) (am_recv h.1) ?_
    refine c_stwo h (fun _ _ => ?_)
    simp only [ax_const, ax_iload, ax_lload, ax_aload, ax_istore, ax_astore, ax_iinc, ax_i2, ax_i2n, ax_l2, ax_lsh, ax_ii, ax_il, ax_li, ax_pop, ax_dup, ax_dup2, ax_if, ax_cmp, ax_acmp, ax_goto, ax_getI, ax_getR, ax_putI, ax_putR, ax_gets, ax_getsT, ax_aldI, ax_aldR, ax_astI, ax_astR, ax_alen, ax_ret, ax_aret, ax_vret, am_st, am_kl, List.getElem?_cons_zero, List.getElem?_cons_succ, List.set_cons_zero, List.set_cons_succ, Value.category, true_and, and_true, if_true, if_false, reduceCtorEq, Bool.false_eq_true, false_implies, forall_const, Option.some.injEq, exists_eq_left', exists_eq_left, Sum.inl.injEq, Sum.inr.injEq, Prod.mk.injEq, Option.toList_some, Option.toList_none, List.cons_append, List.nil_append, List.append_nil]
    by_cases e : am_i σ S 4 = -1
    · rw [if_pos e] at hQ ⊢
      exact ⟨fun _ => ⟨by simp, hQ⟩, fun q => absurd rfl q⟩
    · rw [if_neg e] at hQ ⊢
      exact ⟨fun q => absurd q (by decide), fun _ => ⟨by simp, hQ⟩⟩
  · rwa [if_neg x, if_neg y, if_pos (Or.inl z)] at hQ
  · rwa [if_neg x, if_neg y, if_pos (Or.inr w)] at hQ
  · rwa [if_neg x, if_neg y, if_neg (fun q => q.elim z w)] at hQ
/-- does a statement of the verb v, with these two tables, take a column of table t? -/
def xs_may (v : Nat) (f s t : Int32) : Bool := if v = 0 then false else if t = 2 then decide (s = -1) else decide (t = f ∨ t = s)
/-- the names of the columns that a statement has, from table t on -/
def xs_wr (v : Nat) (f s : Int32) (u : Nat → Bool) : Nat → Nat → Bool
  | 0, _ => false
  | n + 1, t => (u t && !xs_may v f s (nI t)) || xs_wr v f s u n (t + 1)
theorem xs_wr_loop {g : am_G} {l : Launch} {σ : am_S} {S v d : Nat} {u : Nat → Bool} {Q : Option Value → am_S → Prop} (hd : 2 ≤ d) (hK : xt_K g σ) (h : xs_S σ S) (hv : am_r σ S 0 = some (am_tk g v)) (hv37 : v < 37) (hu : ∀ t, t < 3 → am_i σ (S + 14) t = if u t then 1 else 0) :
    ∀ (n t : Nat) (b : Bool), n + t = 3 → Q (some (.int (if b || xs_wr v (am_i σ S 3) (am_i σ S 4) u n t then 1 else 0))) σ → am_W g l mX6_hasWrongNames d (am_tp σ, am_us σ) Q 19 [some (.ref S), some (.int (if b then 1 else 0)), some (.int (nI t))] [] σ := by
  intro n
  induction n with
  | zero =>
    intro t b ht hQ
    refine kX6_hasWrongNames_19 ?_
    simp (disch := omega) only [ax_const, ax_iload, ax_lload, ax_aload, ax_istore, ax_astore, ax_iinc, ax_i2, ax_i2n, ax_l2, ax_lsh, ax_ii, ax_il, ax_li, ax_pop, ax_dup, ax_dup2, ax_if, ax_cmp, ax_acmp, ax_goto, ax_getI, ax_getR, ax_putI, ax_putR, ax_gets, ax_getsT, ax_aldI, ax_aldR, ax_astI, ax_astR, ax_alen, ax_ret, ax_aret, ax_vret, am_st, am_kl, List.getElem?_cons_zero, List.getElem?_cons_succ, List.set_cons_zero, List.set_cons_succ, Value.category, true_and, and_true, if_true, if_false, reduceCtorEq, Bool.false_eq_true, false_implies, forall_const, Option.some.injEq, exists_eq_left', exists_eq_left, Sum.inl.injEq, Sum.inr.injEq, Prod.mk.injEq, nI_toInt, nI_clamp, am_ix_nI, am_ix_0, am_ix_1, am_ix_2, am_ix_3, am_n0, am_n1, am_n2, am_n3, am_n4, am_t0, am_t1, am_t2, am_t3, am_t4, am_tm1, am_nS, am_nP, am_nM, Int.ofNat_lt, Int.ofNat_le]
    refine ⟨fun _ => ⟨?_, ?_⟩, fun x => by omega⟩
    · cases b <;> simp
    · rw [xs_wr, Bool.or_false] at hQ
      exact hQ
  | succ n ih =>
    intro t b ht hQ
    have hut := hu t (by omega)
    have hmc : Q (some (.int (if (b || (u t && !xs_may v (am_i σ S 3) (am_i σ S 4) (nI t))) || xs_wr v (am_i σ S 3) (am_i σ S 4) u n (t + 1) then 1 else 0))) σ := by
      rw [xs_wr, ← Bool.or_assoc] at hQ
      exact hQ
    refine kX6_hasWrongNames_19 ?_
    simp (disch := omega) only [ax_const, ax_iload, ax_lload, ax_aload, ax_istore, ax_astore, ax_iinc, ax_i2, ax_i2n, ax_l2, ax_lsh, ax_ii, ax_il, ax_li, ax_pop, ax_dup, ax_dup2, ax_if, ax_cmp, ax_acmp, ax_goto, ax_getI, ax_getR, ax_putI, ax_putR, ax_gets, ax_getsT, ax_aldI, ax_aldR, ax_astI, ax_astR, ax_alen, ax_ret, ax_aret, ax_vret, am_st, am_kl, List.getElem?_cons_zero, List.getElem?_cons_succ, List.set_cons_zero, List.set_cons_succ, Value.category, true_and, and_true, if_true, if_false, reduceCtorEq, Bool.false_eq_true, false_implies, forall_const, Option.some.injEq, exists_eq_left', exists_eq_left, Sum.inl.injEq, Sum.inr.injEq, Prod.mk.injEq, nI_toInt, nI_clamp, am_ix_nI, am_ix_0, am_ix_1, am_ix_2, am_ix_3, am_n0, am_n1, am_n2, am_n3, am_n4, am_t0, am_t1, am_t2, am_t3, am_t4, am_tm1, am_nS, am_nP, am_nM, Int.ofNat_lt, Int.ofNat_le, h.1, h.2.2.2.2.2.1, h.2.2.2.2.2.2.2.2.2.1, hut]
    refine ⟨fun x => by omega, fun _ => ⟨fun x => ⟨by omega, fun y => ?_, fun y => ?_⟩, fun x => ?_⟩⟩
    · have hb : b = false := by cases b with
        | true => exact absurd x (by decide)
        | false => rfl
      have hu0 : u t = false := by cases hq : u t with
        | true => rw [hq] at y; exact absurd y (by decide)
        | false => rfl
      rw [hb, hu0] at hmc
      exact ih (t + 1) false (by omega) hmc
    · have hb : b = false := by cases b with
        | true => exact absurd x (by decide)
        | false => rfl
      have hu0 : u t = true := by cases hq : u t with
        | false => rw [hq] at y; exact absurd rfl y
        | true => rfl
      rw [hb, hu0, Bool.false_or, Bool.true_and] at hmc
      refine am_callK [.ref S, .int (nI t)] [] (d' := 1) (lim' := (am_tp σ, am_us σ)) rfl (by omega) (Nat.le_refl _) (Nat.le_refl _) rfl (Nat.le_of_ble_eq_true rfl) (am_recv h.1) ?_
      refine c_smay (v := v) hK h hv hv37 (fun _ _ => ?_)
      simp (disch := omega) only [ax_const, ax_iload, ax_lload, ax_aload, ax_istore, ax_astore, ax_iinc, ax_i2, ax_i2n, ax_l2, ax_lsh, ax_ii, ax_il, ax_li, ax_pop, ax_dup, ax_dup2, ax_if, ax_cmp, ax_acmp, ax_goto, ax_getI, ax_getR, ax_putI, ax_putR, ax_gets, ax_getsT, ax_aldI, ax_aldR, ax_astI, ax_astR, ax_alen, ax_ret, ax_aret, ax_vret, am_st, am_kl, List.getElem?_cons_zero, List.getElem?_cons_succ, List.set_cons_zero, List.set_cons_succ, Value.category, true_and, and_true, if_true, if_false, reduceCtorEq, Bool.false_eq_true, false_implies, forall_const, Option.some.injEq, exists_eq_left', exists_eq_left, Sum.inl.injEq, Sum.inr.injEq, Prod.mk.injEq, nI_toInt, nI_clamp, am_ix_nI, am_ix_0, am_ix_1, am_ix_2, am_ix_3, am_n0, am_n1, am_n2, am_n3, am_n4, am_t0, am_t1, am_t2, am_t3, am_t4, am_tm1, am_nS, am_nP, am_nM, Int.ofNat_lt, Int.ofNat_le, Option.toList_some, Option.toList_none, List.cons_append, List.nil_append, List.append_nil]
      have e : (if v = 0 then (0 : Int32) else if nI t = 2 then (if am_i σ S 4 = -1 then 1 else 0) else if nI t = am_i σ S 3 ∨ nI t = am_i σ S 4 then 1 else 0) = if xs_may v (am_i σ S 3) (am_i σ S 4) (nI t) then 1 else 0 := by
        unfold xs_may
        by_cases z1 : v = 0
        · rw [if_pos z1, if_pos z1]
          rfl
        · rw [if_neg z1, if_neg z1]
          by_cases z2 : nI t = 2
          · rw [if_pos z2, if_pos z2]
            by_cases z3 : am_i σ S 4 = -1
            · rw [if_pos z3, decide_eq_true z3]
              rfl
            · rw [if_neg z3, decide_eq_false z3]
              rfl
          · rw [if_neg z2, if_neg z2]
            by_cases z3 : nI t = am_i σ S 3 ∨ nI t = am_i σ S 4
            · rw [if_pos z3, decide_eq_true z3]
              rfl
            · rw [if_neg z3, decide_eq_false z3]
              rfl
      rw [e]
      cases hm : xs_may v (am_i σ S 3) (am_i σ S 4) (nI t) with
      | true =>
        rw [hm] at hmc
        refine ⟨fun q => absurd q (by decide), fun _ => ?_⟩
        exact ih (t + 1) false (by omega) hmc
      | false =>
        rw [hm] at hmc
        refine ⟨fun _ => ?_, fun q => absurd rfl q⟩
        exact ih (t + 1) true (by omega) hmc
    · have hb : b = true := by cases b with
        | false => exact absurd rfl x
        | true => rfl
      rw [hb, Bool.true_or] at hmc
      exact ih (t + 1) true (by omega) hmc
theorem c_swrong {g : am_G} {l : Launch} {σ : am_S} {S v : Nat} {u : Nat → Bool} {Q : Option Value → am_S → Prop} (hK : xt_K g σ) (h : xs_S σ S) (hv : am_r σ S 0 = some (am_tk g v)) (hv37 : v < 37) (hu : ∀ t, t < 3 → am_i σ (S + 14) t = if u t then 1 else 0)
    (hQ : Q (some (.int (if decide (am_i σ S 3 = am_i σ S 4) || xs_wr v (am_i σ S 3) (am_i σ S 4) u 3 0 then 1 else 0))) σ) : am_C g l mX6_hasWrongNames 2 (am_tp σ, am_us σ) [.ref S] σ Q := by
  refine am_C.go [some (.ref S), none, none] (by decide +kernel) (Nat.le_of_ble_eq_true rfl) rfl (kX6_hasWrongNames_0 ?_)
  simp (disch := omega) only [ax_const, ax_iload, ax_lload, ax_aload, ax_istore, ax_astore, ax_iinc, ax_i2, ax_i2n, ax_l2, ax_lsh, ax_ii, ax_il, ax_li, ax_pop, ax_dup, ax_dup2, ax_if, ax_cmp, ax_acmp, ax_goto, ax_getI, ax_getR, ax_putI, ax_putR, ax_gets, ax_getsT, ax_aldI, ax_aldR, ax_astI, ax_astR, ax_alen, ax_ret, ax_aret, ax_vret, am_st, am_kl, List.getElem?_cons_zero, List.getElem?_cons_succ, List.set_cons_zero, List.set_cons_succ, Value.category, true_and, and_true, if_true, if_false, reduceCtorEq, Bool.false_eq_true, false_implies, forall_const, Option.some.injEq, exists_eq_left', exists_eq_left, Sum.inl.injEq, Sum.inr.injEq, Prod.mk.injEq, nI_toInt, nI_clamp, am_ix_nI, am_ix_0, am_ix_1, am_ix_2, am_ix_3, am_n0, am_n1, am_n2, am_n3, am_n4, am_t0, am_t1, am_t2, am_t3, am_t4, am_tm1, am_nS, am_nP, am_nM, Int.ofNat_lt, Int.ofNat_le, h.1]
  refine ⟨fun x => ?_, fun x => ?_⟩
  · rw [decide_eq_true x] at hQ
    exact xs_wr_loop (Nat.le_refl _) hK h hv hv37 hu 3 0 true rfl hQ
  · rw [decide_eq_false x] at hQ
    exact xs_wr_loop (Nat.le_refl _) hK h hv hv37 hu 3 0 false rfl hQ
/-- which of the X is count or sum, from place i on -/
def xs_sm (k : Nat → Nat) : Nat → Nat → Bool
  | 0, _ => false
  | n + 1, i => decide (k i = 2 ∨ k i = 3) || xs_sm k n (i + 1)
theorem xs_sm_loop {g : am_G} {l : Launch} {σ : am_S} {S n0 d : Nat} {k : Nat → Nat} {ss : Nat → List (Nat × Int32)} {Q : Option Value → am_S → Prop} (hd : 1 ≤ d) (h : xs_S σ S) (hn : am_i σ S 6 = nI n0) (hn3 : n0 ≤ 3) (hx : ∀ i, i < 3 → xk_C g σ (S + 19 + 4 * i) (k i) (ss i)) :
    ∀ (n i : Nat) (b : Bool), n + i = n0 → Q (some (.int (if b || xs_sm k n i then 1 else 0))) σ → am_W g l mX6_isSummary d (am_tp σ, am_us σ) Q 10 [some (.ref S), some (.int (if b then 1 else 0)), some (.int (nI i))] [] σ := by
  intro n
  induction n with
  | zero =>
    intro i b hi hQ
    refine kX6_isSummary_10 ?_
    simp (disch := omega) only [ax_const, ax_iload, ax_lload, ax_aload, ax_istore, ax_astore, ax_iinc, ax_i2, ax_i2n, ax_l2, ax_lsh, ax_ii, ax_il, ax_li, ax_pop, ax_dup, ax_dup2, ax_if, ax_cmp, ax_acmp, ax_goto, ax_getI, ax_getR, ax_putI, ax_putR, ax_gets, ax_getsT, ax_aldI, ax_aldR, ax_astI, ax_astR, ax_alen, ax_ret, ax_aret, ax_vret, am_st, am_kl, List.getElem?_cons_zero, List.getElem?_cons_succ, List.set_cons_zero, List.set_cons_succ, Value.category, true_and, and_true, if_true, if_false, reduceCtorEq, Bool.false_eq_true, false_implies, forall_const, Option.some.injEq, exists_eq_left', exists_eq_left, Sum.inl.injEq, Sum.inr.injEq, Prod.mk.injEq, nI_toInt, nI_clamp, am_ix_nI, am_ix_0, am_ix_1, am_ix_2, am_ix_3, am_n0, am_n1, am_n2, am_n3, am_n4, am_t0, am_t1, am_t2, am_t3, am_t4, am_tm1, am_nS, am_nP, am_nM, Int.ofNat_lt, Int.ofNat_le, h.1, hn]
    refine ⟨fun x => by omega, fun _ => ⟨?_, ?_⟩⟩
    · cases b <;> simp
    · rw [xs_sm, Bool.or_false] at hQ
      exact hQ
  | succ n ih =>
    intro i b hi hQ
    rw [xs_sm, ← Bool.or_assoc] at hQ
    have hr := h.2.2.2.2.2.2.2.2.1 i (by omega)
    refine kX6_isSummary_10 ?_
    simp (disch := omega) only [ax_const, ax_iload, ax_lload, ax_aload, ax_istore, ax_astore, ax_iinc, ax_i2, ax_i2n, ax_l2, ax_lsh, ax_ii, ax_il, ax_li, ax_pop, ax_dup, ax_dup2, ax_if, ax_cmp, ax_acmp, ax_goto, ax_getI, ax_getR, ax_putI, ax_putR, ax_gets, ax_getsT, ax_aldI, ax_aldR, ax_astI, ax_astR, ax_alen, ax_ret, ax_aret, ax_vret, am_st, am_kl, List.getElem?_cons_zero, List.getElem?_cons_succ, List.set_cons_zero, List.set_cons_succ, Value.category, true_and, and_true, if_true, if_false, reduceCtorEq, Bool.false_eq_true, false_implies, forall_const, Option.some.injEq, exists_eq_left', exists_eq_left, Sum.inl.injEq, Sum.inr.injEq, Prod.mk.injEq, nI_toInt, nI_clamp, am_ix_nI, am_ix_0, am_ix_1, am_ix_2, am_ix_3, am_n0, am_n1, am_n2, am_n3, am_n4, am_t0, am_t1, am_t2, am_t3, am_t4, am_tm1, am_nS, am_nP, am_nM, Int.ofNat_lt, Int.ofNat_le, h.1, hn, h.2.1, h.2.2.2.2.2.2.2.1, hr]
    refine ⟨fun _ => ⟨fun x => ⟨by omega, ?_⟩, fun x => ?_⟩, fun x => by omega⟩
    · have hb : b = false := by cases b with
        | true => exact absurd x (by decide)
        | false => rfl
      rw [hb, Bool.false_or] at hQ
      refine am_callK [.ref (S + 19 + 4 * i)] [] (d' := 0) (lim' := (am_tp σ, am_us σ)) rfl (by omega) (Nat.le_refl _) (Nat.le_refl _) rfl (Nat.le_of_ble_eq_true rfl) (am_recv (hx i (by omega)).1) ?_
      refine c_kisSummary (hx i (by omega)) (fun _ _ => ?_)
      simp (disch := omega) only [ax_const, ax_iload, ax_lload, ax_aload, ax_istore, ax_astore, ax_iinc, ax_i2, ax_i2n, ax_l2, ax_lsh, ax_ii, ax_il, ax_li, ax_pop, ax_dup, ax_dup2, ax_if, ax_cmp, ax_acmp, ax_goto, ax_getI, ax_getR, ax_putI, ax_putR, ax_gets, ax_getsT, ax_aldI, ax_aldR, ax_astI, ax_astR, ax_alen, ax_ret, ax_aret, ax_vret, am_st, am_kl, List.getElem?_cons_zero, List.getElem?_cons_succ, List.set_cons_zero, List.set_cons_succ, Value.category, true_and, and_true, if_true, if_false, reduceCtorEq, Bool.false_eq_true, false_implies, forall_const, Option.some.injEq, exists_eq_left', exists_eq_left, Sum.inl.injEq, Sum.inr.injEq, Prod.mk.injEq, nI_toInt, nI_clamp, am_ix_nI, am_ix_0, am_ix_1, am_ix_2, am_ix_3, am_n0, am_n1, am_n2, am_n3, am_n4, am_t0, am_t1, am_t2, am_t3, am_t4, am_tm1, am_nS, am_nP, am_nM, Int.ofNat_lt, Int.ofNat_le, Option.toList_some, Option.toList_none, List.cons_append, List.nil_append, List.append_nil]
      by_cases e : k i = 2 ∨ k i = 3
      · rw [decide_eq_true e] at hQ
        rw [if_pos e]
        exact ⟨fun q => absurd q (by decide), fun _ => ih (i + 1) true (by omega) hQ⟩
      · rw [decide_eq_false e] at hQ
        rw [if_neg e]
        exact ⟨fun _ => ih (i + 1) false (by omega) hQ, fun q => absurd rfl q⟩
    · have hb : b = true := by cases b with
        | false => exact absurd rfl x
        | true => rfl
      rw [hb, Bool.true_or] at hQ
      exact ih (i + 1) true (by omega) hQ
theorem c_ssum {g : am_G} {l : Launch} {σ : am_S} {S n0 ko : Nat} {so : List (Nat × Int32)} {k : Nat → Nat} {ss : Nat → List (Nat × Int32)} {Q : Option Value → am_S → Prop} (h : xs_S σ S) (hn : am_i σ S 6 = nI n0) (hn3 : n0 ≤ 3) (hx : ∀ i, i < 3 → xk_C g σ (S + 19 + 4 * i) (k i) (ss i)) (ho : xk_C g σ (S + 10) ko so)
    (hQ : Q (some (.int (if decide (ko = 2 ∨ ko = 3) || xs_sm k n0 0 then 1 else 0))) σ) : am_C g l mX6_isSummary 1 (am_tp σ, am_us σ) [.ref S] σ Q := by
  refine am_C.go [some (.ref S), none, none] (by decide +kernel) (Nat.le_of_ble_eq_true rfl) rfl (kX6_isSummary_0 ?_)
  simp (disch := omega) only [ax_const, ax_iload, ax_lload, ax_aload, ax_istore, ax_astore, ax_iinc, ax_i2, ax_i2n, ax_l2, ax_lsh, ax_ii, ax_il, ax_li, ax_pop, ax_dup, ax_dup2, ax_if, ax_cmp, ax_acmp, ax_goto, ax_getI, ax_getR, ax_putI, ax_putR, ax_gets, ax_getsT, ax_aldI, ax_aldR, ax_astI, ax_astR, ax_alen, ax_ret, ax_aret, ax_vret, am_st, am_kl, List.getElem?_cons_zero, List.getElem?_cons_succ, List.set_cons_zero, List.set_cons_succ, Value.category, true_and, and_true, if_true, if_false, reduceCtorEq, Bool.false_eq_true, false_implies, forall_const, Option.some.injEq, exists_eq_left', exists_eq_left, Sum.inl.injEq, Sum.inr.injEq, Prod.mk.injEq, nI_toInt, nI_clamp, am_ix_nI, am_ix_0, am_ix_1, am_ix_2, am_ix_3, am_n0, am_n1, am_n2, am_n3, am_n4, am_t0, am_t1, am_t2, am_t3, am_t4, am_tm1, am_nS, am_nP, am_nM, Int.ofNat_lt, Int.ofNat_le, h.1, h.2.2.2.2.1]
  refine am_callK [.ref (S + 10)] [] (d' := 0) (lim' := (am_tp σ, am_us σ)) rfl (by omega) (Nat.le_refl _) (Nat.le_refl _) rfl (Nat.le_of_ble_eq_true rfl) (am_recv ho.1) ?_
  refine c_kisSummary ho (fun _ _ => ?_)
  simp (disch := omega) only [ax_const, ax_iload, ax_lload, ax_aload, ax_istore, ax_astore, ax_iinc, ax_i2, ax_i2n, ax_l2, ax_lsh, ax_ii, ax_il, ax_li, ax_pop, ax_dup, ax_dup2, ax_if, ax_cmp, ax_acmp, ax_goto, ax_getI, ax_getR, ax_putI, ax_putR, ax_gets, ax_getsT, ax_aldI, ax_aldR, ax_astI, ax_astR, ax_alen, ax_ret, ax_aret, ax_vret, am_st, am_kl, List.getElem?_cons_zero, List.getElem?_cons_succ, List.set_cons_zero, List.set_cons_succ, Value.category, true_and, and_true, if_true, if_false, reduceCtorEq, Bool.false_eq_true, false_implies, forall_const, Option.some.injEq, exists_eq_left', exists_eq_left, Sum.inl.injEq, Sum.inr.injEq, Prod.mk.injEq, nI_toInt, nI_clamp, am_ix_nI, am_ix_0, am_ix_1, am_ix_2, am_ix_3, am_n0, am_n1, am_n2, am_n3, am_n4, am_t0, am_t1, am_t2, am_t3, am_t4, am_tm1, am_nS, am_nP, am_nM, Int.ofNat_lt, Int.ofNat_le, Option.toList_some, Option.toList_none, List.cons_append, List.nil_append, List.append_nil]
  by_cases e : ko = 2 ∨ ko = 3
  · rw [decide_eq_true e] at hQ
    rw [if_pos e]
    exact xs_sm_loop (Nat.le_refl _) h hn hn3 hx n0 0 true rfl hQ
  · rw [decide_eq_false e] at hQ
    rw [if_neg e]
    exact xs_sm_loop (Nat.le_refl _) h hn hn3 hx n0 0 false rfl hQ
