/-! ===== Statement ===== -/
/-- what of a statement's block never changes; the three rows that are pointed at are rows -/
def xs_S (σ : am_S) (S : Nat) : Prop :=
  am_sh σ S = some (.inl 6) ∧ am_r σ S 7 = some (S + 1) ∧ am_r σ S 8 = some (S + 2) ∧ am_r σ S 9 = some (S + 6) ∧ am_r σ S 10 = some (S + 10) ∧ am_r σ S 11 = some (S + 14) ∧ am_r σ S 12 = some (S + 15) ∧
  am_sh σ (S + 1) = some (.inr (7, 3)) ∧ (∀ i, i < 3 → am_r σ (S + 1) i = some (S + 19 + 4 * i)) ∧ am_sh σ (S + 14) = some (.inr (2, 3)) ∧ am_sh σ (S + 15) = some (.inr (3, 3)) ∧ ∀ j, j < 3 → ∃ b, am_r σ (S + 15) j = some b ∧ am_sh σ b = some (.inr (0, 4))
theorem xs_S.fm {P : Nat → Prop} {σ σ' : am_S} {S : Nat} (h : xs_S σ S) (hf : am_fm P σ σ') (h0 : ¬ P S) (h1 : ¬ P (S + 1)) (h2 : ¬ P (S + 15)) : xs_S σ' S := by
  obtain ⟨a1, a2, a3, a4, a5, a6, a7, a8, a9, a10, a11, a12⟩ := h
  unfold xs_S
  rw [hf.1, (hf.2.2.2 S h0).2, (hf.2.2.2 _ h1).2, (hf.2.2.2 _ h2).2]
  exact ⟨a1, a2, a3, a4, a5, a6, a7, a8, a9, a10, a11, a12⟩
/-- a row's column -/
def xr_col (e : xr_E) (c : Nat) : Int32 := if c = 0 then e.1 else if c = 1 then e.2.1 else if c = 2 then e.2.2.1 else e.2.2.2
theorem xr_at.col {σ : am_S} {a : Nat} {e : xr_E} (h : xr_at σ a e) {c : Nat} (hc : c < 4) : am_i σ a c = xr_col e c := by
  obtain ⟨h0, h1, h2, h3⟩ := h
  match c, hc with
  | 0, _ => exact h0
  | 1, _ => exact h1
  | 2, _ => exact h2
  | 3, _ => exact h3
/-- table j of a statement is pointed at a row with these columns -/
def xs_pt (σ : am_S) (S j : Nat) (e : xr_E) : Prop := ∃ b, am_r σ (S + 15) j = some b ∧ am_sh σ b = some (.inr (0, 4)) ∧ xr_at σ b e
/-- an environment holds the row e for table j -/
def xs_m (env : Nat → Int32) (j : Nat) (e : xr_E) : Prop := ∀ c, c < 4 → env (4 * j + c) = xr_col e c
theorem c_spoint {g : am_G} {l : Launch} {σ : am_S} {S a f : Nat} {Q : Option Value → am_S → Prop} (h : xs_S σ S) (hf : am_i σ S 3 = nI f) (hf2 : f < 2) (ha : am_sh σ a = some (.inr (0, 4)))
    (hQ : ∀ σ', xs_S σ' S → am_r σ' (S + 15) f = some a → am_r σ' (S + 15) 2 = some a → (∀ j, j ≠ f → j ≠ 2 → am_r σ' (S + 15) j = am_r σ (S + 15) j) → am_fm (fun b => b = S + 15) σ σ' → Q none σ') : am_C g l mX6_point 0 (am_tp σ, am_us σ) [.ref S, .ref a] σ Q := by
  obtain ⟨a1, a2, a3, a4, a5, a6, a7, a8, a9, a10, a11, a12⟩ := h
  refine am_C.go [some (.ref S), some (.ref a)] (by decide +kernel) (Nat.le_of_ble_eq_true rfl) rfl (kX6_point_0 ?_)
  simp (disch := omega) only [ax_const, ax_iload, ax_lload, ax_aload, ax_istore, ax_astore, ax_iinc, ax_i2, ax_i2n, ax_l2, ax_lsh, ax_ii, ax_il, ax_li, ax_pop, ax_dup, ax_dup2, ax_if, ax_cmp, ax_acmp, ax_goto, ax_getI, ax_getR, ax_putI, ax_putR, ax_gets, ax_getsT, ax_aldI, ax_aldR, ax_astI, ax_astR, ax_alen, ax_ret, ax_aret, ax_vret, am_st, am_kl, List.getElem?_cons_zero, List.getElem?_cons_succ, List.set_cons_zero, List.set_cons_succ, Value.category, true_and, and_true, if_true, if_false, reduceCtorEq, Bool.false_eq_true, false_implies, forall_const, Option.some.injEq, exists_eq_left', exists_eq_left, Sum.inl.injEq, Sum.inr.injEq, Prod.mk.injEq, nI_toInt, nI_clamp, am_ix_nI, am_ix_0, am_ix_1, am_ix_2, am_ix_3, am_n0, am_n1, am_n2, am_n3, am_n4, am_t0, am_t1, am_t2, am_t3, am_t4, am_tm1, am_nS, am_nP, am_nM, Int.ofNat_lt, Int.ofNat_le, am_sh_wi, am_sh_wr, am_r_wi, am_i_wr, am_tp_wi, am_tp_wr, am_us_wi, am_us_wr, am_i_wi, am_r_wr, a1, a7, a11, hf, ha]
  have e : ¬ (S = S + 15) := by omega
  have e1 : ¬ (S + 1 = S + 15) := by omega
  refine ⟨by omega, ⟨4, rfl⟩, ?_⟩
  simp (disch := omega) only [ax_const, ax_iload, ax_lload, ax_aload, ax_istore, ax_astore, ax_iinc, ax_i2, ax_i2n, ax_l2, ax_lsh, ax_ii, ax_il, ax_li, ax_pop, ax_dup, ax_dup2, ax_if, ax_cmp, ax_acmp, ax_goto, ax_getI, ax_getR, ax_putI, ax_putR, ax_gets, ax_getsT, ax_aldI, ax_aldR, ax_astI, ax_astR, ax_alen, ax_ret, ax_aret, ax_vret, am_st, am_kl, List.getElem?_cons_zero, List.getElem?_cons_succ, List.set_cons_zero, List.set_cons_succ, Value.category, true_and, and_true, if_true, if_false, reduceCtorEq, Bool.false_eq_true, false_implies, forall_const, Option.some.injEq, exists_eq_left', exists_eq_left, Sum.inl.injEq, Sum.inr.injEq, Prod.mk.injEq, nI_toInt, nI_clamp, am_ix_nI, am_ix_0, am_ix_1, am_ix_2, am_ix_3, am_n0, am_n1, am_n2, am_n3, am_n4, am_t0, am_t1, am_t2, am_t3, am_t4, am_tm1, am_nS, am_nP, am_nM, Int.ofNat_lt, Int.ofNat_le, e, false_and, a7, a11]
  refine ⟨by decide, ⟨4, rfl⟩, hQ _ ⟨a1, ?_, ?_, ?_, ?_, ?_, ?_, a8, fun i hi => ?_, a10, a11, fun j hj => ?_⟩ ?_ ?_ (fun j j1 j2 => ?_) ((am_fm.rf (P := fun b => b = S + 15)).wr rfl |>.wr rfl)⟩
  all_goals simp only [am_r_wr, e, e1, false_and, if_false, a2, a3, a4, a5, a6, a7, am_sh_wr]
  · exact a9 i hi
  · by_cases j2 : j = 2
    · exact ⟨a, by simp [j2], ha⟩
    · by_cases j1 : j = f
      · exact ⟨a, by simp [j1], ha⟩
      · obtain ⟨b, b1, b2⟩ := a12 j hj
        exact ⟨b, by simp [j1, j2, b1], b2⟩
  · by_cases j2 : f = 2
    · simp [j2]
    · simp [j2]
  · simp
  · simp [j1, j2]
theorem c_spointSecond {g : am_G} {l : Launch} {σ : am_S} {S a f : Nat} {Q : Option Value → am_S → Prop} (h : xs_S σ S) (hf : am_i σ S 4 = nI f) (hf2 : f < 2) (ha : am_sh σ a = some (.inr (0, 4)))
    (hQ : ∀ σ', xs_S σ' S → am_r σ' (S + 15) f = some a → (∀ j, j ≠ f → am_r σ' (S + 15) j = am_r σ (S + 15) j) → am_fm (fun b => b = S + 15) σ σ' → Q none σ') : am_C g l mX6_pointSecond 0 (am_tp σ, am_us σ) [.ref S, .ref a] σ Q := by
  obtain ⟨a1, a2, a3, a4, a5, a6, a7, a8, a9, a10, a11, a12⟩ := h
  refine am_C.go [some (.ref S), some (.ref a)] (by decide +kernel) (Nat.le_of_ble_eq_true rfl) rfl (kX6_pointSecond_0 ?_)
  have e : ¬ (S = S + 15) := by omega
  have e1 : ¬ (S + 1 = S + 15) := by omega
  simp (disch := omega) only [ax_const, ax_iload, ax_lload, ax_aload, ax_istore, ax_astore, ax_iinc, ax_i2, ax_i2n, ax_l2, ax_lsh, ax_ii, ax_il, ax_li, ax_pop, ax_dup, ax_dup2, ax_if, ax_cmp, ax_acmp, ax_goto, ax_getI, ax_getR, ax_putI, ax_putR, ax_gets, ax_getsT, ax_aldI, ax_aldR, ax_astI, ax_astR, ax_alen, ax_ret, ax_aret, ax_vret, am_st, am_kl, List.getElem?_cons_zero, List.getElem?_cons_succ, List.set_cons_zero, List.set_cons_succ, Value.category, true_and, and_true, if_true, if_false, reduceCtorEq, Bool.false_eq_true, false_implies, forall_const, Option.some.injEq, exists_eq_left', exists_eq_left, Sum.inl.injEq, Sum.inr.injEq, Prod.mk.injEq, nI_toInt, nI_clamp, am_ix_nI, am_ix_0, am_ix_1, am_ix_2, am_ix_3, am_n0, am_n1, am_n2, am_n3, am_n4, am_t0, am_t1, am_t2, am_t3, am_t4, am_tm1, am_nS, am_nP, am_nM, Int.ofNat_lt, Int.ofNat_le, am_sh_wi, am_sh_wr, am_r_wi, am_i_wr, am_tp_wi, am_tp_wr, am_us_wi, am_us_wr, am_i_wi, am_r_wr, a1, a7, a11, hf, ha]
  refine ⟨by omega, ⟨4, rfl⟩, hQ _ ⟨a1, ?_, ?_, ?_, ?_, ?_, ?_, a8, fun i hi => ?_, a10, a11, fun j hj => ?_⟩ ?_ (fun j j1 => ?_) ((am_fm.rf (P := fun b => b = S + 15)).wr rfl)⟩
  all_goals simp only [am_r_wr, e, e1, false_and, if_false, a2, a3, a4, a5, a6, a7, am_sh_wr]
  · exact a9 i hi
  · by_cases j1 : j = f
    · exact ⟨a, by simp [j1], ha⟩
    · obtain ⟨b, b1, b2⟩ := a12 j hj
      exact ⟨b, by simp [j1, b1], b2⟩
  · simp
  · simp [j1]
/-- the environment that a statement's rows make -/
def xs_ev (σ : am_S) (S : Nat) : Nat → Int32 := fun o => am_i σ ((am_r σ (S + 15) (o / 4)).getD 0) (o % 4)
theorem xs_S.env {σ : am_S} {S : Nat} (h : xs_S σ S) : xk_env σ (S + 15) (xs_ev σ S) := by
  obtain ⟨a1, a2, a3, a4, a5, a6, a7, a8, a9, a10, a11, a12⟩ := h
  refine ⟨a11, fun o ho => ?_⟩
  obtain ⟨b, b1, b2⟩ := a12 (o / 4) (by omega)
  refine ⟨b, b1, b2, ?_⟩
  unfold xs_ev
  rw [b1]
  rfl
theorem xs_pt.m {σ : am_S} {S j : Nat} {e : xr_E} (h : xs_pt σ S j e) : xs_m (xs_ev σ S) j e := by
  obtain ⟨b, b1, b2, b3⟩ := h
  intro c hc
  unfold xs_ev
  rw [show (4 * j + c) / 4 = j by omega, show (4 * j + c) % 4 = c by omega, b1]
  exact b3.col hc
theorem xs_S.apart {g : am_G} {σ : am_S} {S c kd : Nat} {ss : List (Nat × Int32)} (h : xs_S σ S) (hc : xk_C g σ c kd ss) : ∀ o, o < 12 → ∀ b, am_r σ (S + 15) (o / 4) = some b → b ≠ c + 3 := by
  intro o ho b hb e
  obtain ⟨b', b1, b2⟩ := h.2.2.2.2.2.2.2.2.2.2.2 (o / 4) (by omega)
  cases hb.symm.trans b1
  subst e
  have := hc.2.2.2.2.2.2.1
  rw [this] at b2
  simp at b2
theorem c_swork {g : am_G} {l : Launch} {σ : am_S} {S c kd : Nat} {ss : List (Nat × Int32)} {v : Int32} {Q : Option Value → am_S → Prop} (hK : xt_K g σ) (h : xs_S σ S) (hB : g.2.2.1.size ≤ c) (hc : xk_C g σ c kd ss) (hr : xk_run (xs_ev σ S) ss [] = some [v])
    (hQ : ∀ σ', am_fm (fun b => b = c + 3) σ σ' → Q (some (.int v)) σ') : am_C g l mX6_workOut 2 (am_tp σ, am_us σ) [.ref S, .ref c] σ Q := by
  have h0 := h
  obtain ⟨a1, a2, a3, a4, a5, a6, a7, a8, a9, a10, a11, a12⟩ := h
  refine am_C.go [some (.ref S), some (.ref c)] (by decide +kernel) (Nat.le_of_ble_eq_true rfl) rfl (kX6_workOut_0 ?_)
  simp (disch := omega) only [ax_const, ax_iload, ax_lload, ax_aload, ax_istore, ax_astore, ax_iinc, ax_i2, ax_i2n, ax_l2, ax_lsh, ax_ii, ax_il, ax_li, ax_pop, ax_dup, ax_dup2, ax_if, ax_cmp, ax_acmp, ax_goto, ax_getI, ax_getR, ax_putI, ax_putR, ax_gets, ax_getsT, ax_aldI, ax_aldR, ax_astI, ax_astR, ax_alen, ax_ret, ax_aret, ax_vret, am_st, am_kl, List.getElem?_cons_zero, List.getElem?_cons_succ, List.set_cons_zero, List.set_cons_succ, Value.category, true_and, and_true, if_true, if_false, reduceCtorEq, Bool.false_eq_true, false_implies, forall_const, Option.some.injEq, exists_eq_left', exists_eq_left, Sum.inl.injEq, Sum.inr.injEq, Prod.mk.injEq, nI_toInt, nI_clamp, am_ix_nI, am_ix_0, am_ix_1, am_ix_2, am_ix_3, am_n0, am_n1, am_n2, am_n3, am_n4, am_t0, am_t1, am_t2, am_t3, am_t4, am_tm1, am_nS, am_nP, am_nM, Int.ofNat_lt, Int.ofNat_le, a1, a7]
  refine am_callK [.ref c, .ref (S + 15)] [] (d' := 1) (lim' := (am_tp σ, am_us σ)) rfl (by decide) (Nat.le_refl _) (Nat.le_refl _) rfl (Nat.le_of_ble_eq_true rfl) (am_recv hc.1) ?_
  refine c_kwork hK hB hc h0.env (h0.apart hc) hr (fun σ' hf q1 q2 => ?_)
  simp only [ax_const, ax_iload, ax_lload, ax_aload, ax_istore, ax_astore, ax_iinc, ax_i2, ax_i2n, ax_l2, ax_lsh, ax_ii, ax_il, ax_li, ax_pop, ax_dup, ax_dup2, ax_if, ax_cmp, ax_acmp, ax_goto, ax_getI, ax_getR, ax_putI, ax_putR, ax_gets, ax_getsT, ax_aldI, ax_aldR, ax_astI, ax_astR, ax_alen, ax_ret, ax_aret, ax_vret, am_st, am_kl, List.getElem?_cons_zero, List.getElem?_cons_succ, List.set_cons_zero, List.set_cons_succ, Value.category, true_and, and_true, if_true, if_false, reduceCtorEq, Bool.false_eq_true, false_implies, forall_const, Option.some.injEq, exists_eq_left', exists_eq_left, Sum.inl.injEq, Sum.inr.injEq, Prod.mk.injEq, Option.toList_some, Option.toList_none, List.cons_append, List.nil_append, List.append_nil]
  exact ⟨q1, q2, hQ σ' hf⟩
theorem c_sholds {g : am_G} {l : Launch} {σ : am_S} {S kd : Nat} {ss : List (Nat × Int32)} {B : Bool} {Q : Option Value → am_S → Prop} (hK : xt_K g σ) (h : xs_S σ S) (hB : g.2.2.1.size ≤ S) (hc : xk_C g σ (S + 2) kd ss) (hr : (kd = 0 ∧ B = true) ∨ (kd = 1 ∧ xk_run (xs_ev σ S) ss [] = some [if B then 1 else 0]))
    (hQ : ∀ σ', am_fm (fun b => b = S + 5) σ σ' → Q (some (.int (if B then 1 else 0))) σ') : am_C g l mX6_holds 2 (am_tp σ, am_us σ) [.ref S] σ Q := by
  have h0 := h
  obtain ⟨a1, a2, a3, a4, a5, a6, a7, a8, a9, a10, a11, a12⟩ := h
  have hk0 := hc.2.2.2.2.2.2.2.1
  refine am_C.go [some (.ref S)] (by decide +kernel) (Nat.le_of_ble_eq_true rfl) rfl (kX6_holds_0 ?_)
  simp (disch := omega) only [ax_const, ax_iload, ax_lload, ax_aload, ax_istore, ax_astore, ax_iinc, ax_i2, ax_i2n, ax_l2, ax_lsh, ax_ii, ax_il, ax_li, ax_pop, ax_dup, ax_dup2, ax_if, ax_cmp, ax_acmp, ax_goto, ax_getI, ax_getR, ax_putI, ax_putR, ax_gets, ax_getsT, ax_aldI, ax_aldR, ax_astI, ax_astR, ax_alen, ax_ret, ax_aret, ax_vret, am_st, am_kl, List.getElem?_cons_zero, List.getElem?_cons_succ, List.set_cons_zero, List.set_cons_succ, Value.category, true_and, and_true, if_true, if_false, reduceCtorEq, Bool.false_eq_true, false_implies, forall_const, Option.some.injEq, exists_eq_left', exists_eq_left, Sum.inl.injEq, Sum.inr.injEq, Prod.mk.injEq, nI_toInt, nI_clamp, am_ix_nI, am_ix_0, am_ix_1, am_ix_2, am_ix_3, am_n0, am_n1, am_n2, am_n3, am_n4, am_t0, am_t1, am_t2, am_t3, am_t4, am_tm1, am_nS, am_nP, am_nM, Int.ofNat_lt, Int.ofNat_le, a1, a3, a7, hc.1, hk0]
  rcases hr with ⟨rfl, rfl⟩ | ⟨rfl, hr⟩
  · exact ⟨fun _ => ⟨by simp, hQ σ .rf⟩, fun x => absurd rfl x⟩
  · refine ⟨(fun x => by cases x), fun _ => ?_⟩
    refine am_callK [.ref (S + 2), .ref (S + 15)] [] (d' := 1) (lim' := (am_tp σ, am_us σ)) rfl (by decide) (Nat.le_refl _) (Nat.le_refl _) rfl (Nat.le_of_ble_eq_true rfl) (am_recv hc.1) ?_
    refine c_kwork hK (by omega) hc h0.env (h0.apart hc) hr (fun σ' hf q1 q2 => ?_)
    have hq := hQ σ' hf
    simp only [ax_const, ax_iload, ax_lload, ax_aload, ax_istore, ax_astore, ax_iinc, ax_i2, ax_i2n, ax_l2, ax_lsh, ax_ii, ax_il, ax_li, ax_pop, ax_dup, ax_dup2, ax_if, ax_cmp, ax_acmp, ax_goto, ax_getI, ax_getR, ax_putI, ax_putR, ax_gets, ax_getsT, ax_aldI, ax_aldR, ax_astI, ax_astR, ax_alen, ax_ret, ax_aret, ax_vret, am_st, am_kl, List.getElem?_cons_zero, List.getElem?_cons_succ, List.set_cons_zero, List.set_cons_succ, Value.category, true_and, and_true, if_true, if_false, reduceCtorEq, Bool.false_eq_true, false_implies, forall_const, Option.some.injEq, exists_eq_left', exists_eq_left, Sum.inl.injEq, Sum.inr.injEq, Prod.mk.injEq, Option.toList_some, Option.toList_none, List.cons_append, List.nil_append, List.append_nil]
    cases B with
    | true => exact ⟨fun _ => ⟨by simp, q1, q2, hq⟩, fun x => absurd rfl x⟩
    | false => exact ⟨fun x => absurd x (by decide), fun _ => ⟨by simp, q1, q2, hq⟩⟩
theorem c_stwo {g : am_G} {l : Launch} {σ : am_S} {S : Nat} {Q : Option Value → am_S → Prop} (h : xs_S σ S) (hQ : Q (some (.int (if am_i σ S 4 = -1 then 0 else 1))) σ) : am_C g l mX6_hasTwoTables 0 (am_tp σ, am_us σ) [.ref S] σ Q := by
  refine am_C.go [some (.ref S)] (by decide +kernel) (Nat.le_of_ble_eq_true rfl) rfl (kX6_hasTwoTables_0 ?_)
  simp (disch := omega) only [ax_const, ax_iload, ax_lload, ax_aload, ax_istore, ax_astore, ax_iinc, ax_i2, ax_i2n, ax_l2, ax_lsh, ax_ii, ax_il, ax_li, ax_pop, ax_dup, ax_dup2, ax_if, ax_cmp, ax_acmp, ax_goto, ax_getI, ax_getR, ax_putI, ax_putR, ax_gets, ax_getsT, ax_aldI, ax_aldR, ax_astI, ax_astR, ax_alen, ax_ret, ax_aret, ax_vret, am_st, am_kl, List.getElem?_cons_zero, List.getElem?_cons_succ, List.set_cons_zero, List.set_cons_succ, Value.category, true_and, and_true, if_true, if_false, reduceCtorEq, Bool.false_eq_true, false_implies, forall_const, Option.some.injEq, exists_eq_left', exists_eq_left, Sum.inl.injEq, Sum.inr.injEq, Prod.mk.injEq, nI_toInt, nI_clamp, am_ix_nI, am_ix_0, am_ix_1, am_ix_2, am_ix_3, am_n0, am_n1, am_n2, am_n3, am_n4, am_t0, am_t1, am_t2, am_t3, am_t4, am_tm1, am_nS, am_nP, am_nM, Int.ofNat_lt, Int.ofNat_le, h.1]
  refine ⟨fun x => ⟨by simp, ?_⟩, fun x => ⟨by simp, ?_⟩⟩
  · rwa [if_pos x] at hQ
  · rwa [if_neg x] at hQ
theorem c_smay {g : am_G} {l : Launch} {σ : am_S} {S v : Nat} {t : Int32} {Q : Option Value → am_S → Prop} (hK : xt_K g σ) (h : xs_S σ S) (hv : am_r σ S 0 = some (am_tk g v)) (hv37 : v < 37)
    (hQ : Q (some (.int (if v = 0 then 0 else if t = 2 then (if am_i σ S 4 = -1 then 1 else 0) else if t = am_i σ S 3 ∨ t = am_i σ S 4 then 1 else 0))) σ) : am_C g l mX6_mayHaveColumnOf 1 (am_tp σ, am_us σ) [.ref S, .int t] σ Q := by
  refine am_C.go [some (.ref S), some (.int t)] (by decide +kernel) (Nat.le_of_ble_eq_true rfl) rfl (kX6_mayHaveColumnOf_0 ?_)
  simp (disch := omega) only [ax_const, ax_iload, ax_lload, ax_aload, ax_istore, ax_astore, ax_iinc, ax_i2, ax_i2n, ax_l2, ax_lsh, ax_ii, ax_il, ax_li, ax_pop, ax_dup, ax_dup2, ax_if, ax_cmp, ax_acmp, ax_goto, ax_getI, ax_getR, ax_putI, ax_putR, ax_gets, ax_getsT, ax_aldI, ax_aldR, ax_astI, ax_astR, ax_alen, ax_ret, ax_aret, ax_vret, am_st, am_kl, List.getElem?_cons_zero, List.getElem?_cons_succ, List.set_cons_zero, List.set_cons_succ, Value.category, true_and, and_true, if_true, if_false, reduceCtorEq, Bool.false_eq_true, false_implies, forall_const, Option.some.injEq, exists_eq_left', exists_eq_left, Sum.inl.injEq, Sum.inr.injEq, Prod.mk.injEq, nI_toInt, nI_clamp, am_ix_nI, am_ix_0, am_ix_1, am_ix_2, am_ix_3, am_n0, am_n1, am_n2, am_n3, am_n4, am_t0, am_t1, am_t2, am_t3, am_t4, am_tm1, am_nS, am_nP, am_nM, Int.ofNat_lt, Int.ofNat_le, h.1, hv, hK.inj hv37 (show 0 < 37 by decide)]
  refine ⟨fun x => ⟨by simp, ?_⟩, fun x => ⟨fun y => ?_, fun y => ⟨fun z => ⟨by simp, ?_⟩, fun z => ⟨fun w => ⟨by simp, ?_⟩, fun w => ⟨by simp, ?_⟩⟩⟩⟩⟩
  · rwa [if_pos x] at hQ
  · rw [if_neg x, if_pos y] at hQ
    refine am_callK [.ref S] [] (d' := 0) (lim' := (am_tp σ, am_us σ)) rfl (by decide) (Nat.le_refl _) (Nat.le_refl _) rfl (Nat.le_of_ble_eq_true rfl) (am_recv h.1) ?_
    refine c_stwo h (fun _ _ => ?_)
    simp only [ax_const, ax_iload, ax_lload, ax_aload, ax_istore, ax_astore, ax_iinc, ax_i2, ax_i2n, ax_l2, ax_lsh, ax_ii, ax_il, ax_li, ax_pop, ax_dup, ax_dup2, ax_if, ax_cmp, ax_acmp, ax_goto, ax_getI, ax_getR, ax_putI, ax_putR, ax_gets, ax_getsT, ax_aldI, ax_aldR, ax_astI, ax_astR, ax_alen, ax_ret, ax_aret, ax_vret, am_st, am_kl, List.getElem?_cons_zero, List.getElem?_cons_succ, List.set_cons_zero, List.set_cons_succ, Value.category, true_and, and_true, if_true, if_false, reduceCtorEq, Bool.false_eq_true, false_implies, forall_const, Option.some.injEq, exists_eq_left', exists_eq_left, Sum.inl.injEq, Sum.inr.injEq, Prod.mk.injEq, Option.toList_some, Option.toList_none, List.cons_append, List.nil_append, List.append_nil]
    by_cases e : am_i σ S 4 = -1
    · rw [if_pos e] at hQ ⊢
      exact ⟨fun _ => ⟨by simp, hQ⟩, fun q => absurd rfl q⟩
    · rw [if_neg e] at hQ ⊢
      exact ⟨fun q => absurd q (by decide), fun _ => ⟨by simp, hQ⟩⟩
  · rwa [if_neg x, if_neg y, if_pos (Or.inl z)] at hQ
  · rwa [if_neg x, if_neg y, if_pos (Or.inr w)] at hQ
  · rwa [if_neg x, if_neg y, if_neg (fun q => q.elim z w)] at hQ
/-- does a statement of the verb v, with these two tables, take a column of table t? -/
def xs_may (v : Nat) (f s t : Int32) : Bool := if v = 0 then false else if t = 2 then decide (s = -1) else decide (t = f ∨ t = s)
/-- the names of the columns that a statement has, from table t on -/
def xs_wr (v : Nat) (f s : Int32) (u : Nat → Bool) : Nat → Nat → Bool
  | 0, _ => false
  | n + 1, t => (u t && !xs_may v f s (nI t)) || xs_wr v f s u n (t + 1)
theorem xs_wr_loop {g : am_G} {l : Launch} {σ : am_S} {S v d : Nat} {u : Nat → Bool} {Q : Option Value → am_S → Prop} (hd : 2 ≤ d) (hK : xt_K g σ) (h : xs_S σ S) (hv : am_r σ S 0 = some (am_tk g v)) (hv37 : v < 37) (hu : ∀ t, t < 3 → am_i σ (S + 14) t = if u t then 1 else 0) :
    ∀ (n t : Nat) (b : Bool), n + t = 3 → Q (some (.int (if b || xs_wr v (am_i σ S 3) (am_i σ S 4) u n t then 1 else 0))) σ → am_W g l mX6_hasWrongNames d (am_tp σ, am_us σ) Q 19 [some (.ref S), some (.int (if b then 1 else 0)), some (.int (nI t))] [] σ := by
  intro n
  induction n with
  | zero =>
    intro t b ht hQ
    refine kX6_hasWrongNames_19 ?_
    simp (disch := omega) only [ax_const, ax_iload, ax_lload, ax_aload, ax_istore, ax_astore, ax_iinc, ax_i2, ax_i2n, ax_l2, ax_lsh, ax_ii, ax_il, ax_li, ax_pop, ax_dup, ax_dup2, ax_if, ax_cmp, ax_acmp, ax_goto, ax_getI, ax_getR, ax_putI, ax_putR, ax_gets, ax_getsT, ax_aldI, ax_aldR, ax_astI, ax_astR, ax_alen, ax_ret, ax_aret, ax_vret, am_st, am_kl, List.getElem?_cons_zero, List.getElem?_cons_succ, List.set_cons_zero, List.set_cons_succ, Value.category, true_and, and_true, if_true, if_false, reduceCtorEq, Bool.false_eq_true, false_implies, forall_const, Option.some.injEq, exists_eq_left', exists_eq_left, Sum.inl.injEq, Sum.inr.injEq, Prod.mk.injEq, nI_toInt, nI_clamp, am_ix_nI, am_ix_0, am_ix_1, am_ix_2, am_ix_3, am_n0, am_n1, am_n2, am_n3, am_n4, am_t0, am_t1, am_t2, am_t3, am_t4, am_tm1, am_nS, am_nP, am_nM, Int.ofNat_lt, Int.ofNat_le]
    refine ⟨fun _ => ⟨?_, ?_⟩, fun x => by omega⟩
    · cases b <;> simp
    · rw [xs_wr, Bool.or_false] at hQ
      exact hQ
  | succ n ih =>
    intro t b ht hQ
    have hut := hu t (by omega)
    have hmc : Q (some (.int (if (b || (u t && !xs_may v (am_i σ S 3) (am_i σ S 4) (nI t))) || xs_wr v (am_i σ S 3) (am_i σ S 4) u n (t + 1) then 1 else 0))) σ := by
      rw [xs_wr, ← Bool.or_assoc] at hQ
      exact hQ
    refine kX6_hasWrongNames_19 ?_
    simp (disch := omega) only [ax_const, ax_iload, ax_lload, ax_aload, ax_istore, ax_astore, ax_iinc, ax_i2, ax_i2n, ax_l2, ax_lsh, ax_ii, ax_il, ax_li, ax_pop, ax_dup, ax_dup2, ax_if, ax_cmp, ax_acmp, ax_goto, ax_getI, ax_getR, ax_putI, ax_putR, ax_gets, ax_getsT, ax_aldI, ax_aldR, ax_astI, ax_astR, ax_alen, ax_ret, ax_aret, ax_vret, am_st, am_kl, List.getElem?_cons_zero, List.getElem?_cons_succ, List.set_cons_zero, List.set_cons_succ, Value.category, true_and, and_true, if_true, if_false, reduceCtorEq, Bool.false_eq_true, false_implies, forall_const, Option.some.injEq, exists_eq_left', exists_eq_left, Sum.inl.injEq, Sum.inr.injEq, Prod.mk.injEq, nI_toInt, nI_clamp, am_ix_nI, am_ix_0, am_ix_1, am_ix_2, am_ix_3, am_n0, am_n1, am_n2, am_n3, am_n4, am_t0, am_t1, am_t2, am_t3, am_t4, am_tm1, am_nS, am_nP, am_nM, Int.ofNat_lt, Int.ofNat_le, h.1, h.2.2.2.2.2.1, h.2.2.2.2.2.2.2.2.2.1, hut]
    refine ⟨fun x => by omega, fun _ => ⟨fun x => ⟨by omega, fun y => ?_, fun y => ?_⟩, fun x => ?_⟩⟩
    · have hb : b = false := by cases b with
        | true => exact absurd x (by decide)
        | false => rfl
      have hu0 : u t = false := by cases hq : u t with
        | true => rw [hq] at y; exact absurd y (by decide)
        | false => rfl
      rw [hb, hu0] at hmc
      exact ih (t + 1) false (by omega) hmc
    · have hb : b = false := by cases b with
        | true => exact absurd x (by decide)
        | false => rfl
      have hu0 : u t = true := by cases hq : u t with
        | false => rw [hq] at y; exact absurd rfl y
        | true => rfl
      rw [hb, hu0, Bool.false_or, Bool.true_and] at hmc
      refine am_callK [.ref S, .int (nI t)] [] (d' := 1) (lim' := (am_tp σ, am_us σ)) rfl (by omega) (Nat.le_refl _) (Nat.le_refl _) rfl (Nat.le_of_ble_eq_true rfl) (am_recv h.1) ?_
      refine c_smay (v := v) hK h hv hv37 (fun _ _ => ?_)
      simp (disch := omega) only [ax_const, ax_iload, ax_lload, ax_aload, ax_istore, ax_astore, ax_iinc, ax_i2, ax_i2n, ax_l2, ax_lsh, ax_ii, ax_il, ax_li, ax_pop, ax_dup, ax_dup2, ax_if, ax_cmp, ax_acmp, ax_goto, ax_getI, ax_getR, ax_putI, ax_putR, ax_gets, ax_getsT, ax_aldI, ax_aldR, ax_astI, ax_astR, ax_alen, ax_ret, ax_aret, ax_vret, am_st, am_kl, List.getElem?_cons_zero, List.getElem?_cons_succ, List.set_cons_zero, List.set_cons_succ, Value.category, true_and, and_true, if_true, if_false, reduceCtorEq, Bool.false_eq_true, false_implies, forall_const, Option.some.injEq, exists_eq_left', exists_eq_left, Sum.inl.injEq, Sum.inr.injEq, Prod.mk.injEq, nI_toInt, nI_clamp, am_ix_nI, am_ix_0, am_ix_1, am_ix_2, am_ix_3, am_n0, am_n1, am_n2, am_n3, am_n4, am_t0, am_t1, am_t2, am_t3, am_t4, am_tm1, am_nS, am_nP, am_nM, Int.ofNat_lt, Int.ofNat_le, Option.toList_some, Option.toList_none, List.cons_append, List.nil_append, List.append_nil]
      have e : (if v = 0 then (0 : Int32) else if nI t = 2 then (if am_i σ S 4 = -1 then 1 else 0) else if nI t = am_i σ S 3 ∨ nI t = am_i σ S 4 then 1 else 0) = if xs_may v (am_i σ S 3) (am_i σ S 4) (nI t) then 1 else 0 := by
        unfold xs_may
        by_cases z1 : v = 0
        · rw [if_pos z1, if_pos z1]
          rfl
        · rw [if_neg z1, if_neg z1]
          by_cases z2 : nI t = 2
          · rw [if_pos z2, if_pos z2]
            by_cases z3 : am_i σ S 4 = -1
            · rw [if_pos z3, decide_eq_true z3]
              rfl
            · rw [if_neg z3, decide_eq_false z3]
              rfl
          · rw [if_neg z2, if_neg z2]
            by_cases z3 : nI t = am_i σ S 3 ∨ nI t = am_i σ S 4
            · rw [if_pos z3, decide_eq_true z3]
              rfl
            · rw [if_neg z3, decide_eq_false z3]
              rfl
      rw [e]
      cases hm : xs_may v (am_i σ S 3) (am_i σ S 4) (nI t) with
      | true =>
        rw [hm] at hmc
        refine ⟨fun q => absurd q (by decide), fun _ => ?_⟩
        exact ih (t + 1) false (by omega) hmc
      | false =>
        rw [hm] at hmc
        refine ⟨fun _ => ?_, fun q => absurd rfl q⟩
        exact ih (t + 1) true (by omega) hmc
    · have hb : b = true := by cases b with
        | false => exact absurd rfl x
        | true => rfl
      rw [hb, Bool.true_or] at hmc
      exact ih (t + 1) true (by omega) hmc
theorem c_swrong {g : am_G} {l : Launch} {σ : am_S} {S v : Nat} {u : Nat → Bool} {Q : Option Value → am_S → Prop} (hK : xt_K g σ) (h : xs_S σ S) (hv : am_r σ S 0 = some (am_tk g v)) (hv37 : v < 37) (hu : ∀ t, t < 3 → am_i σ (S + 14) t = if u t then 1 else 0)
    (hQ : Q (some (.int (if decide (am_i σ S 3 = am_i σ S 4) || xs_wr v (am_i σ S 3) (am_i σ S 4) u 3 0 then 1 else 0))) σ) : am_C g l mX6_hasWrongNames 2 (am_tp σ, am_us σ) [.ref S] σ Q := by
  refine am_C.go [some (.ref S), none, none] (by decide +kernel) (Nat.le_of_ble_eq_true rfl) rfl (kX6_hasWrongNames_0 ?_)
  simp (disch := omega) only [ax_const, ax_iload, ax_lload, ax_aload, ax_istore, ax_astore, ax_iinc, ax_i2, ax_i2n, ax_l2, ax_lsh, ax_ii, ax_il, ax_li, ax_pop, ax_dup, ax_dup2, ax_if, ax_cmp, ax_acmp, ax_goto, ax_getI, ax_getR, ax_putI, ax_putR, ax_gets, ax_getsT, ax_aldI, ax_aldR, ax_astI, ax_astR, ax_alen, ax_ret, ax_aret, ax_vret, am_st, am_kl, List.getElem?_cons_zero, List.getElem?_cons_succ, List.set_cons_zero, List.set_cons_succ, Value.category, true_and, and_true, if_true, if_false, reduceCtorEq, Bool.false_eq_true, false_implies, forall_const, Option.some.injEq, exists_eq_left', exists_eq_left, Sum.inl.injEq, Sum.inr.injEq, Prod.mk.injEq, nI_toInt, nI_clamp, am_ix_nI, am_ix_0, am_ix_1, am_ix_2, am_ix_3, am_n0, am_n1, am_n2, am_n3, am_n4, am_t0, am_t1, am_t2, am_t3, am_t4, am_tm1, am_nS, am_nP, am_nM, Int.ofNat_lt, Int.ofNat_le, h.1]
  refine ⟨fun x => ?_, fun x => ?_⟩
  · rw [decide_eq_true x] at hQ
    exact xs_wr_loop (Nat.le_refl _) hK h hv hv37 hu 3 0 true rfl hQ
  · rw [decide_eq_false x] at hQ
    exact xs_wr_loop (Nat.le_refl _) hK h hv hv37 hu 3 0 false rfl hQ
/-- which of the X is count or sum, from place i on -/
def xs_sm (k : Nat → Nat) : Nat → Nat → Bool
  | 0, _ => false
  | n + 1, i => decide (k i = 2 ∨ k i = 3) || xs_sm k n (i + 1)
theorem xs_sm_loop {g : am_G} {l : Launch} {σ : am_S} {S n0 d : Nat} {k : Nat → Nat} {ss : Nat → List (Nat × Int32)} {Q : Option Value → am_S → Prop} (hd : 1 ≤ d) (h : xs_S σ S) (hn : am_i σ S 6 = nI n0) (hn3 : n0 ≤ 3) (hx : ∀ i, i < 3 → xk_C g σ (S + 19 + 4 * i) (k i) (ss i)) :
    ∀ (n i : Nat) (b : Bool), n + i = n0 → Q (some (.int (if b || xs_sm k n i then 1 else 0))) σ → am_W g l mX6_isSummary d (am_tp σ, am_us σ) Q 10 [some (.ref S), some (.int (if b then 1 else 0)), some (.int (nI i))] [] σ := by
  intro n
  induction n with
  | zero =>
    intro i b hi hQ
    refine kX6_isSummary_10 ?_
    simp (disch := omega) only [ax_const, ax_iload, ax_lload, ax_aload, ax_istore, ax_astore, ax_iinc, ax_i2, ax_i2n, ax_l2, ax_lsh, ax_ii, ax_il, ax_li, ax_pop, ax_dup, ax_dup2, ax_if, ax_cmp, ax_acmp, ax_goto, ax_getI, ax_getR, ax_putI, ax_putR, ax_gets, ax_getsT, ax_aldI, ax_aldR, ax_astI, ax_astR, ax_alen, ax_ret, ax_aret, ax_vret, am_st, am_kl, List.getElem?_cons_zero, List.getElem?_cons_succ, List.set_cons_zero, List.set_cons_succ, Value.category, true_and, and_true, if_true, if_false, reduceCtorEq, Bool.false_eq_true, false_implies, forall_const, Option.some.injEq, exists_eq_left', exists_eq_left, Sum.inl.injEq, Sum.inr.injEq, Prod.mk.injEq, nI_toInt, nI_clamp, am_ix_nI, am_ix_0, am_ix_1, am_ix_2, am_ix_3, am_n0, am_n1, am_n2, am_n3, am_n4, am_t0, am_t1, am_t2, am_t3, am_t4, am_tm1, am_nS, am_nP, am_nM, Int.ofNat_lt, Int.ofNat_le, h.1, hn]
    refine ⟨fun x => by omega, fun _ => ⟨?_, ?_⟩⟩
    · cases b <;> simp
    · rw [xs_sm, Bool.or_false] at hQ
      exact hQ
  | succ n ih =>
    intro i b hi hQ
    rw [xs_sm, ← Bool.or_assoc] at hQ
    have hr := h.2.2.2.2.2.2.2.2.1 i (by omega)
    refine kX6_isSummary_10 ?_
    simp (disch := omega) only [ax_const, ax_iload, ax_lload, ax_aload, ax_istore, ax_astore, ax_iinc, ax_i2, ax_i2n, ax_l2, ax_lsh, ax_ii, ax_il, ax_li, ax_pop, ax_dup, ax_dup2, ax_if, ax_cmp, ax_acmp, ax_goto, ax_getI, ax_getR, ax_putI, ax_putR, ax_gets, ax_getsT, ax_aldI, ax_aldR, ax_astI, ax_astR, ax_alen, ax_ret, ax_aret, ax_vret, am_st, am_kl, List.getElem?_cons_zero, List.getElem?_cons_succ, List.set_cons_zero, List.set_cons_succ, Value.category, true_and, and_true, if_true, if_false, reduceCtorEq, Bool.false_eq_true, false_implies, forall_const, Option.some.injEq, exists_eq_left', exists_eq_left, Sum.inl.injEq, Sum.inr.injEq, Prod.mk.injEq, nI_toInt, nI_clamp, am_ix_nI, am_ix_0, am_ix_1, am_ix_2, am_ix_3, am_n0, am_n1, am_n2, am_n3, am_n4, am_t0, am_t1, am_t2, am_t3, am_t4, am_tm1, am_nS, am_nP, am_nM, Int.ofNat_lt, Int.ofNat_le, h.1, hn, h.2.1, h.2.2.2.2.2.2.2.1, hr]
    refine ⟨fun _ => ⟨fun x => ⟨by omega, ?_⟩, fun x => ?_⟩, fun x => by omega⟩
    · have hb : b = false := by cases b with
        | true => exact absurd x (by decide)
        | false => rfl
      rw [hb, Bool.false_or] at hQ
      refine am_callK [.ref (S + 19 + 4 * i)] [] (d' := 0) (lim' := (am_tp σ, am_us σ)) rfl (by omega) (Nat.le_refl _) (Nat.le_refl _) rfl (Nat.le_of_ble_eq_true rfl) (am_recv (hx i (by omega)).1) ?_
      refine c_kisSummary (hx i (by omega)) (fun _ _ => ?_)
      simp (disch := omega) only [ax_const, ax_iload, ax_lload, ax_aload, ax_istore, ax_astore, ax_iinc, ax_i2, ax_i2n, ax_l2, ax_lsh, ax_ii, ax_il, ax_li, ax_pop, ax_dup, ax_dup2, ax_if, ax_cmp, ax_acmp, ax_goto, ax_getI, ax_getR, ax_putI, ax_putR, ax_gets, ax_getsT, ax_aldI, ax_aldR, ax_astI, ax_astR, ax_alen, ax_ret, ax_aret, ax_vret, am_st, am_kl, List.getElem?_cons_zero, List.getElem?_cons_succ, List.set_cons_zero, List.set_cons_succ, Value.category, true_and, and_true, if_true, if_false, reduceCtorEq, Bool.false_eq_true, false_implies, forall_const, Option.some.injEq, exists_eq_left', exists_eq_left, Sum.inl.injEq, Sum.inr.injEq, Prod.mk.injEq, nI_toInt, nI_clamp, am_ix_nI, am_ix_0, am_ix_1, am_ix_2, am_ix_3, am_n0, am_n1, am_n2, am_n3, am_n4, am_t0, am_t1, am_t2, am_t3, am_t4, am_tm1, am_nS, am_nP, am_nM, Int.ofNat_lt, Int.ofNat_le, Option.toList_some, Option.toList_none, List.cons_append, List.nil_append, List.append_nil]
      by_cases e : k i = 2 ∨ k i = 3
      · rw [decide_eq_true e] at hQ
        rw [if_pos e]
        exact ⟨fun q => absurd q (by decide), fun _ => ih (i + 1) true (by omega) hQ⟩
      · rw [decide_eq_false e] at hQ
        rw [if_neg e]
        exact ⟨fun _ => ih (i + 1) false (by omega) hQ, fun q => absurd rfl q⟩
    · have hb : b = true := by cases b with
        | false => exact absurd rfl x
        | true => rfl
      rw [hb, Bool.true_or] at hQ
      exact ih (i + 1) true (by omega) hQ
theorem c_ssum {g : am_G} {l : Launch} {σ : am_S} {S n0 ko : Nat} {so : List (Nat × Int32)} {k : Nat → Nat} {ss : Nat → List (Nat × Int32)} {Q : Option Value → am_S → Prop} (h : xs_S σ S) (hn : am_i σ S 6 = nI n0) (hn3 : n0 ≤ 3) (hx : ∀ i, i < 3 → xk_C g σ (S + 19 + 4 * i) (k i) (ss i)) (ho : xk_C g σ (S + 10) ko so)
    (hQ : Q (some (.int (if decide (ko = 2 ∨ ko = 3) || xs_sm k n0 0 then 1 else 0))) σ) : am_C g l mX6_isSummary 1 (am_tp σ, am_us σ) [.ref S] σ Q := by
  refine am_C.go [some (.ref S), none, none] (by decide +kernel) (Nat.le_of_ble_eq_true rfl) rfl (kX6_isSummary_0 ?_)
  simp (disch := omega) only [ax_const, ax_iload, ax_lload, ax_aload, ax_istore, ax_astore, ax_iinc, ax_i2, ax_i2n, ax_l2, ax_lsh, ax_ii, ax_il, ax_li, ax_pop, ax_dup, ax_dup2, ax_if, ax_cmp, ax_acmp, ax_goto, ax_getI, ax_getR, ax_putI, ax_putR, ax_gets, ax_getsT, ax_aldI, ax_aldR, ax_astI, ax_astR, ax_alen, ax_ret, ax_aret, ax_vret, am_st, am_kl, List.getElem?_cons_zero, List.getElem?_cons_succ, List.set_cons_zero, List.set_cons_succ, Value.category, true_and, and_true, if_true, if_false, reduceCtorEq, Bool.false_eq_true, false_implies, forall_const, Option.some.injEq, exists_eq_left', exists_eq_left, Sum.inl.injEq, Sum.inr.injEq, Prod.mk.injEq, nI_toInt, nI_clamp, am_ix_nI, am_ix_0, am_ix_1, am_ix_2, am_ix_3, am_n0, am_n1, am_n2, am_n3, am_n4, am_t0, am_t1, am_t2, am_t3, am_t4, am_tm1, am_nS, am_nP, am_nM, Int.ofNat_lt, Int.ofNat_le, h.1, h.2.2.2.2.1]
  refine am_callK [.ref (S + 10)] [] (d' := 0) (lim' := (am_tp σ, am_us σ)) rfl (by omega) (Nat.le_refl _) (Nat.le_refl _) rfl (Nat.le_of_ble_eq_true rfl) (am_recv ho.1) ?_
  refine c_kisSummary ho (fun _ _ => ?_)
  simp (disch := omega) only [ax_const, ax_iload, ax_lload, ax_aload, ax_istore, ax_astore, ax_iinc, ax_i2, ax_i2n, ax_l2, ax_lsh, ax_ii, ax_il, ax_li, ax_pop, ax_dup, ax_dup2, ax_if, ax_cmp, ax_acmp, ax_goto, ax_getI, ax_getR, ax_putI, ax_putR, ax_gets, ax_getsT, ax_aldI, ax_aldR, ax_astI, ax_astR, ax_alen, ax_ret, ax_aret, ax_vret, am_st, am_kl, List.getElem?_cons_zero, List.getElem?_cons_succ, List.set_cons_zero, List.set_cons_succ, Value.category, true_and, and_true, if_true, if_false, reduceCtorEq, Bool.false_eq_true, false_implies, forall_const, Option.some.injEq, exists_eq_left', exists_eq_left, Sum.inl.injEq, Sum.inr.injEq, Prod.mk.injEq, nI_toInt, nI_clamp, am_ix_nI, am_ix_0, am_ix_1, am_ix_2, am_ix_3, am_n0, am_n1, am_n2, am_n3, am_n4, am_t0, am_t1, am_t2, am_t3, am_t4, am_tm1, am_nS, am_nP, am_nM, Int.ofNat_lt, Int.ofNat_le, Option.toList_some, Option.toList_none, List.cons_append, List.nil_append, List.append_nil]
  by_cases e : ko = 2 ∨ ko = 3
  · rw [decide_eq_true e] at hQ
    rw [if_pos e]
    exact xs_sm_loop (Nat.le_refl _) h hn hn3 hx n0 0 true rfl hQ
  · rw [decide_eq_false e] at hQ
    rw [if_neg e]
    exact xs_sm_loop (Nat.le_refl _) h hn hn3 hx n0 0 false rfl hQ
/-! clear -/
/-- where the codes lie: 0, 1, 2 the X, 3 where, 4 group, 5 order -/
def xs_ca (S j : Nat) : Nat := if j < 3 then S + 19 + 4 * j else if j = 3 then S + 2 else if j = 4 then S + 6 else S + 10
def xs_CS (g : am_G) (σ : am_S) (S : Nat) (k : Nat → Nat) (ss : Nat → List (Nat × Int32)) : Prop := ∀ j, j < 6 → xk_C g σ (xs_ca S j) (k j) (ss j)
theorem xs_ca_in (S j : Nat) (hj : j < 6) : (j < 3 ∧ xs_ca S j = S + 19 + 4 * j) ∨ (j = 3 ∧ xs_ca S j = S + 2) ∨ (j = 4 ∧ xs_ca S j = S + 6) ∨ (j = 5 ∧ xs_ca S j = S + 10) := by
  unfold xs_ca
  have : j = 0 ∨ j = 1 ∨ j = 2 ∨ j = 3 ∨ j = 4 ∨ j = 5 := by omega
  rcases this with rfl | rfl | rfl | rfl | rfl | rfl <;> simp
theorem xs_CS.put {g : am_G} {σ σ' : am_S} {S : Nat} {k : Nat → Nat} {ss : Nat → List (Nat × Int32)} {j kd : Nat} {s' : List (Nat × Int32)} (h : xs_CS g σ S k ss) (hj : j < 6) (hc : xk_C g σ' (xs_ca S j) kd s') (hf : am_fm (fun b => xs_ca S j ≤ b ∧ b < xs_ca S j + 4) σ σ') : xs_CS g σ' S (fun i => if i = j then kd else k i) (fun i => if i = j then s' else ss i) := by
  intro i hi
  dsimp only
  by_cases e : i = j
  · subst e
    rw [if_pos rfl, if_pos rfl]
    exact hc
  · rw [if_neg e, if_neg e]
    refine (h i hi).fm hf (fun b x y z => ?_)
    have h1 := xs_ca_in S i hi
    have h2 := xs_ca_in S j hj
    omega
theorem xs_CS.fm {g : am_G} {P : Nat → Prop} {σ σ' : am_S} {S : Nat} {k : Nat → Nat} {ss : Nat → List (Nat × Int32)} (h : xs_CS g σ S k ss) (hf : am_fm P σ σ') (hd : ∀ b, S + 2 ≤ b → b < S + 31 → P b → (b = S + 5 ∨ b = S + 9 ∨ (S + 13 ≤ b ∧ b < S + 19) ∨ b = S + 22 ∨ b = S + 26 ∨ b = S + 30)) : xs_CS g σ' S k ss := by
  intro i hi
  refine (h i hi).fm hf (fun b x y z => ?_)
  have h1 := xs_ca_in S i hi
  have := hd b (by omega) (by omega) z
  omega
theorem xs_cl_50 {g : am_G} {l : Launch} {σ : am_S} {S d tp us : Nat} {k : Nat → Nat} {ss : Nat → List (Nat × Int32)} {Q : Option Value → am_S → Prop} (hQ : ∀ σ', xs_S σ' S → xs_CS g σ' S k ss → am_i σ' S 4 = am_i σ S 4 → (∀ t, t < 3 → am_i σ' (S + 14) t = 0) → am_fm (fun b => b = S + 14) σ σ' → Q none σ') :
    ∀ (n t : Nat) (σ' : am_S), n + t = 3 → xs_S σ' S → xs_CS g σ' S k ss → am_i σ' S 4 = am_i σ S 4 → (∀ j, j < t → am_i σ' (S + 14) j = 0) → am_fm (fun b => b = S + 14) σ σ' → am_tp σ' = tp → am_us σ' = us →
      am_W g l mX6_clear d (tp, us) Q 50 [some (.ref S), some (.int (nI t))] [] σ' := by
  intro n
  induction n with
  | zero =>
    intro t σ' ht h hc h4 hz hf h1 h2
    refine kX6_clear_50 ?_
    simp (disch := omega) only [ax_const, ax_iload, ax_lload, ax_aload, ax_istore, ax_astore, ax_iinc, ax_i2, ax_i2n, ax_l2, ax_lsh, ax_ii, ax_il, ax_li, ax_pop, ax_dup, ax_dup2, ax_if, ax_cmp, ax_acmp, ax_goto, ax_getI, ax_getR, ax_putI, ax_putR, ax_gets, ax_getsT, ax_aldI, ax_aldR, ax_astI, ax_astR, ax_alen, ax_ret, ax_aret, ax_vret, am_st, am_kl, List.getElem?_cons_zero, List.getElem?_cons_succ, List.set_cons_zero, List.set_cons_succ, Value.category, true_and, and_true, if_true, if_false, reduceCtorEq, Bool.false_eq_true, false_implies, forall_const, Option.some.injEq, exists_eq_left', exists_eq_left, Sum.inl.injEq, Sum.inr.injEq, Prod.mk.injEq, nI_toInt, nI_clamp, am_ix_nI, am_ix_0, am_ix_1, am_ix_2, am_ix_3, am_n0, am_n1, am_n2, am_n3, am_n4, am_t0, am_t1, am_t2, am_t3, am_t4, am_tm1, am_nS, am_nP, am_nM, Int.ofNat_lt, Int.ofNat_le]
    exact ⟨fun _ => ⟨h1, h2, hQ σ' h hc h4 (fun j hj => hz j (by omega)) hf⟩, fun x => by omega⟩
  | succ n ih =>
    intro t σ' ht h hc h4 hz hf h1 h2
    refine kX6_clear_50 ?_
    simp (disch := omega) only [ax_const, ax_iload, ax_lload, ax_aload, ax_istore, ax_astore, ax_iinc, ax_i2, ax_i2n, ax_l2, ax_lsh, ax_ii, ax_il, ax_li, ax_pop, ax_dup, ax_dup2, ax_if, ax_cmp, ax_acmp, ax_goto, ax_getI, ax_getR, ax_putI, ax_putR, ax_gets, ax_getsT, ax_aldI, ax_aldR, ax_astI, ax_astR, ax_alen, ax_ret, ax_aret, ax_vret, am_st, am_kl, List.getElem?_cons_zero, List.getElem?_cons_succ, List.set_cons_zero, List.set_cons_succ, Value.category, true_and, and_true, if_true, if_false, reduceCtorEq, Bool.false_eq_true, false_implies, forall_const, Option.some.injEq, exists_eq_left', exists_eq_left, Sum.inl.injEq, Sum.inr.injEq, Prod.mk.injEq, nI_toInt, nI_clamp, am_ix_nI, am_ix_0, am_ix_1, am_ix_2, am_ix_3, am_n0, am_n1, am_n2, am_n3, am_n4, am_t0, am_t1, am_t2, am_t3, am_t4, am_tm1, am_nS, am_nP, am_nM, Int.ofNat_lt, Int.ofNat_le, h.1, h.2.2.2.2.2.1, h.2.2.2.2.2.2.2.2.2.1]
    refine ⟨fun x => by omega, fun _ => ⟨by omega, ?_⟩⟩
    have hf1 : am_fm (fun b => b = S + 14) σ' (am_wi σ' (S + 14) t (vp_nar .boolean 0)) := am_fm.rf.wi rfl
    refine ih (t + 1) _ (by omega) (h.fm hf1 (by omega) (by omega) (by omega)) (hc.fm hf1 (fun b x y z => by omega)) ?_ (fun j hj => ?_) (hf.tr hf1) h1 h2
    · rw [am_i_wi, if_neg (by omega)]; exact h4
    · rw [am_i_wi]
      by_cases e : j = t
      · rw [if_pos ⟨rfl, e⟩]
        rfl
      · rw [if_neg (fun z => e z.2)]
        exact hz j (by omega)
theorem xs_cl_7 {g : am_G} {l : Launch} {σ0 : am_S} {S d tp us : Nat} {Q : Option Value → am_S → Prop} (hd : 1 ≤ d) (hQ : ∀ σ', xs_S σ' S → xs_CS g σ' S (fun _ => 0) (fun _ => []) → am_i σ' S 4 = -1 → (∀ t, t < 3 → am_i σ' (S + 14) t = 0) → am_fm (fun b => S ≤ b ∧ b < S + 31) σ0 σ' → Q none σ') :
    ∀ (n i : Nat) (σ : am_S) (k : Nat → Nat) (ss : Nat → List (Nat × Int32)), n + i = 3 → xs_S σ S → xs_CS g σ S k ss → (∀ j, j < i → k j = 0 ∧ ss j = []) → am_i σ S 4 = -1 → am_fm (fun b => S ≤ b ∧ b < S + 31) σ0 σ → am_tp σ = tp → am_us σ = us →
      am_W g l mX6_clear d (tp, us) Q 7 [some (.ref S), some (.int (nI i))] [] σ := by
  intro n
  induction n with
  | zero =>
    intro i σ k ss hi h hc hz h4 hf h1 h2
    have ca3 : xs_ca S 3 = S + 2 := rfl
    have ca4 : xs_ca S 4 = S + 6 := rfl
    have ca5 : xs_ca S 5 = S + 10 := rfl
    have w3 := hc 3 (by omega)
    have w4 := hc 4 (by omega)
    have w5 := hc 5 (by omega)
    refine kX6_clear_7 ?_
    simp (disch := omega) only [ax_const, ax_iload, ax_lload, ax_aload, ax_istore, ax_astore, ax_iinc, ax_i2, ax_i2n, ax_l2, ax_lsh, ax_ii, ax_il, ax_li, ax_pop, ax_dup, ax_dup2, ax_if, ax_cmp, ax_acmp, ax_goto, ax_getI, ax_getR, ax_putI, ax_putR, ax_gets, ax_getsT, ax_aldI, ax_aldR, ax_astI, ax_astR, ax_alen, ax_ret, ax_aret, ax_vret, am_st, am_kl, List.getElem?_cons_zero, List.getElem?_cons_succ, List.set_cons_zero, List.set_cons_succ, Value.category, true_and, and_true, if_true, if_false, reduceCtorEq, Bool.false_eq_true, false_implies, forall_const, Option.some.injEq, exists_eq_left', exists_eq_left, Sum.inl.injEq, Sum.inr.injEq, Prod.mk.injEq, nI_toInt, nI_clamp, am_ix_nI, am_ix_0, am_ix_1, am_ix_2, am_ix_3, am_n0, am_n1, am_n2, am_n3, am_n4, am_t0, am_t1, am_t2, am_t3, am_t4, am_tm1, am_nS, am_nP, am_nM, Int.ofNat_lt, Int.ofNat_le, h.1, h.2.2.1]
    refine ⟨fun x => by omega, fun _ => ?_⟩
    refine am_callK [.ref (S + 2)] [] (d' := 0) (lim' := (am_tp σ, am_us σ)) rfl (by omega) (by rw [h1]; exact Nat.le_refl _) (by rw [h2]; exact Nat.le_refl _) rfl (Nat.le_of_ble_eq_true rfl) (am_recv w3.1) ?_
    refine c_kclear w3 (fun σ1 k1 f1 t1 u1 => ?_)
    have f1' : am_fm (fun b => S ≤ b ∧ b < S + 31) σ0 σ1 := hf.tr (f1.mono (fun b hb => by have := xs_ca_in S 3 (by omega); omega))
    have hc1 := hc.put (j := 3) (by omega) k1 (f1.mono (fun b hb => by omega))
    have hS1 := h.fm f1 (by omega) (by omega) (by omega)
    have i1 : am_i σ1 S 4 = -1 := by rw [(f1.2.2.2 S (by omega)).1]; exact h4
    simp (disch := omega) only [ax_const, ax_iload, ax_lload, ax_aload, ax_istore, ax_astore, ax_iinc, ax_i2, ax_i2n, ax_l2, ax_lsh, ax_ii, ax_il, ax_li, ax_pop, ax_dup, ax_dup2, ax_if, ax_cmp, ax_acmp, ax_goto, ax_getI, ax_getR, ax_putI, ax_putR, ax_gets, ax_getsT, ax_aldI, ax_aldR, ax_astI, ax_astR, ax_alen, ax_ret, ax_aret, ax_vret, am_st, am_kl, List.getElem?_cons_zero, List.getElem?_cons_succ, List.set_cons_zero, List.set_cons_succ, Value.category, true_and, and_true, if_true, if_false, reduceCtorEq, Bool.false_eq_true, false_implies, forall_const, Option.some.injEq, exists_eq_left', exists_eq_left, Sum.inl.injEq, Sum.inr.injEq, Prod.mk.injEq, nI_toInt, nI_clamp, am_ix_nI, am_ix_0, am_ix_1, am_ix_2, am_ix_3, am_n0, am_n1, am_n2, am_n3, am_n4, am_t0, am_t1, am_t2, am_t3, am_t4, am_tm1, am_nS, am_nP, am_nM, Int.ofNat_lt, Int.ofNat_le, Option.toList_some, Option.toList_none, List.cons_append, List.nil_append, List.append_nil, hS1.1, hS1.2.2.2.1]
    have w4' := hc1 4 (by omega)
    refine am_callK [.ref (S + 6)] [] (d' := 0) (lim' := (am_tp σ1, am_us σ1)) rfl (by omega) (by rw [t1, h1]; exact Nat.le_refl _) (by rw [u1, h2]; exact Nat.le_refl _) rfl (Nat.le_of_ble_eq_true rfl) (am_recv w4'.1) ?_
    refine c_kclear w4' (fun σ2 k2 f2 t2 u2 => ?_)
    have f2' : am_fm (fun b => S ≤ b ∧ b < S + 31) σ0 σ2 := f1'.tr (f2.mono (fun b hb => by have := xs_ca_in S 4 (by omega); omega))
    have hc2 := hc1.put (j := 4) (by omega) k2 (f2.mono (fun b hb => by omega))
    have hS2 := hS1.fm f2 (by omega) (by omega) (by omega)
    have i2 : am_i σ2 S 4 = -1 := by rw [(f2.2.2.2 S (by omega)).1]; exact i1
    simp (disch := omega) only [ax_const, ax_iload, ax_lload, ax_aload, ax_istore, ax_astore, ax_iinc, ax_i2, ax_i2n, ax_l2, ax_lsh, ax_ii, ax_il, ax_li, ax_pop, ax_dup, ax_dup2, ax_if, ax_cmp, ax_acmp, ax_goto, ax_getI, ax_getR, ax_putI, ax_putR, ax_gets, ax_getsT, ax_aldI, ax_aldR, ax_astI, ax_astR, ax_alen, ax_ret, ax_aret, ax_vret, am_st, am_kl, List.getElem?_cons_zero, List.getElem?_cons_succ, List.set_cons_zero, List.set_cons_succ, Value.category, true_and, and_true, if_true, if_false, reduceCtorEq, Bool.false_eq_true, false_implies, forall_const, Option.some.injEq, exists_eq_left', exists_eq_left, Sum.inl.injEq, Sum.inr.injEq, Prod.mk.injEq, nI_toInt, nI_clamp, am_ix_nI, am_ix_0, am_ix_1, am_ix_2, am_ix_3, am_n0, am_n1, am_n2, am_n3, am_n4, am_t0, am_t1, am_t2, am_t3, am_t4, am_tm1, am_nS, am_nP, am_nM, Int.ofNat_lt, Int.ofNat_le, Option.toList_some, Option.toList_none, List.cons_append, List.nil_append, List.append_nil, hS2.1, hS2.2.2.2.2.1]
    have w5' := hc2 5 (by omega)
    refine am_callK [.ref (S + 10)] [] (d' := 0) (lim' := (am_tp σ2, am_us σ2)) rfl (by omega) (by rw [t2, t1, h1]; exact Nat.le_refl _) (by rw [u2, u1, h2]; exact Nat.le_refl _) rfl (Nat.le_of_ble_eq_true rfl) (am_recv w5'.1) ?_
    refine c_kclear w5' (fun σ3 k3 f3 t3 u3 => ?_)
    have f3' : am_fm (fun b => S ≤ b ∧ b < S + 31) σ0 σ3 := f2'.tr (f3.mono (fun b hb => by have := xs_ca_in S 5 (by omega); omega))
    have hc3 := hc2.put (j := 5) (by omega) k3 (f3.mono (fun b hb => by omega))
    have hS3 := hS2.fm f3 (by omega) (by omega) (by omega)
    have i3 : am_i σ3 S 4 = -1 := by rw [(f3.2.2.2 S (by omega)).1]; exact i2
    simp (disch := omega) only [ax_const, ax_iload, ax_lload, ax_aload, ax_istore, ax_astore, ax_iinc, ax_i2, ax_i2n, ax_l2, ax_lsh, ax_ii, ax_il, ax_li, ax_pop, ax_dup, ax_dup2, ax_if, ax_cmp, ax_acmp, ax_goto, ax_getI, ax_getR, ax_putI, ax_putR, ax_gets, ax_getsT, ax_aldI, ax_aldR, ax_astI, ax_astR, ax_alen, ax_ret, ax_aret, ax_vret, am_st, am_kl, List.getElem?_cons_zero, List.getElem?_cons_succ, List.set_cons_zero, List.set_cons_succ, Value.category, true_and, and_true, if_true, if_false, reduceCtorEq, Bool.false_eq_true, false_implies, forall_const, Option.some.injEq, exists_eq_left', exists_eq_left, Sum.inl.injEq, Sum.inr.injEq, Prod.mk.injEq, nI_toInt, nI_clamp, am_ix_nI, am_ix_0, am_ix_1, am_ix_2, am_ix_3, am_n0, am_n1, am_n2, am_n3, am_n4, am_t0, am_t1, am_t2, am_t3, am_t4, am_tm1, am_nS, am_nP, am_nM, Int.ofNat_lt, Int.ofNat_le, Option.toList_some, Option.toList_none, List.cons_append, List.nil_append, List.append_nil]
    refine xs_cl_50 (σ := σ3) (k := fun _ => 0) (ss := fun _ => []) (fun σ' a1 a2 a3 a4 a5 => hQ σ' a1 a2 (a3.trans i3) a4 (f3'.tr (a5.mono (fun b hb => by omega)))) 3 0 σ3 rfl hS3 (fun j hj => ?_) rfl (fun j hj => by omega) .rf (t3.trans (t2.trans (t1.trans h1))) (u3.trans (u2.trans (u1.trans h2)))
    have := hc3 j hj
    dsimp only at this
    have hcase : j < 3 ∨ j = 3 ∨ j = 4 ∨ j = 5 := by omega
    rcases hcase with hj3 | rfl | rfl | rfl
    · rw [if_neg (by omega), if_neg (by omega), if_neg (by omega), if_neg (by omega), if_neg (by omega), if_neg (by omega), (hz j (by omega)).1, (hz j (by omega)).2] at this
      exact this
    · exact this
    · exact this
    · exact this
  | succ n ih =>
    intro i σ k ss hi h hc hz h4 hf h1 h2
    have hr := h.2.2.2.2.2.2.2.2.1 i (by omega)
    have wi := hc i (by omega)
    have hca : xs_ca S i = S + 19 + 4 * i := by have := xs_ca_in S i (by omega); omega
    refine kX6_clear_7 ?_
    simp (disch := omega) only [ax_const, ax_iload, ax_lload, ax_aload, ax_istore, ax_astore, ax_iinc, ax_i2, ax_i2n, ax_l2, ax_lsh, ax_ii, ax_il, ax_li, ax_pop, ax_dup, ax_dup2, ax_if, ax_cmp, ax_acmp, ax_goto, ax_getI, ax_getR, ax_putI, ax_putR, ax_gets, ax_getsT, ax_aldI, ax_aldR, ax_astI, ax_astR, ax_alen, ax_ret, ax_aret, ax_vret, am_st, am_kl, List.getElem?_cons_zero, List.getElem?_cons_succ, List.set_cons_zero, List.set_cons_succ, Value.category, true_and, and_true, if_true, if_false, reduceCtorEq, Bool.false_eq_true, false_implies, forall_const, Option.some.injEq, exists_eq_left', exists_eq_left, Sum.inl.injEq, Sum.inr.injEq, Prod.mk.injEq, nI_toInt, nI_clamp, am_ix_nI, am_ix_0, am_ix_1, am_ix_2, am_ix_3, am_n0, am_n1, am_n2, am_n3, am_n4, am_t0, am_t1, am_t2, am_t3, am_t4, am_tm1, am_nS, am_nP, am_nM, Int.ofNat_lt, Int.ofNat_le, h.1, h.2.1, h.2.2.2.2.2.2.2.1, hr]
    refine ⟨fun _ => ⟨by omega, ?_⟩, fun x => by omega⟩
    rw [hca] at wi
    refine am_callK [.ref (S + 19 + 4 * i)] [] (d' := 0) (lim' := (am_tp σ, am_us σ)) rfl (by omega) (by rw [h1]; exact Nat.le_refl _) (by rw [h2]; exact Nat.le_refl _) rfl (Nat.le_of_ble_eq_true rfl) (am_recv wi.1) ?_
    refine c_kclear wi (fun σ1 k1 f1 t1 u1 => ?_)
    simp (disch := omega) only [ax_const, ax_iload, ax_lload, ax_aload, ax_istore, ax_astore, ax_iinc, ax_i2, ax_i2n, ax_l2, ax_lsh, ax_ii, ax_il, ax_li, ax_pop, ax_dup, ax_dup2, ax_if, ax_cmp, ax_acmp, ax_goto, ax_getI, ax_getR, ax_putI, ax_putR, ax_gets, ax_getsT, ax_aldI, ax_aldR, ax_astI, ax_astR, ax_alen, ax_ret, ax_aret, ax_vret, am_st, am_kl, List.getElem?_cons_zero, List.getElem?_cons_succ, List.set_cons_zero, List.set_cons_succ, Value.category, true_and, and_true, if_true, if_false, reduceCtorEq, Bool.false_eq_true, false_implies, forall_const, Option.some.injEq, exists_eq_left', exists_eq_left, Sum.inl.injEq, Sum.inr.injEq, Prod.mk.injEq, nI_toInt, nI_clamp, am_ix_nI, am_ix_0, am_ix_1, am_ix_2, am_ix_3, am_n0, am_n1, am_n2, am_n3, am_n4, am_t0, am_t1, am_t2, am_t3, am_t4, am_tm1, am_nS, am_nP, am_nM, Int.ofNat_lt, Int.ofNat_le, Option.toList_some, Option.toList_none, List.cons_append, List.nil_append, List.append_nil]
    refine ih (i + 1) σ1 _ _ (by omega) (h.fm f1 (by omega) (by omega) (by omega)) (hc.put (j := i) (by omega) (by rw [hca]; exact k1) (f1.mono (fun b hb => by omega))) (fun j hj => ?_) ?_ (hf.tr (f1.mono (fun b hb => by omega))) (t1.trans h1) (u1.trans h2)
    · by_cases e : j = i
      · simp [e]
      · simp [e, hz j (by omega)]
    · rw [(f1.2.2.2 S (by omega)).1]; exact h4
theorem c_sclear {g : am_G} {l : Launch} {σ : am_S} {S : Nat} {k : Nat → Nat} {ss : Nat → List (Nat × Int32)} {Q : Option Value → am_S → Prop} (h : xs_S σ S) (hc : xs_CS g σ S k ss) (hQ : ∀ σ', xs_S σ' S → xs_CS g σ' S (fun _ => 0) (fun _ => []) → am_i σ' S 4 = -1 → (∀ t, t < 3 → am_i σ' (S + 14) t = 0) → am_fm (fun b => S ≤ b ∧ b < S + 31) σ σ' → Q none σ') :
    am_C g l mX6_clear 1 (am_tp σ, am_us σ) [.ref S] σ Q := by
  have hf : am_fm (fun b => b = S) σ (am_wi σ S 4 (-1)) := am_fm.rf.wi rfl
  refine am_C.go [some (.ref S), none] (by decide +kernel) (Nat.le_of_ble_eq_true rfl) rfl (kX6_clear_0 ?_)
  simp (disch := omega) only [ax_const, ax_iload, ax_lload, ax_aload, ax_istore, ax_astore, ax_iinc, ax_i2, ax_i2n, ax_l2, ax_lsh, ax_ii, ax_il, ax_li, ax_pop, ax_dup, ax_dup2, ax_if, ax_cmp, ax_acmp, ax_goto, ax_getI, ax_getR, ax_putI, ax_putR, ax_gets, ax_getsT, ax_aldI, ax_aldR, ax_astI, ax_astR, ax_alen, ax_ret, ax_aret, ax_vret, am_st, am_kl, List.getElem?_cons_zero, List.getElem?_cons_succ, List.set_cons_zero, List.set_cons_succ, Value.category, true_and, and_true, if_true, if_false, reduceCtorEq, Bool.false_eq_true, false_implies, forall_const, Option.some.injEq, exists_eq_left', exists_eq_left, Sum.inl.injEq, Sum.inr.injEq, Prod.mk.injEq, nI_toInt, nI_clamp, am_ix_nI, am_ix_0, am_ix_1, am_ix_2, am_ix_3, am_n0, am_n1, am_n2, am_n3, am_n4, am_t0, am_t1, am_t2, am_t3, am_t4, am_tm1, am_nS, am_nP, am_nM, Int.ofNat_lt, Int.ofNat_le, h.1]
  refine xs_cl_7 (σ0 := σ) (Nat.le_refl _) hQ 3 0 _ k ss rfl ?_ (hc.fm hf (fun b x y z => by omega)) (fun j hj => by omega) (by rw [am_i_wi, if_pos ⟨rfl, rfl⟩]) (hf.mono (fun b hb => by omega)) rfl rfl
  obtain ⟨a1, a2, a3, a4, a5, a6, a7, a8, a9, a10, a11, a12⟩ := h
  exact ⟨a1, a2, a3, a4, a5, a6, a7, a8, a9, a10, a11, a12⟩
