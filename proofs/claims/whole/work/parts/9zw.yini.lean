/-! making: the reference -/
theorem ax_newa_mono {lim : Nat × Nat} {k : Nat} {K K' : am_K} (h : ∀ L st σ, K L st σ → K' L st σ) {L : List (Option Value)} {st : List Value} {σ : am_S} (hK : ax_newa lim k K L st σ) : ax_newa lim k K' L st σ := by
  unfold ax_newa at hK ⊢
  split at hK
  · obtain ⟨a, b, c, e, f⟩ := hK
    exact ⟨a, b, c, e, h _ _ _ f⟩
  · exact hK.elim
def yNw (σ : am_S) (m : Nat) (q1 q2 q3 q4 : Int32) : Prop := ym_H σ m ∧ (∀ i, i < 4 → am_i σ (m + 1) i = nI (lbs q1 q2 q3 q4 i)) ∧ (∀ j, am_i σ m j = 0) ∧ ∀ o, 1 < o → o < 32 → ∀ j, am_i σ (m + o) j = 0
set_option maxHeartbeats 4000000 in
theorem c_yi {g : am_G} {l : Launch} {σ : am_S} {m : Nat} {q1 q2 q3 q4 : Int32} {Q : Option Value → am_S → Prop} (ha : am_sh σ m = some (.inl 10)) (h0 : ∀ j, am_i σ m j = 0) (ht : am_tp σ = m + 1) (hQ : ∀ σ', yNw σ' m q1 q2 q3 q4 → am_fa (fun b => m ≤ b) σ σ' → Q none σ') : am_C g l mX10_init 1 (m + 32, am_us σ + 2670) [.ref m, .int q1, .int q2, .int q3, .int q4] σ Q := by
  refine am_C.at [some (.ref m), some (.int q1), some (.int q2), some (.int q3), some (.int q4)] (by decide +kernel) (Nat.le_of_ble_eq_true rfl) rfl (by dsimp only; omega) (by dsimp only; omega) (kX10_init_0 (by decide) ?_)
  simp only [ax_aload, ax_oinit, ax_const, List.getElem?_cons_zero, List.map_nil, List.sum_nil]
  refine ⟨by decide, ?_⟩
  refine nw_a (f := 0) (o := 1) (n := 4) (T := []) (u := am_us σ + 0) ⟨ha, fun q hq => by cases hq⟩ ht rfl rfl (by decide) (by dsimp only; omega) (by dsimp only; omega) (by decide +kernel) (fun σ0 T0 F0 t0 u0 => ?_)
  simp only [ax_aload, ax_const, List.getElem?_cons_zero]
  refine nw_a (f := 1) (o := 2) (n := 32) (u := am_us σ + 4) T0 t0 (by omega) rfl (by decide) (by dsimp only; omega) (by dsimp only; omega) (by decide +kernel) (fun σ1 T1 F1 t1 u1 => ?_)
  clear t0 u0
  simp only [ax_aload, ax_const, List.getElem?_cons_zero]
  refine nw_a (f := 2) (o := 3) (n := 192) (u := am_us σ + 36) T1 t1 (by omega) rfl (by decide) (by dsimp only; omega) (by dsimp only; omega) (by decide +kernel) (fun σ2 T2 F2 t2 u2 => ?_)
  clear t1 u1
  simp only [ax_aload, ax_const, List.getElem?_cons_zero]
  refine nw_a (f := 3) (o := 4) (n := 192) (u := am_us σ + 228) T2 t2 (by omega) rfl (by decide) (by dsimp only; omega) (by dsimp only; omega) (by decide +kernel) (fun σ3 T3 F3 t3 u3 => ?_)
  clear t2 u2
  simp only [ax_aload, ax_const, List.getElem?_cons_zero]
  refine nw_a (f := 4) (o := 5) (n := 192) (u := am_us σ + 420) T3 t3 (by omega) rfl (by decide) (by dsimp only; omega) (by dsimp only; omega) (by decide +kernel) (fun σ4 T4 F4 t4 u4 => ?_)
  clear t3 u3
  simp only [ax_aload, List.getElem?_cons_zero]
  refine kX10_init_47 ?_
  simp only [ax_const]
  refine nw_a (f := 5) (o := 6) (n := 8) (u := am_us σ + 612) T4 t4 (by omega) rfl (by decide) (by dsimp only; omega) (by dsimp only; omega) (by decide +kernel) (fun σ5 T5 F5 t5 u5 => ?_)
  clear t4 u4
  simp only [ax_aload, ax_const, List.getElem?_cons_zero]
  refine nw_a (f := 6) (o := 7) (n := 8) (u := am_us σ + 620) T5 t5 (by omega) rfl (by decide) (by dsimp only; omega) (by dsimp only; omega) (by decide +kernel) (fun σ6 T6 F6 t6 u6 => ?_)
  clear t5 u5
  simp only [ax_aload, ax_const, List.getElem?_cons_zero]
  refine nw_a (f := 7) (o := 8) (n := 320) (u := am_us σ + 628) T6 t6 (by omega) rfl (by decide) (by dsimp only; omega) (by dsimp only; omega) (by decide +kernel) (fun σ7 T7 F7 t7 u7 => ?_)
  clear t6 u6
  simp only [ax_aload, ax_const, List.getElem?_cons_zero]
  refine nw_a (f := 8) (o := 9) (n := 4) (u := am_us σ + 948) T7 t7 (by omega) rfl (by decide) (by dsimp only; omega) (by dsimp only; omega) (by decide +kernel) (fun σ8 T8 F8 t8 u8 => ?_)
  clear t7 u7
  simp only [ax_aload, ax_const, List.getElem?_cons_zero]
  refine nw_a (f := 9) (o := 10) (n := 82) (u := am_us σ + 952) T8 t8 (by omega) rfl (by decide) (by dsimp only; omega) (by dsimp only; omega) (by decide +kernel) (fun σ9 T9 F9 t9 u9 => ?_)
  clear t8 u8
  simp only [ax_aload, ax_const, List.getElem?_cons_zero]
  refine nw_a (f := 10) (o := 11) (n := 82) (u := am_us σ + 1034) T9 t9 (by omega) rfl (by decide) (by dsimp only; omega) (by dsimp only; omega) (by decide +kernel) (fun σ10 T10 F10 t10 u10 => ?_)
  clear t9 u9
  refine kX10_init_94 ?_
  simp only [ax_aload, ax_const, List.getElem?_cons_zero]
  refine nw_a (f := 14) (o := 12) (n := 100) (u := am_us σ + 1116) T10 t10 (by omega) rfl (by decide) (by dsimp only; omega) (by dsimp only; omega) (by decide +kernel) (fun σ11 T11 F11 t11 u11 => ?_)
  clear t10 u10
  simp only [ax_aload, ax_const, List.getElem?_cons_zero]
  refine nw_a (f := 15) (o := 13) (n := 100) (u := am_us σ + 1216) T11 t11 (by omega) rfl (by decide) (by dsimp only; omega) (by dsimp only; omega) (by decide +kernel) (fun σ12 T12 F12 t12 u12 => ?_)
  clear t11 u11
  simp only [ax_aload, ax_const, List.getElem?_cons_zero]
  refine nw_a (f := 16) (o := 14) (n := 82) (u := am_us σ + 1316) T12 t12 (by omega) rfl (by decide) (by dsimp only; omega) (by dsimp only; omega) (by decide +kernel) (fun σ13 T13 F13 t13 u13 => ?_)
  clear t12 u12
  simp only [ax_aload, ax_const, List.getElem?_cons_zero]
  refine nw_a (f := 17) (o := 15) (n := 82) (u := am_us σ + 1398) T13 t13 (by omega) rfl (by decide) (by dsimp only; omega) (by dsimp only; omega) (by decide +kernel) (fun σ14 T14 F14 t14 u14 => ?_)
  clear t13 u13
  simp only [ax_aload, ax_const, List.getElem?_cons_zero]
  refine nw_a (f := 28) (o := 16) (n := 2) (u := am_us σ + 1480) T14 t14 (by omega) rfl (by decide) (by dsimp only; omega) (by dsimp only; omega) (by decide +kernel) (fun σ15 T15 F15 t15 u15 => ?_)
  clear t14 u14
  simp only [ax_aload, ax_const, List.getElem?_cons_zero]
  refine ax_newa_mono (fun L st σ h => kX10_init_137 h) ?_
  refine nw_a (f := 29) (o := 17) (n := 4) (u := am_us σ + 1482) T15 t15 (by omega) rfl (by decide) (by dsimp only; omega) (by dsimp only; omega) (by decide +kernel) (fun σ16 T16 F16 t16 u16 => ?_)
  clear t15 u15
  simp only [ax_aload, ax_const, List.getElem?_cons_zero]
  refine nw_a (f := 30) (o := 18) (n := 4) (u := am_us σ + 1486) T16 t16 (by omega) rfl (by decide) (by dsimp only; omega) (by dsimp only; omega) (by decide +kernel) (fun σ17 T17 F17 t17 u17 => ?_)
  clear t16 u16
  simp only [ax_aload, ax_const, List.getElem?_cons_zero]
  refine nw_a (f := 31) (o := 19) (n := 4) (u := am_us σ + 1490) T17 t17 (by omega) rfl (by decide) (by dsimp only; omega) (by dsimp only; omega) (by decide +kernel) (fun σ18 T18 F18 t18 u18 => ?_)
  clear t17 u17
  simp only [ax_aload, ax_const, List.getElem?_cons_zero]
  refine nw_a (f := 40) (o := 20) (n := 384) (u := am_us σ + 1494) T18 t18 (by omega) rfl (by decide) (by dsimp only; omega) (by dsimp only; omega) (by decide +kernel) (fun σ19 T19 F19 t19 u19 => ?_)
  clear t18 u18
  simp only [ax_aload, ax_const, List.getElem?_cons_zero]
  refine nw_a (f := 41) (o := 21) (n := 2) (u := am_us σ + 1878) T19 t19 (by omega) rfl (by decide) (by dsimp only; omega) (by dsimp only; omega) (by decide +kernel) (fun σ20 T20 F20 t20 u20 => ?_)
  clear t19 u19
  simp only [ax_aload, ax_const, List.getElem?_cons_zero]
  refine nw_a (f := 42) (o := 22) (n := 2) (u := am_us σ + 1880) T20 t20 (by omega) rfl (by decide) (by dsimp only; omega) (by dsimp only; omega) (by decide +kernel) (fun σ21 T21 F21 t21 u21 => ?_)
  clear t20 u20
  simp only [ax_aload, ax_const, List.getElem?_cons_zero]
  refine kX10_init_180 ?_
  refine nw_a (f := 43) (o := 23) (n := 100) (u := am_us σ + 1882) T21 t21 (by omega) rfl (by decide) (by dsimp only; omega) (by dsimp only; omega) (by decide +kernel) (fun σ22 T22 F22 t22 u22 => ?_)
  clear t21 u21
  simp only [ax_aload, ax_const, List.getElem?_cons_zero]
  refine nw_a (f := 46) (o := 24) (n := 40) (u := am_us σ + 1982) T22 t22 (by omega) rfl (by decide) (by dsimp only; omega) (by dsimp only; omega) (by decide +kernel) (fun σ23 T23 F23 t23 u23 => ?_)
  clear t22 u22
  simp only [ax_aload, ax_const, List.getElem?_cons_zero]
  refine nw_a (f := 47) (o := 25) (n := 40) (u := am_us σ + 2022) T23 t23 (by omega) rfl (by decide) (by dsimp only; omega) (by dsimp only; omega) (by decide +kernel) (fun σ24 T24 F24 t24 u24 => ?_)
  clear t23 u23
  simp only [ax_aload, ax_const, List.getElem?_cons_zero]
  refine nw_a (f := 48) (o := 26) (n := 40) (u := am_us σ + 2062) T24 t24 (by omega) rfl (by decide) (by dsimp only; omega) (by dsimp only; omega) (by decide +kernel) (fun σ25 T25 F25 t25 u25 => ?_)
  clear t24 u24
  simp only [ax_aload, ax_const, List.getElem?_cons_zero]
  refine nw_a (f := 49) (o := 27) (n := 40) (u := am_us σ + 2102) T25 t25 (by omega) rfl (by decide) (by dsimp only; omega) (by dsimp only; omega) (by decide +kernel) (fun σ26 T26 F26 t26 u26 => ?_)
  clear t25 u25
  simp only [ax_aload, ax_const, List.getElem?_cons_zero]
  refine nw_a (f := 50) (o := 28) (n := 40) (u := am_us σ + 2142) T26 t26 (by omega) rfl (by decide) (by dsimp only; omega) (by dsimp only; omega) (by decide +kernel) (fun σ27 T27 F27 t27 u27 => ?_)
  clear t26 u26
  simp only [ax_aload, List.getElem?_cons_zero]
  refine kX10_init_226 ?_
  simp only [ax_const]
  refine nw_a (f := 51) (o := 29) (n := 4) (u := am_us σ + 2182) T27 t27 (by omega) rfl (by decide) (by dsimp only; omega) (by dsimp only; omega) (by decide +kernel) (fun σ28 T28 F28 t28 u28 => ?_)
  clear t27 u27
  simp only [ax_aload, ax_const, List.getElem?_cons_zero]
  refine nw_a (f := 52) (o := 30) (n := 4) (u := am_us σ + 2186) T28 t28 (by omega) rfl (by decide) (by dsimp only; omega) (by dsimp only; omega) (by decide +kernel) (fun σ29 T29 F29 t29 u29 => ?_)
  clear t28 u28
  simp only [ax_aload, ax_const, List.getElem?_cons_zero]
  refine nw_a (f := 53) (o := 31) (n := 480) (u := am_us σ + 2190) T29 t29 (by omega) rfl (by decide) (by dsimp only; omega) (by dsimp only; omega) (by decide +kernel) (fun σ30 T30 F30 t30 u30 => ?_)
  clear t29 u29
  have G : am_fa (fun b => m ≤ b) σ σ30 := ((((((((((((((((((((((((((((((F0.1.mono (fun b x => by omega)).tr (F1.1.mono (fun b x => by omega))).tr (F2.1.mono (fun b x => by omega))).tr (F3.1.mono (fun b x => by omega))).tr (F4.1.mono (fun b x => by omega))).tr (F5.1.mono (fun b x => by omega))).tr (F6.1.mono (fun b x => by omega))).tr (F7.1.mono (fun b x => by omega))).tr (F8.1.mono (fun b x => by omega))).tr (F9.1.mono (fun b x => by omega))).tr (F10.1.mono (fun b x => by omega))).tr (F11.1.mono (fun b x => by omega))).tr (F12.1.mono (fun b x => by omega))).tr (F13.1.mono (fun b x => by omega))).tr (F14.1.mono (fun b x => by omega))).tr (F15.1.mono (fun b x => by omega))).tr (F16.1.mono (fun b x => by omega))).tr (F17.1.mono (fun b x => by omega))).tr (F18.1.mono (fun b x => by omega))).tr (F19.1.mono (fun b x => by omega))).tr (F20.1.mono (fun b x => by omega))).tr (F21.1.mono (fun b x => by omega))).tr (F22.1.mono (fun b x => by omega))).tr (F23.1.mono (fun b x => by omega))).tr (F24.1.mono (fun b x => by omega))).tr (F25.1.mono (fun b x => by omega))).tr (F26.1.mono (fun b x => by omega))).tr (F27.1.mono (fun b x => by omega))).tr (F28.1.mono (fun b x => by omega))).tr (F29.1.mono (fun b x => by omega))).tr (F30.1.mono (fun b x => by omega))
  have I : am_i σ30 m = am_i σ m := by rw [F30.2.1, F29.2.1, F28.2.1, F27.2.1, F26.2.1, F25.2.1, F24.2.1, F23.2.1, F22.2.1, F21.2.1, F20.2.1, F19.2.1, F18.2.1, F17.2.1, F16.2.1, F15.2.1, F14.2.1, F13.2.1, F12.2.1, F11.2.1, F10.2.1, F9.2.1, F8.2.1, F7.2.1, F6.2.1, F5.2.1, F4.2.1, F3.2.1, F2.2.1, F1.2.1, F0.2.1]
  have hH : ym_H σ30 m := ⟨T30.1, fun q hq => by
    have : ∀ q : Nat × Nat × Nat × Nat, q ∈ ym_tab → q ∈ [(53, 31, 0, 480), (52, 30, 0, 4), (51, 29, 0, 4), (50, 28, 0, 40), (49, 27, 0, 40), (48, 26, 0, 40), (47, 25, 0, 40), (46, 24, 0, 40), (43, 23, 0, 100), (42, 22, 0, 2), (41, 21, 0, 2), (40, 20, 0, 384), (31, 19, 0, 4), (30, 18, 0, 4), (29, 17, 0, 4), (28, 16, 0, 2), (17, 15, 0, 82), (16, 14, 0, 82), (15, 13, 0, 100), (14, 12, 0, 100), (10, 11, 0, 82), (9, 10, 0, 82), (8, 9, 0, 4), (7, 8, 1, 320), (6, 7, 0, 8), (5, 6, 0, 8), (4, 5, 0, 192), (3, 4, 0, 192), (2, 3, 0, 192), (1, 2, 0, 32), (0, 1, 0, 4)] := by decide +kernel
    have := T30.2 q (this q hq)
    exact ⟨this.1, this.2.1⟩⟩
  have hZ : ∀ o, 0 < o → o < 32 → ∀ j, am_i σ30 (m + o) j = 0 := fun o h1 h2 j => by
    have : ∀ o, 0 < o → o < 32 → ∃ q : Nat × Nat × Nat × Nat, q ∈ [(53, 31, 0, 480), (52, 30, 0, 4), (51, 29, 0, 4), (50, 28, 0, 40), (49, 27, 0, 40), (48, 26, 0, 40), (47, 25, 0, 40), (46, 24, 0, 40), (43, 23, 0, 100), (42, 22, 0, 2), (41, 21, 0, 2), (40, 20, 0, 384), (31, 19, 0, 4), (30, 18, 0, 4), (29, 17, 0, 4), (28, 16, 0, 2), (17, 15, 0, 82), (16, 14, 0, 82), (15, 13, 0, 100), (14, 12, 0, 100), (10, 11, 0, 82), (9, 10, 0, 82), (8, 9, 0, 4), (7, 8, 1, 320), (6, 7, 0, 8), (5, 6, 0, 8), (4, 5, 0, 192), (3, 4, 0, 192), (2, 3, 0, 192), (1, 2, 0, 32), (0, 1, 0, 4)] ∧ q.2.1 = o := by
      intro o a b
      have : ∀ o, o < 32 → 0 < o → ∃ q : Nat × Nat × Nat × Nat, q ∈ [(53, 31, 0, 480), (52, 30, 0, 4), (51, 29, 0, 4), (50, 28, 0, 40), (49, 27, 0, 40), (48, 26, 0, 40), (47, 25, 0, 40), (46, 24, 0, 40), (43, 23, 0, 100), (42, 22, 0, 2), (41, 21, 0, 2), (40, 20, 0, 384), (31, 19, 0, 4), (30, 18, 0, 4), (29, 17, 0, 4), (28, 16, 0, 2), (17, 15, 0, 82), (16, 14, 0, 82), (15, 13, 0, 100), (14, 12, 0, 100), (10, 11, 0, 82), (9, 10, 0, 82), (8, 9, 0, 4), (7, 8, 1, 320), (6, 7, 0, 8), (5, 6, 0, 8), (4, 5, 0, 192), (3, 4, 0, 192), (2, 3, 0, 192), (1, 2, 0, 32), (0, 1, 0, 4)] ∧ q.2.1 = o := by decide +kernel
      exact this o b a
    obtain ⟨q, h3, h4⟩ := this o h1 h2
    have := (T30.2 q h3).2.2 j
    rw [h4] at this
    exact this
  have t := t30
  have u := u30
  generalize σ30 = τ at *
  have H := hH
  simp (disch := omega) only [ax_const, ax_iload, ax_lload, ax_aload, ax_istore, ax_astore, ax_iinc, ax_i2, ax_i2n, ax_l2, ax_lsh, ax_ii, ax_il, ax_li, ax_pop, ax_dup, ax_dup2, ax_if, ax_cmp, ax_acmp, ax_goto, ax_getI, ax_getR, ax_putI, ax_putR, ax_gets, ax_getsT, ax_aldI, ax_aldR, ax_astI, ax_astR, ax_alen, ax_ret, ax_aret, ax_vret, am_st, am_kl, List.getElem?_cons_zero, List.getElem?_cons_succ, List.set_cons_zero, List.set_cons_succ, Value.category, true_and, and_true, if_true, if_false, reduceCtorEq, Bool.false_eq_true, false_implies, forall_const, Option.some.injEq, exists_eq_left', exists_eq_left, Sum.inl.injEq, Sum.inr.injEq, Prod.mk.injEq, nI_toInt, nI_clamp, am_ix_nI, am_ix_0, am_ix_1, am_ix_2, am_ix_3, am_n0, am_n1, am_n2, am_n3, am_n4, am_t0, am_t1, am_t2, am_t3, am_t4, am_tm1, am_nS, am_nP, am_nM, Int.ofNat_lt, Int.ofNat_le, am_sh_wi, am_r_wi, am_tp_wi, am_us_wi, ym_is, ym_io, ym_ij, hH.1, hH.r0, hH.s0, lb7_eq]
  refine ⟨by decide, kX10_init_266 ?_⟩
  simp (disch := omega) only [ax_const, ax_iload, ax_lload, ax_aload, ax_istore, ax_astore, ax_iinc, ax_i2, ax_i2n, ax_l2, ax_lsh, ax_ii, ax_il, ax_li, ax_pop, ax_dup, ax_dup2, ax_if, ax_cmp, ax_acmp, ax_goto, ax_getI, ax_getR, ax_putI, ax_putR, ax_gets, ax_getsT, ax_aldI, ax_aldR, ax_astI, ax_astR, ax_alen, ax_ret, ax_aret, ax_vret, am_st, am_kl, List.getElem?_cons_zero, List.getElem?_cons_succ, List.set_cons_zero, List.set_cons_succ, Value.category, true_and, and_true, if_true, if_false, reduceCtorEq, Bool.false_eq_true, false_implies, forall_const, Option.some.injEq, exists_eq_left', exists_eq_left, Sum.inl.injEq, Sum.inr.injEq, Prod.mk.injEq, nI_toInt, nI_clamp, am_ix_nI, am_ix_0, am_ix_1, am_ix_2, am_ix_3, am_n0, am_n1, am_n2, am_n3, am_n4, am_t0, am_t1, am_t2, am_t3, am_t4, am_tm1, am_nS, am_nP, am_nM, Int.ofNat_lt, Int.ofNat_le, am_sh_wi, am_r_wi, am_tp_wi, am_us_wi, ym_is, ym_io, ym_ij, hH.1, hH.r0, hH.s0, lb7_eq]
  refine ⟨by decide, by decide, by decide, ?_⟩
  refine ⟨t, by omega, hQ _ ⟨hH, fun i hi => ?_, fun j => ?_, fun o h1 h2 j => ?_⟩ ((((G.wi (by omega)).wi (by omega)).wi (by omega)).wi (by omega))⟩
  · have : i = 0 ∨ i = 1 ∨ i = 2 ∨ i = 3 := by omega
    rcases this with rfl | rfl | rfl | rfl
    · rw [ym_ij (by decide), ym_ij (by decide), ym_ij (by decide), ym_is]; rfl
    · rw [ym_ij (by decide), ym_ij (by decide), ym_is]; rfl
    · rw [ym_ij (by decide), ym_is]; rfl
    · rw [ym_is]; rfl
  · rw [ym_io (by omega), ym_io (by omega), ym_io (by omega), ym_io (by omega), I, h0]
  · rw [ym_io (by omega), ym_io (by omega), ym_io (by omega), ym_io (by omega)]
    exact hZ o (by omega) h2 j
theorem yNw.O {σ : am_S} {m : Nat} {q1 q2 q3 q4 : Int32} (h : yNw σ m q1 q2 q3 q4) : ym_O σ m (xx_D0 q1 q2 q3 q4) ∧ ym_q σ m := by
  obtain ⟨h1, h2, h3, h4⟩ := h
  refine ⟨⟨h1, fun i hi => ⟨h2 i hi, lb7_lt _⟩, ⟨fun _ => [], fun p hp => ⟨h4 2 (by decide) (by decide) p, Nat.zero_le _, fun j e he => by simp at he⟩, fun lb _ t _ => ⟨rfl, fun z => absurd rfl z⟩⟩, fun lb hlb => ⟨Or.inl ⟨rfl, h4 6 (by decide) (by decide) lb⟩, h4 7 (by decide) (by decide) lb, Nat.zero_le _⟩, fun i hi => ⟨h4 9 (by decide) (by decide) i, Nat.zero_le _, fun j c hj => by simp [xx_D0] at hj, h4 29 (by decide) (by decide) i, h4 30 (by decide) (by decide) i, Nat.zero_le _, Nat.zero_le _, fun r c hr => absurd hr (Nat.not_lt_zero _)⟩⟩, [], false, ⟨h3 19, fun j w hj => by simp at hj⟩, (fun x hx => by cases hx), h3 23⟩
