/-! making: Store -/
theorem nwT.wr {σ : am_S} {a ci f : Nat} {v : Option Nat} {T : List (Nat × Nat × Nat × Nat)} (h : nwT σ a ci T) (hf : ∀ q, q ∈ T → q.1 ≠ f) : nwT (am_wr σ a f v) a ci T := ⟨h.1, fun q hq => ⟨by rw [am_r_wr, if_neg (fun z => hf q hq z.2)]; exact (h.2 q hq).1, (h.2 q hq).2⟩⟩
theorem nwT.wi {σ : am_S} {a ci k : Nat} {v : Int32} {T : List (Nat × Nat × Nat × Nat)} (h : nwT σ a ci T) (hf : ∀ q, q ∈ T → q.2.1 ≠ 0) : nwT (am_wi σ a k v) a ci T := ⟨h.1, fun q hq => ⟨(h.2 q hq).1, (h.2 q hq).2.1, fun j => by rw [am_i_wi, if_neg (fun z => hf q hq (by omega))]; exact (h.2 q hq).2.2 j⟩⟩
/-- a store's rows so far -/
def xo_0 (σ : am_S) (s lab t : Nat) : Prop :=
  (am_sh σ s = some (.inl 7) ∧ am_r σ s 1 = some (s + 1) ∧ am_r σ s 2 = some (s + 2) ∧ am_r σ s 5 = some (s + 3) ∧ am_r σ s 6 = some (s + 11)) ∧ (am_sh σ (s + 1) = some (.inr (6, 2)) ∧ am_sh σ (s + 2) = some (.inr (6, 2)) ∧ am_sh σ (s + 11) = some (.inr (0, 4))) ∧ (am_i σ s 0 = nI lab ∧ am_i σ s 3 = -1 ∧ am_i σ s 4 = 0) ∧ (∃ p, xr_R σ (s + 3) 6 p []) ∧
  ∀ t', t' < t → (am_r σ (s + 1) t' = some (s + 12 + 16 * t') ∧ am_r σ (s + 2) t' = some (s + 20 + 16 * t')) ∧ (∃ p, xr_R σ (s + 12 + 16 * t') 6 p []) ∧ ∃ p, xr_R σ (s + 20 + 16 * t') 6 p []
theorem xo_0.S {σ : am_S} {s lab : Nat} (h : xo_0 σ s lab 2) : xo_S σ s lab (fun _ => []) (fun _ => []) (-1) 0 := by
  obtain ⟨⟨a1, a2, a3, a4, a5⟩, ⟨b1, b2, b3⟩, ⟨c1, c2, c3⟩, ⟨p, h4⟩, h5⟩ := h
  exact ⟨⟨a1, a2, a3, a4, a5, b1, b2, b3, fun t ht => (h5 t ht).1⟩, c1, c2, c3, Nat.zero_le _, ⟨p, _, h4⟩, fun t ht => ⟨(h5 t ht).2.1, (h5 t ht).2.2, List.Pairwise.nil, List.Pairwise.nil⟩⟩
theorem x7i_52 {g : am_G} {l : Launch} {s lab d : Nat} {lim : Nat × Nat} {σ0 : am_S} {z1 : Int32} {Q : Option Value → am_S → Prop} (hd : 2 ≤ d) (hl : lim.1 = s + 44) (hQ : ∀ σ', xo_S σ' s lab (fun _ => []) (fun _ => []) (-1) 0 → am_fa (fun b => s ≤ b ∧ b < s + 44) σ0 σ' → Q none σ') :
    ∀ (n t : Nat) (σ : am_S), n + t = 2 → am_tp σ = s + 12 + 16 * t → am_us σ + 64 * n = lim.2 → xo_0 σ s lab t → am_fa (fun b => s ≤ b ∧ b < s + 44) σ0 σ → am_W g l mX7_init d lim Q 52 [some (.ref s), some (.int z1), some (.int (nI t))] [] σ := by
  intro n
  induction n with
  | zero =>
    intro t σ hn ht hu hO hf
    have hi : t = 2 := by omega
    subst hi
    refine kX7_init_52 ?_
    simp (disch := omega) only [ax_const, ax_iload, ax_lload, ax_aload, ax_istore, ax_astore, ax_iinc, ax_i2, ax_i2n, ax_l2, ax_lsh, ax_ii, ax_il, ax_li, ax_pop, ax_dup, ax_dup2, ax_if, ax_cmp, ax_acmp, ax_goto, ax_getI, ax_getR, ax_putI, ax_putR, ax_gets, ax_getsT, ax_aldI, ax_aldR, ax_astI, ax_astR, ax_alen, ax_ret, ax_aret, ax_vret, am_st, am_kl, List.getElem?_cons_zero, List.getElem?_cons_succ, List.set_cons_zero, List.set_cons_succ, Value.category, true_and, and_true, if_true, if_false, reduceCtorEq, Bool.false_eq_true, false_implies, forall_const, Option.some.injEq, exists_eq_left', exists_eq_left, Sum.inl.injEq, Sum.inr.injEq, Prod.mk.injEq, nI_toInt, nI_clamp, am_ix_nI, am_ix_0, am_ix_1, am_ix_2, am_ix_3, am_n0, am_n1, am_n2, am_n3, am_n4, am_t0, am_t1, am_t2, am_t3, am_t4, am_tm1, am_nS, am_nP, am_nM, Int.ofNat_lt, Int.ofNat_le]
    exact ⟨fun z => absurd z (by decide), fun _ => ⟨by rw [ht, hl], by omega, hQ σ hO.S hf⟩⟩
  | succ n ih =>
    intro t σ hn ht hu hO hf
    obtain ⟨⟨a1, a2, a3, a4, a5⟩, ⟨b1, b2, b3⟩, ⟨c1, c2, c3⟩, ⟨p, h4⟩, h5⟩ := hO
    refine kX7_init_52 ?_
    simp (disch := omega) only [ax_const, ax_iload, ax_lload, ax_aload, ax_istore, ax_astore, ax_iinc, ax_i2, ax_i2n, ax_l2, ax_lsh, ax_ii, ax_il, ax_li, ax_pop, ax_dup, ax_dup2, ax_if, ax_cmp, ax_acmp, ax_goto, ax_getI, ax_getR, ax_putI, ax_putR, ax_gets, ax_getsT, ax_aldI, ax_aldR, ax_astI, ax_astR, ax_alen, ax_ret, ax_aret, ax_vret, am_st, am_kl, List.getElem?_cons_zero, List.getElem?_cons_succ, List.set_cons_zero, List.set_cons_succ, Value.category, true_and, and_true, if_true, if_false, reduceCtorEq, Bool.false_eq_true, false_implies, forall_const, Option.some.injEq, exists_eq_left', exists_eq_left, Sum.inl.injEq, Sum.inr.injEq, Prod.mk.injEq, nI_toInt, nI_clamp, am_ix_nI, am_ix_0, am_ix_1, am_ix_2, am_ix_3, am_n0, am_n1, am_n2, am_n3, am_n4, am_t0, am_t1, am_t2, am_t3, am_t4, am_tm1, am_nS, am_nP, am_nM, Int.ofNat_lt, Int.ofNat_le, a1, a2]
    refine ⟨fun _ => ?_, fun z => by omega⟩
    refine nw_2 (n := 6) hd rfl (by decide) ht rfl (by omega) (by omega) (Nat.le_of_ble_eq_true rfl) (fun σ1 hk f1 t1 u1 => ?_)
    have e1 := f1 (s + 1) (by omega)
    have g1 := f1 s (by omega)
    have y : am_ac 6 = 2 := rfl
    have x1 : am_sh σ1 s = some (.inl 7) := by rw [g1.1]; exact a1
    have x2 : am_r σ1 s 2 = some (s + 2) := by rw [g1.2.2]; exact a3
    simp (disch := omega) only [ax_const, ax_iload, ax_lload, ax_aload, ax_istore, ax_astore, ax_iinc, ax_i2, ax_i2n, ax_l2, ax_lsh, ax_ii, ax_il, ax_li, ax_pop, ax_dup, ax_dup2, ax_if, ax_cmp, ax_acmp, ax_goto, ax_getI, ax_getR, ax_putI, ax_putR, ax_gets, ax_getsT, ax_aldI, ax_aldR, ax_astI, ax_astR, ax_alen, ax_ret, ax_aret, ax_vret, am_st, am_kl, List.getElem?_cons_zero, List.getElem?_cons_succ, List.set_cons_zero, List.set_cons_succ, Value.category, true_and, and_true, if_true, if_false, reduceCtorEq, Bool.false_eq_true, false_implies, forall_const, Option.some.injEq, exists_eq_left', exists_eq_left, Sum.inl.injEq, Sum.inr.injEq, Prod.mk.injEq, nI_toInt, nI_clamp, am_ix_nI, am_ix_0, am_ix_1, am_ix_2, am_ix_3, am_n0, am_n1, am_n2, am_n3, am_n4, am_t0, am_t1, am_t2, am_t3, am_t4, am_tm1, am_nS, am_nP, am_nM, Int.ofNat_lt, Int.ofNat_le, e1.1, b1, y, hk.1, am_sh_wi, am_sh_wr, am_r_wi, am_i_wr, am_tp_wi, am_tp_wr, am_us_wi, am_us_wr, am_i_wi, am_r_wr, if_neg, if_pos, if_true, if_false, true_and, and_true, and_self, false_and, and_false, x1, x2]
    refine ⟨by omega, ?_⟩
    have hs1 : am_sh (am_wr σ1 (s + 1) t (some (s + 12 + 16 * t))) (s + 1) = some (.inr (6, 2)) := by rw [am_sh_wr, e1.1]; exact b1
    have P1 : am_fa (fun b => b = s + 1 ∨ (s + 12 + 16 * t ≤ b ∧ b < s + 20 + 16 * t)) σ (am_wr σ1 (s + 1) t (some (s + 12 + 16 * t))) := (f1.mono (P' := fun b => b = s + 1 ∨ (s + 12 + 16 * t ≤ b ∧ b < s + 20 + 16 * t)) (fun b x => Or.inr (by omega))).wr (Or.inl rfl)
    have hk1 : xr_R (am_wr σ1 (s + 1) t (some (s + 12 + 16 * t))) (s + 12 + 16 * t) 6 (fun i => s + 12 + 16 * t + 2 + i) [] := hk.fa ((am_fa.rf (P := fun b => b = s + 1)).wr rfl) (fun b x y => by omega)
    have T1 : am_tp (am_wr σ1 (s + 1) t (some (s + 12 + 16 * t))) = s + 20 + 16 * t := by rw [am_tp_wr, t1]; omega
    have U1 : am_us (am_wr σ1 (s + 1) t (some (s + 12 + 16 * t))) = am_us σ + 32 := by rw [am_us_wr, u1]
    have r1 : ∀ j, am_r (am_wr σ1 (s + 1) t (some (s + 12 + 16 * t))) (s + 1) j = if j = t then some (s + 12 + 16 * t) else am_r σ (s + 1) j := fun j => by
      rw [am_r_wr, e1.2.2]
      by_cases c : j = t
      · rw [if_pos ⟨rfl, c⟩, if_pos c]
      · rw [if_neg (fun z => c z.2), if_neg c]
    generalize am_wr σ1 (s + 1) t (some (s + 12 + 16 * t)) = σ2 at *
    refine nw_2 (n := 6) hd rfl (by decide) T1 rfl (by omega) (by omega) (Nat.le_of_ble_eq_true rfl) (fun σ3 hk3 f3 t3 u3 => ?_)
    have P2 : am_fa (fun b => b = s + 1 ∨ (s + 12 + 16 * t ≤ b ∧ b < s + 28 + 16 * t)) σ σ3 := (P1.mono (fun b x => by omega)).tr (f3.mono (fun b x => by omega))
    have e3 := P2 (s + 2) (by omega)
    simp (disch := omega) only [ax_const, ax_iload, ax_lload, ax_aload, ax_istore, ax_astore, ax_iinc, ax_i2, ax_i2n, ax_l2, ax_lsh, ax_ii, ax_il, ax_li, ax_pop, ax_dup, ax_dup2, ax_if, ax_cmp, ax_acmp, ax_goto, ax_getI, ax_getR, ax_putI, ax_putR, ax_gets, ax_getsT, ax_aldI, ax_aldR, ax_astI, ax_astR, ax_alen, ax_ret, ax_aret, ax_vret, am_st, am_kl, List.getElem?_cons_zero, List.getElem?_cons_succ, List.set_cons_zero, List.set_cons_succ, Value.category, true_and, and_true, if_true, if_false, reduceCtorEq, Bool.false_eq_true, false_implies, forall_const, Option.some.injEq, exists_eq_left', exists_eq_left, Sum.inl.injEq, Sum.inr.injEq, Prod.mk.injEq, nI_toInt, nI_clamp, am_ix_nI, am_ix_0, am_ix_1, am_ix_2, am_ix_3, am_n0, am_n1, am_n2, am_n3, am_n4, am_t0, am_t1, am_t2, am_t3, am_t4, am_tm1, am_nS, am_nP, am_nM, Int.ofNat_lt, Int.ofNat_le, e3.1, b2, y, hk3.1]
    rw [if_neg (by decide)]
    refine ⟨by omega, trivial, ?_⟩
    have P3 : am_fa (fun b => b = s + 1 ∨ b = s + 2 ∨ (s + 12 + 16 * t ≤ b ∧ b < s + 28 + 16 * t)) σ (am_wr σ3 (s + 2) t (some (s + 20 + 16 * t))) := (P2.mono (P' := fun b => b = s + 1 ∨ b = s + 2 ∨ (s + 12 + 16 * t ≤ b ∧ b < s + 28 + 16 * t)) (fun b x => by omega)).wr (Or.inr (Or.inl rfl))
    have P4 : am_fa (fun b => b = s + 2 ∨ (s + 20 + 16 * t ≤ b ∧ b < s + 28 + 16 * t)) σ2 (am_wr σ3 (s + 2) t (some (s + 20 + 16 * t))) := (f3.mono (P' := fun b => b = s + 2 ∨ (s + 20 + 16 * t ≤ b ∧ b < s + 28 + 16 * t)) (fun b x => by omega)).wr (Or.inl rfl)
    have hk4 : xr_R (am_wr σ3 (s + 2) t (some (s + 20 + 16 * t))) (s + 20 + 16 * t) 6 (fun i => s + 20 + 16 * t + 2 + i) [] := hk3.fa ((am_fa.rf (P := fun b => b = s + 2)).wr rfl) (fun b x y => by omega)
    have r2 : ∀ j, am_r (am_wr σ3 (s + 2) t (some (s + 20 + 16 * t))) (s + 2) j = if j = t then some (s + 20 + 16 * t) else am_r σ (s + 2) j := fun j => by
      rw [am_r_wr, e3.2.2]
      by_cases c : j = t
      · rw [if_pos ⟨rfl, c⟩, if_pos c]
      · rw [if_neg (fun z => c z.2), if_neg c]
    have hs2 : am_sh (am_wr σ3 (s + 2) t (some (s + 20 + 16 * t))) (s + 2) = some (.inr (6, 2)) := by rw [am_sh_wr, e3.1]; exact b2
    have T4 : am_tp (am_wr σ3 (s + 2) t (some (s + 20 + 16 * t))) = s + 12 + 16 * (t + 1) := by rw [am_tp_wr, t3]; omega
    have U4 : am_us (am_wr σ3 (s + 2) t (some (s + 20 + 16 * t))) + 64 * n = lim.2 := by rw [am_us_wr, u3, U1]; omega
    have q0 := P3 s (by omega)
    have q11 := P3 (s + 11) (by omega)
    have m1 := P4 (s + 1) (by omega)
    generalize am_wr σ3 (s + 2) t (some (s + 20 + 16 * t)) = σ4 at *
    refine ih (t + 1) σ4 (by omega) T4 U4 ⟨?_, ⟨by rw [m1.1]; exact hs1, hs2, by rw [q11.1]; exact b3⟩, by rw [q0.2.1]; exact ⟨c1, c2, c3⟩, ⟨p, h4.fa P3 (fun b x y => by omega)⟩, fun t' ht' => ?_⟩ (hf.tr (P3.mono (fun b x => by omega)))
    · rw [q0.1, q0.2.2]
      exact ⟨a1, a2, a3, a4, a5⟩
    · rw [m1.2.2, r1, r2]
      by_cases c : t' = t
      · subst c
        rw [if_pos rfl, if_pos rfl]
        exact ⟨⟨rfl, rfl⟩, ⟨_, hk1.fa P4 (fun b x y => by omega)⟩, _, hk4⟩
      · rw [if_neg c, if_neg c]
        obtain ⟨k1, ⟨p1, k2⟩, p2, k3⟩ := h5 t' (by omega)
        exact ⟨k1, ⟨p1, k2.fa P3 (fun b x y => by omega)⟩, p2, k3.fa P3 (fun b x y => by omega)⟩
theorem c_x7i {g : am_G} {l : Launch} {σ : am_S} {s lab : Nat} {Q : Option Value → am_S → Prop} (ha : am_sh σ s = some (.inl 7)) (h0 : ∀ j, am_i σ s j = 0) (ht : am_tp σ = s + 1) (hQ : ∀ σ', xo_S σ' s lab (fun _ => []) (fun _ => []) (-1) 0 → am_fa (fun b => s ≤ b ∧ b < s + 44) σ σ' → Q none σ') : am_C g l mX7_init 2 (s + 44, am_us σ + 168) [.ref s, .int (nI lab)] σ Q := by
  refine am_C.at [some (.ref s), some (.int (nI lab)), none] (by decide +kernel) (Nat.le_of_ble_eq_true rfl) rfl (by dsimp only; omega) (by dsimp only; omega) (kX7_init_0 (by decide) ?_)
  simp only [ax_aload, ax_oinit, ax_const, List.getElem?_cons_zero, List.map_nil, List.sum_nil]
  refine ⟨by decide, ?_⟩
  refine nw_a (f := 1) (o := 1) (n := 2) (T := []) (u := am_us σ) ⟨ha, fun q hq => by cases hq⟩ ht rfl rfl (by decide) (by dsimp only; omega) (by dsimp only; omega) (by decide) (fun σ1 T1 F1 t1 u1 => ?_)
  simp only [ax_aload, ax_const, List.getElem?_cons_zero]
  refine nw_a (f := 2) (o := 2) (n := 2) (u := am_us σ + 2) T1 t1 u1 rfl (by decide) (by dsimp only; omega) (by dsimp only; omega) (by decide) (fun σ2 T2 F2 t2 u2 => ?_)
  simp only [ax_aload, ax_const, List.getElem?_cons_zero, ax_putI, T2.1, true_and, Bool.false_eq_true, false_implies]
  have T3 := T2.wi (k := 3) (v := -1) (by decide)
  have i2 : ∀ j, am_i (am_wi σ2 s 3 (-1)) s j = if j = 3 then -1 else 0 := fun j => by
    rw [am_i_wi, F2.2.1, F1.2.1, h0]
    by_cases c : j = 3
    · rw [if_pos ⟨rfl, c⟩, if_pos c]
    · rw [if_neg (fun z => c z.2), if_neg c]
  have G2 : am_fa (fun b => s ≤ b ∧ b < s + 44) σ (am_wi σ2 s 3 (-1)) := ((F1.1.mono (fun b x => by omega)).tr (F2.1.mono (fun b x => by omega))).wi ⟨by omega, by omega⟩
  have t2' : am_tp (am_wi σ2 s 3 (-1)) = s + 3 := t2
  have u2' : am_us (am_wi σ2 s 3 (-1)) = am_us σ + 4 := u2
  generalize am_wi σ2 s 3 (-1) = σ3 at *
  refine nw_2 (n := 6) (Nat.le_refl _) rfl (by decide) t2' u2' (by dsimp only; omega) (by dsimp only; omega) (Nat.le_of_ble_eq_true rfl) (fun σ4 hk f4 t4 u4 => ?_)
  have T4 := T3.fa f4 (by omega) (fun q hq => by
    have : ∀ q : Nat × Nat × Nat × Nat, q ∈ [(2, 2, 6, 2), (1, 1, 6, 2)] → q.2.1 < 3 := by decide
    have := this q hq
    omega)
  have e4 := f4 s (by omega)
  simp only [ax_aload, ax_const, List.getElem?_cons_zero, ax_putR, T4.1, true_and]
  have T5 := T4.wr (f := 5) (v := some (s + 3)) (by decide)
  have G5 : am_fa (fun b => s ≤ b ∧ b < s + 44) σ (am_wr σ4 s 5 (some (s + 3))) := (G2.tr (f4.mono (fun b x => by omega))).wr ⟨by omega, by omega⟩
  have hk5 : xr_R (am_wr σ4 s 5 (some (s + 3))) (s + 3) 6 (fun i => s + 3 + 2 + i) [] := hk.fa ((am_fa.rf (P := fun b => b = s)).wr rfl) (fun b x y => by omega)
  have r5 : am_r (am_wr σ4 s 5 (some (s + 3))) s 5 = some (s + 3) := by rw [am_r_wr, if_pos ⟨rfl, rfl⟩]
  have i5 : ∀ j, am_i (am_wr σ4 s 5 (some (s + 3))) s j = if j = 3 then -1 else 0 := fun j => by rw [am_i_wr, e4.2.1, i2]
  have t5 : am_tp (am_wr σ4 s 5 (some (s + 3))) = s + 11 := t4
  have u5 : am_us (am_wr σ4 s 5 (some (s + 3))) = am_us σ + 36 := u4
  generalize am_wr σ4 s 5 (some (s + 3)) = σ5 at *
  refine nw_a (f := 6) (o := 11) (n := 4) (u := am_us σ + 36) T5 t5 u5 rfl (by decide) (by dsimp only; omega) (by dsimp only; omega) (by decide) (fun σ6 T6 F6 t6 u6 => ?_)
  refine kX7_init_45 ?_
  simp only [ax_aload, ax_iload, ax_const, ax_istore, List.getElem?_cons_zero, List.getElem?_cons_succ, ax_putI, T6.1, true_and, Bool.false_eq_true, false_implies, am_st, am_kl, List.set_cons_succ, List.set_cons_zero]
  have T7 := T6.wi (k := 0) (v := nI lab) (by decide)
  have P7 : am_fa (fun b => b = s ∨ b = s + 11) σ5 (am_wi σ6 s 0 (nI lab)) := (F6.1).wi (Or.inl rfl)
  have i7 : ∀ j, am_i (am_wi σ6 s 0 (nI lab)) s j = if j = 0 then nI lab else if j = 3 then -1 else 0 := fun j => by
    rw [am_i_wi, F6.2.1, i5]
    by_cases c : j = 0
    · rw [if_pos ⟨rfl, c⟩, if_pos c]
    · rw [if_neg (fun z => c z.2), if_neg c]
  have r := x7i_52 (g := g) (l := l) (σ0 := σ) (lab := lab) (d := 2) (lim := (s + 44, am_us σ + 168)) (z1 := nI lab) (Nat.le_refl _) rfl hQ 2 0 (am_wi σ6 s 0 (nI lab)) rfl (by rw [am_tp_wi, t6]) (by rw [am_us_wi, u6]) ⟨⟨T7.1, (T7.2 (1, 1, 6, 2) (by decide)).1, (T7.2 (2, 2, 6, 2) (by decide)).1, by rw [am_r_wi, F6.2.2 5 (by decide)]; exact r5, (T7.2 (6, 11, 0, 4) (by decide)).1⟩, ⟨(T7.2 (1, 1, 6, 2) (by decide)).2.1, (T7.2 (2, 2, 6, 2) (by decide)).2.1, (T7.2 (6, 11, 0, 4) (by decide)).2.1⟩, ⟨i7 0, i7 3, i7 4⟩, ⟨_, hk5.fa P7 (fun b x y => by omega)⟩, fun t' ht' => absurd ht' (Nat.not_lt_zero _)⟩ (G5.tr (P7.mono (fun b x => by omega)))
  exact r
