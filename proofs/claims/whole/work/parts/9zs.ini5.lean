/-! making: an array for a field -/
def nwT (σ : am_S) (a ci : Nat) (T : List (Nat × Nat × Nat × Nat)) : Prop := am_sh σ a = some (.inl ci) ∧ ∀ q, q ∈ T → am_r σ a q.1 = some (a + q.2.1) ∧ am_sh σ (a + q.2.1) = some (.inr (q.2.2.1, q.2.2.2)) ∧ ∀ j, am_i σ (a + q.2.1) j = 0
def nwF (a o f : Nat) (σ σ' : am_S) : Prop := am_fa (fun b => b = a ∨ b = a + o) σ σ' ∧ am_i σ' a = am_i σ a ∧ ∀ j, j ≠ f → am_r σ' a j = am_r σ a j
theorem nw_a {σ : am_S} {a o u ci f k n : Nat} {v : Int32} {T : List (Nat × Nat × Nat × Nat)} {lim : Nat × Nat} {K : am_K} {L : List (Option Value)} {st : List Value} (hT : nwT σ a ci T) (ht : am_tp σ = a + o) (hu : am_us σ = u) (hv : v = nI n) (hn : n ≤ 100000) (h1 : a + o + 1 ≤ lim.1) (h2 : u + n ≤ lim.2) (hb : 0 < o ∧ ∀ q, q ∈ T → 0 < q.2.1 ∧ q.2.1 < o ∧ q.1 ≠ f)
    (hK : ∀ σ', nwT σ' a ci ((f, o, k, n) :: T) → nwF a o f σ σ' → am_tp σ' = a + o + 1 → am_us σ' = u + n → K L st σ') : ax_newa lim k (ax_putR ci f K) L (.int v :: .ref a :: st) σ := by
  subst hu hv
  obtain ⟨hs, hq⟩ := hT
  obtain ⟨ho, hb⟩ := hb
  have e1 : (nI n).toInt = n := nI_toInt (by omega)
  have e2 : (nI n).toNatClampNeg = n := nI_clamp (by omega)
  have F : am_fa (fun b => b = a ∨ b = a + o) σ (am_wr (am_al σ (.inr (k, n)) n) a f (some (a + o))) := ((am_fa.rf (P := fun b => b = a ∨ b = a + o)).al (Or.inr ht)).wr (Or.inl rfl)
  have s1 : am_sh (am_al σ (.inr (k, n)) n) a = some (.inl ci) := by rw [am_sh_al, if_neg (by omega)]; exact hs
  have r1 : ∀ j, am_r (am_wr (am_al σ (.inr (k, n)) n) a f (some (a + o))) a j = if j = f then some (a + o) else am_r σ a j := fun j => by
    rw [am_r_wr]
    by_cases c : j = f
    · rw [if_pos ⟨rfl, c⟩, if_pos c]
    · rw [if_neg (fun z => c z.2), if_neg c, am_r_al, if_neg (by omega)]
  show 0 ≤ (nI n).toInt ∧ (nI n).toInt ≤ 100000 ∧ am_tp σ + 1 ≤ lim.1 ∧ am_us σ + (nI n).toNatClampNeg ≤ lim.2 ∧ ax_putR ci f K L (.ref (am_tp σ) :: .ref a :: st) (am_al σ (.inr (k, (nI n).toNatClampNeg)) (nI n).toNatClampNeg)
  rw [e1, e2, ht]
  refine ⟨by omega, by omega, h1, h2, s1, ?_⟩
  refine hK _ ⟨by rw [am_sh_wr]; exact s1, fun q hm => ?_⟩ ⟨F, by rw [am_i_wr]; funext j; rw [am_i_al, if_neg (by omega)], fun j hj => by rw [r1, if_neg hj]⟩ (by rw [am_tp_wr, am_tp_al, ht]) (by rw [am_us_wr, am_us_al])
  rcases List.mem_cons.mp hm with e | hm
  · subst e
    refine ⟨by rw [r1, if_pos rfl], by rw [am_sh_wr, am_sh_al, if_pos ht.symm], fun j => by rw [am_i_wr, am_i_al, if_pos ht.symm]⟩
  · obtain ⟨q1, q2, q3⟩ := hq q hm
    obtain ⟨b1, b2, b3⟩ := hb q hm
    have g := F (a + q.2.1) (by omega)
    exact ⟨by rw [r1, if_neg b3]; exact q1, by rw [g.1]; exact q2, fun j => by rw [g.2.1]; exact q3 j⟩
theorem nwT.fa {P : Nat → Prop} {σ σ' : am_S} {a ci : Nat} {T : List (Nat × Nat × Nat × Nat)} (h : nwT σ a ci T) (hf : am_fa P σ σ') (h0 : ¬ P a) (hd : ∀ q, q ∈ T → ¬ P (a + q.2.1)) : nwT σ' a ci T := by
  obtain ⟨h1, h2⟩ := h
  refine ⟨by rw [(hf a h0).1]; exact h1, fun q hq => ?_⟩
  obtain ⟨q1, q2, q3⟩ := h2 q hq
  have g := hf _ (hd q hq)
  exact ⟨by rw [(hf a h0).2.2]; exact q1, by rw [g.1]; exact q2, fun j => by rw [g.2.1]; exact q3 j⟩
/-! making: Selection -/
def xl_0 (σ : am_S) (e S : Nat) : Prop := xl_S σ e S ∧ xr_R σ (e + 1) 48 (fun i => e + 3 + i) [] ∧ xr_R σ (e + 51) 48 (fun i => e + 53 + i) []
theorem xl_0.fa {P : Nat → Prop} {σ σ' : am_S} {e S : Nat} (h : xl_0 σ e S) (hf : am_fa P σ σ') (hd : ∀ b, e ≤ b → b < e + 107 → ¬ P b) : xl_0 σ' e S :=
  ⟨h.1.fa hf hd, h.2.1.fa hf (fun b x y => hd b (by omega) (by omega)), h.2.2.fa hf (fun b x y => hd b (by omega) (by omega))⟩
theorem c_x4i {g : am_G} {l : Launch} {σ : am_S} {a S : Nat} {Q : Option Value → am_S → Prop} (ha : am_sh σ a = some (.inl 4)) (ht : am_tp σ = a + 1) (hQ : ∀ σ', xl_0 σ' a S → am_fa (fun b => a ≤ b ∧ b < a + 107) σ σ' → Q none σ') : am_C g l mX4_init 2 (a + 107, am_us σ + 724) [.ref a, .ref S] σ Q := by
  refine am_C.at [some (.ref a), some (.ref S)] (by decide +kernel) (Nat.le_of_ble_eq_true rfl) rfl (by dsimp only; omega) (by dsimp only; omega) (kX4_init_0 (by decide) ?_)
  have y : (40 : Int32) = nI 40 := rfl
  simp (disch := omega) only [ax_const, ax_iload, ax_lload, ax_aload, ax_istore, ax_astore, ax_iinc, ax_i2, ax_i2n, ax_l2, ax_lsh, ax_ii, ax_il, ax_li, ax_pop, ax_dup, ax_dup2, ax_if, ax_cmp, ax_acmp, ax_goto, ax_getI, ax_getR, ax_putI, ax_putR, ax_gets, ax_getsT, ax_aldI, ax_aldR, ax_astI, ax_astR, ax_alen, ax_ret, ax_aret, ax_vret, am_st, am_kl, List.getElem?_cons_zero, List.getElem?_cons_succ, List.set_cons_zero, List.set_cons_succ, Value.category, true_and, and_true, if_true, if_false, reduceCtorEq, Bool.false_eq_true, false_implies, forall_const, Option.some.injEq, exists_eq_left', exists_eq_left, Sum.inl.injEq, Sum.inr.injEq, Prod.mk.injEq, nI_toInt, nI_clamp, am_ix_nI, am_ix_0, am_ix_1, am_ix_2, am_ix_3, am_n0, am_n1, am_n2, am_n3, am_n4, am_t0, am_t1, am_t2, am_t3, am_t4, am_tm1, am_nS, am_nP, am_nM, Int.ofNat_lt, Int.ofNat_le, ax_newa, ax_mna, ax_oinit, List.map_nil, List.map_cons, List.sum_nil, List.sum_cons, am_sh_al, am_i_al, am_r_al, am_tp_al, am_us_al, am_sh_mna, am_i_mna, am_r_mna, am_tp_mna, am_us_mna, am_sh_wi, am_sh_wr, am_r_wi, am_i_wr, am_tp_wi, am_tp_wr, am_us_wi, am_us_wr, am_i_wi, am_r_wr, if_neg, if_pos, if_true, if_false, true_and, and_true, and_self, false_and, and_false, ht, ha]
  refine ⟨by omega, ?_⟩
  refine nw_2 (a := a + 1) (u := am_us σ) (n := 48) (Nat.le_refl _) rfl (Nat.le_refl _) ht rfl (by dsimp only; omega) (by dsimp only; omega) (Nat.le_of_ble_eq_true rfl) (fun σ1 hk f1 t1 u1 => ?_)
  have e1 := f1 a (by omega)
  have x0 : am_sh σ1 a = some (.inl 4) := by rw [e1.1]; exact ha
  simp (disch := omega) only [ax_const, ax_iload, ax_lload, ax_aload, ax_istore, ax_astore, ax_iinc, ax_i2, ax_i2n, ax_l2, ax_lsh, ax_ii, ax_il, ax_li, ax_pop, ax_dup, ax_dup2, ax_if, ax_cmp, ax_acmp, ax_goto, ax_getI, ax_getR, ax_putI, ax_putR, ax_gets, ax_getsT, ax_aldI, ax_aldR, ax_astI, ax_astR, ax_alen, ax_ret, ax_aret, ax_vret, am_st, am_kl, List.getElem?_cons_zero, List.getElem?_cons_succ, List.set_cons_zero, List.set_cons_succ, Value.category, true_and, and_true, if_true, if_false, reduceCtorEq, Bool.false_eq_true, false_implies, forall_const, Option.some.injEq, exists_eq_left', exists_eq_left, Sum.inl.injEq, Sum.inr.injEq, Prod.mk.injEq, nI_toInt, nI_clamp, am_ix_nI, am_ix_0, am_ix_1, am_ix_2, am_ix_3, am_n0, am_n1, am_n2, am_n3, am_n4, am_t0, am_t1, am_t2, am_t3, am_t4, am_tm1, am_nS, am_nP, am_nM, Int.ofNat_lt, Int.ofNat_le, ax_newa, ax_mna, ax_oinit, List.map_nil, List.map_cons, List.sum_nil, List.sum_cons, am_sh_al, am_i_al, am_r_al, am_tp_al, am_us_al, am_sh_mna, am_i_mna, am_r_mna, am_tp_mna, am_us_mna, am_sh_wi, am_sh_wr, am_r_wi, am_i_wr, am_tp_wi, am_tp_wr, am_us_wi, am_us_wr, am_i_wi, am_r_wr, if_neg, if_pos, if_true, if_false, true_and, and_true, and_self, false_and, and_false, t1, u1, x0]
  refine nw_2 (a := a + 51) (u := am_us σ + 242) (n := 48) (Nat.le_refl _) rfl (Nat.le_refl _) (by simp only [ax_new, ax_newa, ax_mna, ax_oinit, List.map_nil, List.map_cons, List.sum_nil, List.sum_cons, am_sh_al, am_i_al, am_r_al, am_tp_al, am_us_al, am_sh_mna, am_i_mna, am_r_mna, am_tp_mna, am_us_mna, am_sh_wi, am_sh_wr, am_r_wi, am_i_wr, am_tp_wi, am_tp_wr, am_us_wi, am_us_wr, am_i_wi, am_r_wr, if_neg, if_pos, if_true, if_false, true_and, and_true, and_self, false_and, and_false, t1]) (by simp only [ax_new, ax_newa, ax_mna, ax_oinit, List.map_nil, List.map_cons, List.sum_nil, List.sum_cons, am_sh_al, am_i_al, am_r_al, am_tp_al, am_us_al, am_sh_mna, am_i_mna, am_r_mna, am_tp_mna, am_us_mna, am_sh_wi, am_sh_wr, am_r_wi, am_i_wr, am_tp_wi, am_tp_wr, am_us_wi, am_us_wr, am_i_wi, am_r_wr, if_neg, if_pos, if_true, if_false, true_and, and_true, and_self, false_and, and_false, u1]) (by dsimp only; omega) (by dsimp only; omega) (Nat.le_of_ble_eq_true rfl) (fun σ2 hk2 f2 t2 u2 => ?_)
  have e2 := f2 a (by omega)
  have x1 : am_sh σ2 a = some (.inl 4) := by rw [e2.1]; exact x0
  have P1 := (am_fa.rf (P := fun b => b = a ∨ (a + 51 ≤ b ∧ b < a + 101)) (σ := σ1)).wr (a := a) (k := 0) (v := some (a + 1)) (Or.inl rfl) |>.tr (f2.mono (fun b x => by omega))
  simp (disch := omega) only [ax_putR, ax_aload, ax_const, List.getElem?_cons_zero, x1, true_and]
  obtain ⟨σ3, hs3⟩ : ∃ τ, τ = am_wr σ2 a 1 (some (a + 51)) := ⟨_, rfl⟩
  rw [← hs3]
  have R1 : am_fa (fun b => b = a) σ2 σ3 := by rw [hs3]; exact am_fa.rf.wr rfl
  have r0 : am_r σ3 a 0 = some (a + 1) := by rw [hs3]; simp (disch := omega) only [ax_new, ax_newa, ax_mna, ax_oinit, List.map_nil, List.map_cons, List.sum_nil, List.sum_cons, am_sh_al, am_i_al, am_r_al, am_tp_al, am_us_al, am_sh_mna, am_i_mna, am_r_mna, am_tp_mna, am_us_mna, am_sh_wi, am_sh_wr, am_r_wi, am_i_wr, am_tp_wi, am_tp_wr, am_us_wi, am_us_wr, am_i_wi, am_r_wr, if_neg, if_pos, if_true, if_false, true_and, and_true, and_self, false_and, and_false, e2.2.2]
  have r1 : am_r σ3 a 1 = some (a + 51) := by rw [hs3]; simp (disch := omega) only [ax_new, ax_newa, ax_mna, ax_oinit, List.map_nil, List.map_cons, List.sum_nil, List.sum_cons, am_sh_al, am_i_al, am_r_al, am_tp_al, am_us_al, am_sh_mna, am_i_mna, am_r_mna, am_tp_mna, am_us_mna, am_sh_wi, am_sh_wr, am_r_wi, am_i_wr, am_tp_wi, am_tp_wr, am_us_wi, am_us_wr, am_i_wi, am_r_wr, if_neg, if_pos, if_true, if_false, true_and, and_true, and_self, false_and, and_false]
  refine nw_a (f := 4) (o := 101) (n := 40) (T := []) (u := am_us σ + 484) ⟨by rw [hs3]; exact x1, fun q hq => by cases hq⟩ (by rw [hs3]; exact t2) (by rw [hs3]; exact u2) rfl (by decide) (by dsimp only; omega) (by dsimp only; omega) (by decide) (fun σ4 T4 F4 t4 u4 => ?_)
  simp only [ax_aload, ax_const, List.getElem?_cons_zero]
  refine nw_a (f := 5) (o := 102) (n := 40) (u := am_us σ + 524) T4 t4 u4 rfl (by decide) (by dsimp only; omega) (by dsimp only; omega) (by decide) (fun σ5 T5 F5 t5 u5 => ?_)
  simp only [ax_aload, List.getElem?_cons_zero]
  refine kX4_init_47 ?_
  simp only [ax_const]
  refine nw_a (f := 7) (o := 103) (n := 40) (u := am_us σ + 564) T5 t5 u5 rfl (by decide) (by dsimp only; omega) (by dsimp only; omega) (by decide) (fun σ6 T6 F6 t6 u6 => ?_)
  simp only [ax_aload, ax_const, List.getElem?_cons_zero]
  refine nw_a (f := 8) (o := 104) (n := 40) (u := am_us σ + 604) T6 t6 u6 rfl (by decide) (by dsimp only; omega) (by dsimp only; omega) (by decide) (fun σ7 T7 F7 t7 u7 => ?_)
  simp only [ax_aload, ax_const, List.getElem?_cons_zero]
  refine nw_a (f := 9) (o := 105) (n := 40) (u := am_us σ + 644) T7 t7 u7 rfl (by decide) (by dsimp only; omega) (by dsimp only; omega) (by decide) (fun σ8 T8 F8 t8 u8 => ?_)
  simp only [ax_aload, ax_const, List.getElem?_cons_zero]
  refine nw_a (f := 10) (o := 106) (n := 40) (u := am_us σ + 684) T8 t8 u8 rfl (by decide) (by dsimp only; omega) (by dsimp only; omega) (by decide) (fun σ9 T9 F9 t9 u9 => ?_)
  simp (disch := omega) only [ax_const, ax_iload, ax_lload, ax_aload, ax_istore, ax_astore, ax_iinc, ax_i2, ax_i2n, ax_l2, ax_lsh, ax_ii, ax_il, ax_li, ax_pop, ax_dup, ax_dup2, ax_if, ax_cmp, ax_acmp, ax_goto, ax_getI, ax_getR, ax_putI, ax_putR, ax_gets, ax_getsT, ax_aldI, ax_aldR, ax_astI, ax_astR, ax_alen, ax_ret, ax_aret, ax_vret, am_st, am_kl, List.getElem?_cons_zero, List.getElem?_cons_succ, List.set_cons_zero, List.set_cons_succ, Value.category, true_and, and_true, if_true, if_false, reduceCtorEq, Bool.false_eq_true, false_implies, forall_const, Option.some.injEq, exists_eq_left', exists_eq_left, Sum.inl.injEq, Sum.inr.injEq, Prod.mk.injEq, T9.1]
  have R9 : am_fa (fun b => b = a ∨ (a + 101 ≤ b ∧ b < a + 107)) σ2 (am_wr σ9 a 2 (some S)) := (((((((R1.mono (fun b x => by omega)).tr (F4.1.mono (fun b x => by omega))).tr (F5.1.mono (fun b x => by omega))).tr (F6.1.mono (fun b x => by omega))).tr (F7.1.mono (fun b x => by omega))).tr (F8.1.mono (fun b x => by omega))).tr (F9.1.mono (fun b x => by omega))).wr (Or.inl rfl)
  have rr : ∀ j, j < 2 → am_r (am_wr σ9 a 2 (some S)) a j = am_r σ3 a j := fun j hj => by
    rw [am_r_wr, if_neg (by omega), F9.2.2 j (by omega), F8.2.2 j (by omega), F7.2.2 j (by omega), F6.2.2 j (by omega), F5.2.2 j (by omega), F4.2.2 j (by omega)]
  have rq : ∀ q : Nat × Nat × Nat × Nat, q ∈ [(10, 106, 0, 40), (9, 105, 0, 40), (8, 104, 0, 40), (7, 103, 0, 40), (5, 102, 0, 40), (4, 101, 0, 40)] → am_r (am_wr σ9 a 2 (some S)) a q.1 = some (a + q.2.1) ∧ am_sh (am_wr σ9 a 2 (some S)) (a + q.2.1) = some (.inr (q.2.2.1, q.2.2.2)) := fun q hq => by
    have h2 : q.1 ≠ 2 := by
      have : ∀ q : Nat × Nat × Nat × Nat, q ∈ [(10, 106, 0, 40), (9, 105, 0, 40), (8, 104, 0, 40), (7, 103, 0, 40), (5, 102, 0, 40), (4, 101, 0, 40)] → q.1 ≠ 2 := by decide
      exact this q hq
    exact ⟨by rw [am_r_wr, if_neg (fun z => h2 z.2)]; exact (T9.2 q hq).1, by rw [am_sh_wr]; exact (T9.2 q hq).2.1⟩
  refine ⟨t9, u9, hQ _ ⟨⟨by rw [am_sh_wr]; exact T9.1, by rw [rr 0 (by decide)]; exact r0, by rw [rr 1 (by decide)]; exact r1, by rw [am_r_wr, if_pos ⟨rfl, rfl⟩], (rq (4, 101, 0, 40) (by decide)).1, (rq (5, 102, 0, 40) (by decide)).1, (rq (7, 103, 0, 40) (by decide)).1, (rq (8, 104, 0, 40) (by decide)).1, (rq (9, 105, 0, 40) (by decide)).1, (rq (10, 106, 0, 40) (by decide)).1, fun i hi => ?_⟩, (hk.fa P1 (fun b x y => by omega)).fa R9 (fun b x y => by omega), hk2.fa R9 (fun b x y => by omega)⟩ ?_⟩
  · have : i = 0 ∨ i = 1 ∨ i = 2 ∨ i = 3 ∨ i = 4 ∨ i = 5 := by omega
    rcases this with rfl | rfl | rfl | rfl | rfl | rfl
    · exact (rq (4, 101, 0, 40) (by decide)).2
    · exact (rq (5, 102, 0, 40) (by decide)).2
    · exact (rq (7, 103, 0, 40) (by decide)).2
    · exact (rq (8, 104, 0, 40) (by decide)).2
    · exact (rq (9, 105, 0, 40) (by decide)).2
    · exact (rq (10, 106, 0, 40) (by decide)).2
  · exact (f1.mono (fun b x => by omega)).tr ((P1.mono (fun b x => by omega)).tr (R9.mono (fun b x => by omega)))
