/-! ===== Parser: the state, the plain steps ===== -/
/-- parser pa over the tokens ts: code j's steps are those of m, the others' those of ss -/
def xp_J (g : am_G) (σ : am_S) (pa : Nat) (ts : List (Nat × Int32)) (k : Nat → Nat) (ss : Nat → List (Nat × Int32)) (j : Nat) (m : xp_M) : Prop :=
  xt_T g σ ∧ am_sh σ pa = some (.inl 1) ∧ am_r σ pa 0 = some (pa + 1) ∧ am_r σ pa 1 = some (pa + 32) ∧ xn_S σ (pa + 32) ∧ xn_L g σ (pa + 32) (ts ++ [(36, 0)]) ∧
  am_i σ pa 2 = nI m.1 ∧ am_i σ pa 3 = (if m.2.1 then 1 else 0) ∧ xs_S σ (pa + 1) ∧ xs_CS g σ (pa + 1) k (fun i => if i = j then m.2.2.1 else ss i) ∧ (∀ t, t < 3 → am_i σ (pa + 1 + 14) t = if m.2.2.2 t then 1 else 0) ∧ g.2.2.1.size ≤ pa ∧ m.1 ≤ ts.length
theorem xp_J.hd {g : am_G} {σ : am_S} {pa j : Nat} {ts : List (Nat × Int32)} {k : Nat → Nat} {ss : Nat → List (Nat × Int32)} {m : xp_M} (h : xp_J g σ pa ts k ss j m) : xp_hd ts m.1 < 37 ∧ am_r σ (pa + 32 + 1) m.1 = some (am_tk g (xp_hd ts m.1)) ∧ (xp_hd ts m.1 = 33 → am_i σ (pa + 32 + 2) m.1 = xp_nm ts m.1) ∧ m.1 < 81 ∧ ts.length ≤ 80 := by
  obtain ⟨h1, h2, h3, h4, h5, h6, h7, h8, h9, h10, h11, h12, h13⟩ := h
  have hl := h6.1
  rw [List.length_append] at hl
  have hl : ts.length + 1 ≤ 81 := hl
  have e : (ts ++ [(36, 0)])[m.1]? = some (xp_hd ts m.1, xp_nm ts m.1) := by
    unfold xp_hd xp_nm
    rw [List.getD_eq_getElem?_getD]
    by_cases q : m.1 < ts.length
    · rw [List.getElem?_append_left q, List.getElem?_eq_getElem q]
      rfl
    · have e1 : m.1 = ts.length := by omega
      rw [e1, List.getElem?_append_right (Nat.le_refl _), Nat.sub_self, List.getElem?_eq_none (Nat.le_refl _)]
      rfl
  obtain ⟨a1, a2, a3⟩ := h6.2 _ _ _ e
  exact ⟨a1, a2, a3, by omega, by omega⟩
theorem xp_J.fmP {g : am_G} {P : Nat → Prop} {σ σ' : am_S} {pa j : Nat} {ts : List (Nat × Int32)} {k : Nat → Nat} {ss : Nat → List (Nat × Int32)} {m m' : xp_M} (h : xp_J g σ pa ts k ss j m) (hf : am_fm P σ σ') (hP : ∀ b, P b → b = pa) (hm : m'.2.2 = m.2.2) (h2 : am_i σ' pa 2 = nI m'.1) (h3 : am_i σ' pa 3 = if m'.2.1 then 1 else 0) (hr : am_r σ' pa = am_r σ pa) (hl : m'.1 ≤ ts.length) : xp_J g σ' pa ts k ss j m' := by
  obtain ⟨g1, g2, g3, g4, g5, g6, g7, g8, g9, g10, g11, g12, g13⟩ := h
  have hP' : ∀ b, b ≠ pa → ¬ P b := fun b x y => x (hP b y)
  unfold xp_J
  rw [hr, hf.1, hm, (hf.2.2.2 (pa + 1 + 14) (hP' _ (by omega))).1]
  exact ⟨g1.fm hf (fun b x => by have := hP b x; omega), g2, g3, g4, g5.fm hf (hP' _ (by omega)), g6.fm hf (hP' _ (by omega)) (hP' _ (by omega)), h2, h3, g9.fm hf (hP' _ (by omega)) (hP' _ (by omega)) (hP' _ (by omega)), g10.fm hf (fun b x y z => by have := hP b z; omega), g11, g12, hl⟩
theorem xp_J.adv {g : am_G} {σ : am_S} {pa j : Nat} {ts : List (Nat × Int32)} {k : Nat → Nat} {ss : Nat → List (Nat × Int32)} {m : xp_M} (h : xp_J g σ pa ts k ss j m) (hl : m.1 < ts.length) : xp_J g (am_wi σ pa 2 (nI (m.1 + 1))) pa ts k ss j (xp_adv m) :=
  h.fmP (P := fun b => b = pa) (am_fm.rf.wi rfl) (fun b x => x) rfl (by rw [am_i_wi, if_pos ⟨rfl, rfl⟩]; rfl) (by rw [am_i_wi, if_neg (by omega)]; exact h.2.2.2.2.2.2.2.1) rfl hl
theorem xp_J.bad {g : am_G} {σ : am_S} {pa j : Nat} {ts : List (Nat × Int32)} {k : Nat → Nat} {ss : Nat → List (Nat × Int32)} {m : xp_M} (h : xp_J g σ pa ts k ss j m) : xp_J g (am_wi σ pa 3 1) pa ts k ss j (xp_bad m) :=
  h.fmP (P := fun b => b = pa) (am_fm.rf.wi rfl) (fun b x => x) rfl (by rw [am_i_wi, if_neg (by omega)]; exact h.2.2.2.2.2.2.1) (by rw [am_i_wi, if_pos ⟨rfl, rfl⟩]; rfl) rfl h.2.2.2.2.2.2.2.2.2.2.2.2
theorem xp_J.code {g : am_G} {σ : am_S} {pa j : Nat} {ts : List (Nat × Int32)} {k : Nat → Nat} {ss : Nat → List (Nat × Int32)} {m : xp_M} (h : xp_J g σ pa ts k ss j m) (hj : j < 6) : xk_C g σ (xs_ca (pa + 1) j) (k j) m.2.2.1 := by
  have := h.2.2.2.2.2.2.2.2.2.1 j hj
  dsimp only at this
  rwa [if_pos rfl] at this
theorem xp_J.app {g : am_G} {σ σ' : am_S} {pa j t : Nat} {o : Int32} {ts : List (Nat × Int32)} {k : Nat → Nat} {ss : Nat → List (Nat × Int32)} {m : xp_M} (h : xp_J g σ pa ts k ss j m) (hj : j < 6) (hc : xk_C g σ' (xs_ca (pa + 1) j) (k j) (m.2.2.1 ++ [(t, o)])) (hf : am_fm (fun b => xs_ca (pa + 1) j ≤ b ∧ b < xs_ca (pa + 1) j + 3) σ σ') : xp_J g σ' pa ts k ss j (xp_app t o m) := by
  obtain ⟨g1, g2, g3, g4, g5, g6, g7, g8, g9, g10, g11, g12, g13⟩ := h
  have hca := xs_ca_in (pa + 1) j hj
  unfold xp_J
  rw [hf.1, (hf.2.2.2 pa (by omega)).1, (hf.2.2.2 pa (by omega)).2, (hf.2.2.2 (pa + 1 + 14) (by omega)).1]
  refine ⟨g1.fm hf (fun b x => by omega), g2, g3, g4, g5.fm hf (by omega), g6.fm hf (by omega) (by omega), g7, g8, g9.fm hf (by omega) (by omega) (by omega), ?_, g11, g12, g13⟩
  have := g10.put hj hc (hf.mono (fun b x => by omega))
  intro i hi
  have := this i hi
  dsimp only at this ⊢
  by_cases e : i = j
  · rw [if_pos e, if_pos e] at this
    rw [if_pos e, e]
    exact e ▸ this
  · rw [if_neg e, if_neg e] at this
    rw [if_neg e]
    rw [if_neg e] at this
    exact this
theorem xp_J.mark {g : am_G} {σ : am_S} {pa j t : Nat} {ts : List (Nat × Int32)} {k : Nat → Nat} {ss : Nat → List (Nat × Int32)} {m : xp_M} (h : xp_J g σ pa ts k ss j m) : xp_J g (am_wi σ (pa + 1 + 14) t 1) pa ts k ss j (xp_mark t m) := by
  have hf : am_fm (fun b => b = pa + 1 + 14) σ (am_wi σ (pa + 1 + 14) t 1) := am_fm.rf.wi rfl
  obtain ⟨g1, g2, g3, g4, g5, g6, g7, g8, g9, g10, g11, g12, g13⟩ := h
  unfold xp_J
  refine ⟨g1.fm hf (fun b x => by omega), g2, g3, g4, g5.fm hf (by omega), g6.fm hf (by omega) (by omega), by rw [am_i_wi, if_neg (by omega)]; exact g7, by rw [am_i_wi, if_neg (by omega)]; exact g8, g9.fm hf (by omega) (by omega) (by omega), g10.fm hf (fun b x y z => by omega), fun i hi => ?_, g12, g13⟩
  show am_i (am_wi σ (pa + 1 + 14) t 1) (pa + 1 + 14) i = if (if i = t then true else m.2.2.2 i) = true then 1 else 0
  rw [am_i_wi]
  by_cases e : i = t
  · rw [if_pos ⟨rfl, e⟩, if_pos e]
    rfl
  · rw [if_neg (fun z => e z.2), if_neg e]
    exact g11 i hi
theorem c_pnext {g : am_G} {l : Launch} {σ : am_S} {pa j : Nat} {ts : List (Nat × Int32)} {k : Nat → Nat} {ss : Nat → List (Nat × Int32)} {m : xp_M} {Q : Option Value → am_S → Prop} (h : xp_J g σ pa ts k ss j m) (hQ : Q (some (.ref (am_tk g (xp_hd ts m.1)))) σ) : am_C g l mX1_next 0 (am_tp σ, am_us σ) [.ref pa] σ Q := by
  obtain ⟨b1, b2, b3, b4, b5⟩ := h.hd
  obtain ⟨g1, g2, g3, g4, g5, g6, g7, g8, g9, g10, g11, g12, g13⟩ := h
  refine am_C.go [some (.ref pa)] (by decide +kernel) (Nat.le_of_ble_eq_true rfl) rfl (kX1_next_0 ?_)
  simp (disch := omega) only [ax_const, ax_iload, ax_lload, ax_aload, ax_istore, ax_astore, ax_iinc, ax_i2, ax_i2n, ax_l2, ax_lsh, ax_ii, ax_il, ax_li, ax_pop, ax_dup, ax_dup2, ax_if, ax_cmp, ax_acmp, ax_goto, ax_getI, ax_getR, ax_putI, ax_putR, ax_gets, ax_getsT, ax_aldI, ax_aldR, ax_astI, ax_astR, ax_alen, ax_ret, ax_aret, ax_vret, am_st, am_kl, List.getElem?_cons_zero, List.getElem?_cons_succ, List.set_cons_zero, List.set_cons_succ, Value.category, true_and, and_true, if_true, if_false, reduceCtorEq, Bool.false_eq_true, false_implies, forall_const, Option.some.injEq, exists_eq_left', exists_eq_left, Sum.inl.injEq, Sum.inr.injEq, Prod.mk.injEq, nI_toInt, nI_clamp, am_ix_nI, am_ix_0, am_ix_1, am_ix_2, am_ix_3, am_n0, am_n1, am_n2, am_n3, am_n4, am_t0, am_t1, am_t2, am_t3, am_t4, am_tm1, am_nS, am_nP, am_nM, Int.ofNat_lt, Int.ofNat_le, g2, g4, g5.1, g5.2.1, g5.2.2.2.1, g7, b2]
  exact ⟨by omega, hQ⟩
theorem c_ptake {g : am_G} {l : Launch} {σ : am_S} {pa j t : Nat} {ts : List (Nat × Int32)} {k : Nat → Nat} {ss : Nat → List (Nat × Int32)} {m : xp_M} {Q : Option Value → am_S → Prop} (h : xp_J g σ pa ts k ss j m) (ht : t < 36) (hQ1 : xp_hd ts m.1 = t → ∀ σ', xp_J g σ' pa ts k ss j (xp_adv m) → am_fm (fun b => b = pa) σ σ' → Q (some (.int 1)) σ') (hQ0 : xp_hd ts m.1 ≠ t → Q (some (.int 0)) σ) : am_C g l mX1_take 0 (am_tp σ, am_us σ) [.ref pa, .ref (am_tk g t)] σ Q := by
  have h0 := h
  obtain ⟨b1, b2, b3, b4, b5⟩ := h.hd
  obtain ⟨g1, g2, g3, g4, g5, g6, g7, g8, g9, g10, g11, g12, g13⟩ := h
  refine am_C.go [some (.ref pa), some (.ref (am_tk g t)), none] (by decide +kernel) (Nat.le_of_ble_eq_true rfl) rfl (kX1_take_0 ?_)
  simp (disch := omega) only [ax_const, ax_iload, ax_lload, ax_aload, ax_istore, ax_astore, ax_iinc, ax_i2, ax_i2n, ax_l2, ax_lsh, ax_ii, ax_il, ax_li, ax_pop, ax_dup, ax_dup2, ax_if, ax_cmp, ax_acmp, ax_goto, ax_getI, ax_getR, ax_putI, ax_putR, ax_gets, ax_getsT, ax_aldI, ax_aldR, ax_astI, ax_astR, ax_alen, ax_ret, ax_aret, ax_vret, am_st, am_kl, List.getElem?_cons_zero, List.getElem?_cons_succ, List.set_cons_zero, List.set_cons_succ, Value.category, true_and, and_true, if_true, if_false, reduceCtorEq, Bool.false_eq_true, false_implies, forall_const, Option.some.injEq, exists_eq_left', exists_eq_left, Sum.inl.injEq, Sum.inr.injEq, Prod.mk.injEq, nI_toInt, nI_clamp, am_ix_nI, am_ix_0, am_ix_1, am_ix_2, am_ix_3, am_n0, am_n1, am_n2, am_n3, am_n4, am_t0, am_t1, am_t2, am_t3, am_t4, am_tm1, am_nS, am_nP, am_nM, Int.ofNat_lt, Int.ofNat_le, g2, g4, g5.1, g5.2.1, g5.2.2.2.1, g7, b2, g1.1.inj b1 (show t < 37 by omega)]
  refine ⟨by omega, fun q => ?_, fun q => ?_⟩
  · refine kX1_take_21 ?_
    have o1 : ¬ (1 : Int32) = 0 := by decide
    simp (disch := omega) only [ax_const, ax_iload, ax_lload, ax_aload, ax_istore, ax_astore, ax_iinc, ax_i2, ax_i2n, ax_l2, ax_lsh, ax_ii, ax_il, ax_li, ax_pop, ax_dup, ax_dup2, ax_if, ax_cmp, ax_acmp, ax_goto, ax_getI, ax_getR, ax_putI, ax_putR, ax_gets, ax_getsT, ax_aldI, ax_aldR, ax_astI, ax_astR, ax_alen, ax_ret, ax_aret, ax_vret, am_st, am_kl, List.getElem?_cons_zero, List.getElem?_cons_succ, List.set_cons_zero, List.set_cons_succ, Value.category, true_and, and_true, if_true, if_false, reduceCtorEq, Bool.false_eq_true, false_implies, forall_const, Option.some.injEq, exists_eq_left', exists_eq_left, Sum.inl.injEq, Sum.inr.injEq, Prod.mk.injEq, nI_toInt, nI_clamp, am_ix_nI, am_ix_0, am_ix_1, am_ix_2, am_ix_3, am_n0, am_n1, am_n2, am_n3, am_n4, am_t0, am_t1, am_t2, am_t3, am_t4, am_tm1, am_nS, am_nP, am_nM, Int.ofNat_lt, Int.ofNat_le, am_sh_wi, am_sh_wr, am_r_wi, am_i_wr, am_tp_wi, am_tp_wr, am_us_wi, am_us_wr, am_i_wi, am_r_wr, g2, g7, o1]
    exact fun _ => ⟨by simp, hQ1 q _ (h0.adv (xp_hd_lt q (by omega))) (am_fm.rf.wi rfl)⟩
  · refine kX1_take_21 ?_
    simp (disch := omega) only [ax_const, ax_iload, ax_lload, ax_aload, ax_istore, ax_astore, ax_iinc, ax_i2, ax_i2n, ax_l2, ax_lsh, ax_ii, ax_il, ax_li, ax_pop, ax_dup, ax_dup2, ax_if, ax_cmp, ax_acmp, ax_goto, ax_getI, ax_getR, ax_putI, ax_putR, ax_gets, ax_getsT, ax_aldI, ax_aldR, ax_astI, ax_astR, ax_alen, ax_ret, ax_aret, ax_vret, am_st, am_kl, List.getElem?_cons_zero, List.getElem?_cons_succ, List.set_cons_zero, List.set_cons_succ, Value.category, true_and, and_true, if_true, if_false, reduceCtorEq, Bool.false_eq_true, false_implies, forall_const, Option.some.injEq, exists_eq_left', exists_eq_left, Sum.inl.injEq, Sum.inr.injEq, Prod.mk.injEq, nI_toInt, nI_clamp, am_ix_nI, am_ix_0, am_ix_1, am_ix_2, am_ix_3, am_n0, am_n1, am_n2, am_n3, am_n4, am_t0, am_t1, am_t2, am_t3, am_t4, am_tm1, am_nS, am_nP, am_nM, Int.ofNat_lt, Int.ofNat_le]
    exact ⟨⟨by simp, hQ0 q⟩, fun z => absurd trivial z⟩
theorem c_pneed {g : am_G} {l : Launch} {σ : am_S} {pa j t : Nat} {ts : List (Nat × Int32)} {k : Nat → Nat} {ss : Nat → List (Nat × Int32)} {m : xp_M} {Q : Option Value → am_S → Prop} (h : xp_J g σ pa ts k ss j m) (ht : t < 36) (hQ : ∀ σ', xp_J g σ' pa ts k ss j (xp_need ts t m) → am_fm (fun b => b = pa) σ σ' → Q none σ') : am_C g l mX1_need 0 (am_tp σ, am_us σ) [.ref pa, .ref (am_tk g t)] σ Q := by
  have h0 := h
  obtain ⟨b1, b2, b3, b4, b5⟩ := h.hd
  obtain ⟨g1, g2, g3, g4, g5, g6, g7, g8, g9, g10, g11, g12, g13⟩ := h
  unfold xp_need at hQ
  refine am_C.go [some (.ref pa), some (.ref (am_tk g t))] (by decide +kernel) (Nat.le_of_ble_eq_true rfl) rfl (kX1_need_0 ?_)
  simp (disch := omega) only [ax_const, ax_iload, ax_lload, ax_aload, ax_istore, ax_astore, ax_iinc, ax_i2, ax_i2n, ax_l2, ax_lsh, ax_ii, ax_il, ax_li, ax_pop, ax_dup, ax_dup2, ax_if, ax_cmp, ax_acmp, ax_goto, ax_getI, ax_getR, ax_putI, ax_putR, ax_gets, ax_getsT, ax_aldI, ax_aldR, ax_astI, ax_astR, ax_alen, ax_ret, ax_aret, ax_vret, am_st, am_kl, List.getElem?_cons_zero, List.getElem?_cons_succ, List.set_cons_zero, List.set_cons_succ, Value.category, true_and, and_true, if_true, if_false, reduceCtorEq, Bool.false_eq_true, false_implies, forall_const, Option.some.injEq, exists_eq_left', exists_eq_left, Sum.inl.injEq, Sum.inr.injEq, Prod.mk.injEq, nI_toInt, nI_clamp, am_ix_nI, am_ix_0, am_ix_1, am_ix_2, am_ix_3, am_n0, am_n1, am_n2, am_n3, am_n4, am_t0, am_t1, am_t2, am_t3, am_t4, am_tm1, am_nS, am_nP, am_nM, Int.ofNat_lt, Int.ofNat_le, am_sh_wi, am_sh_wr, am_r_wi, am_i_wr, am_tp_wi, am_tp_wr, am_us_wi, am_us_wr, am_i_wi, am_r_wr, g2, g4, g5.1, g5.2.1, g5.2.2.2.1, g7, b2, g1.1.inj b1 (show t < 37 by omega)]
  refine ⟨by omega, fun q => ?_, fun q => ?_⟩
  · rw [if_pos q] at hQ
    exact hQ _ (h0.adv (xp_hd_lt q (by omega))) (am_fm.rf.wi rfl)
  · rw [if_neg q] at hQ
    exact ⟨by simp, hQ _ h0.bad (am_fm.rf.wi rfl)⟩
theorem c_ptable {g : am_G} {l : Launch} {σ : am_S} {pa j : Nat} {ts : List (Nat × Int32)} {k : Nat → Nat} {ss : Nat → List (Nat × Int32)} {m : xp_M} {Q : Option Value → am_S → Prop} (h : xp_J g σ pa ts k ss j m) (hQ : ∀ σ', xp_J g σ' pa ts k ss j (xp_tbl ts m).2 → am_fm (fun b => b = pa) σ σ' → Q (some (.int (nI (xp_tbl ts m).1))) σ') : am_C g l mX1_readTable 1 (am_tp σ, am_us σ) [.ref pa] σ Q := by
  unfold xp_tbl at hQ
  have o1 : ¬ (1 : Int32) = 0 := by decide
  refine am_C.go [some (.ref pa)] (by decide +kernel) (Nat.le_of_ble_eq_true rfl) rfl (kX1_readTable_0 ?_)
  simp (disch := omega) only [ax_const, ax_iload, ax_lload, ax_aload, ax_istore, ax_astore, ax_iinc, ax_i2, ax_i2n, ax_l2, ax_lsh, ax_ii, ax_il, ax_li, ax_pop, ax_dup, ax_dup2, ax_if, ax_cmp, ax_acmp, ax_goto, ax_getI, ax_getR, ax_putI, ax_putR, ax_gets, ax_getsT, ax_aldI, ax_aldR, ax_astI, ax_astR, ax_alen, ax_ret, ax_aret, ax_vret, am_st, am_kl, List.getElem?_cons_zero, List.getElem?_cons_succ, List.set_cons_zero, List.set_cons_succ, Value.category, true_and, and_true, if_true, if_false, reduceCtorEq, Bool.false_eq_true, false_implies, forall_const, Option.some.injEq, exists_eq_left', exists_eq_left, Sum.inl.injEq, Sum.inr.injEq, Prod.mk.injEq, nI_toInt, nI_clamp, am_ix_nI, am_ix_0, am_ix_1, am_ix_2, am_ix_3, am_n0, am_n1, am_n2, am_n3, am_n4, am_t0, am_t1, am_t2, am_t3, am_t4, am_tm1, am_nS, am_nP, am_nM, Int.ofNat_lt, Int.ofNat_le]
  refine am_callK [.ref pa, .ref (am_tk g 19)] [] (d' := 0) (lim' := (am_tp σ, am_us σ)) rfl (by omega) (Nat.le_refl _) (Nat.le_refl _) rfl (Nat.le_of_ble_eq_true rfl) (am_recv h.2.1) ?_
  refine c_ptake h (by decide) (fun q σ' h' hf' t1 u1 => ?_) (fun q _ _ => ?_)
  · rw [if_pos q] at hQ
    simp (disch := omega) only [ax_const, ax_iload, ax_lload, ax_aload, ax_istore, ax_astore, ax_iinc, ax_i2, ax_i2n, ax_l2, ax_lsh, ax_ii, ax_il, ax_li, ax_pop, ax_dup, ax_dup2, ax_if, ax_cmp, ax_acmp, ax_goto, ax_getI, ax_getR, ax_putI, ax_putR, ax_gets, ax_getsT, ax_aldI, ax_aldR, ax_astI, ax_astR, ax_alen, ax_ret, ax_aret, ax_vret, am_st, am_kl, List.getElem?_cons_zero, List.getElem?_cons_succ, List.set_cons_zero, List.set_cons_succ, Value.category, true_and, and_true, if_true, if_false, reduceCtorEq, Bool.false_eq_true, false_implies, forall_const, Option.some.injEq, exists_eq_left', exists_eq_left, Sum.inl.injEq, Sum.inr.injEq, Prod.mk.injEq, nI_toInt, nI_clamp, am_ix_nI, am_ix_0, am_ix_1, am_ix_2, am_ix_3, am_n0, am_n1, am_n2, am_n3, am_n4, am_t0, am_t1, am_t2, am_t3, am_t4, am_tm1, am_nS, am_nP, am_nM, Int.ofNat_lt, Int.ofNat_le, Option.toList_some, Option.toList_none, List.cons_append, List.nil_append, List.append_nil, o1]
    exact fun _ => ⟨t1, u1, hQ σ' h' hf'⟩
  · rw [if_neg q] at hQ
    simp (disch := omega) only [ax_const, ax_iload, ax_lload, ax_aload, ax_istore, ax_astore, ax_iinc, ax_i2, ax_i2n, ax_l2, ax_lsh, ax_ii, ax_il, ax_li, ax_pop, ax_dup, ax_dup2, ax_if, ax_cmp, ax_acmp, ax_goto, ax_getI, ax_getR, ax_putI, ax_putR, ax_gets, ax_getsT, ax_aldI, ax_aldR, ax_astI, ax_astR, ax_alen, ax_ret, ax_aret, ax_vret, am_st, am_kl, List.getElem?_cons_zero, List.getElem?_cons_succ, List.set_cons_zero, List.set_cons_succ, Value.category, true_and, and_true, if_true, if_false, reduceCtorEq, Bool.false_eq_true, false_implies, forall_const, Option.some.injEq, exists_eq_left', exists_eq_left, Sum.inl.injEq, Sum.inr.injEq, Prod.mk.injEq, nI_toInt, nI_clamp, am_ix_nI, am_ix_0, am_ix_1, am_ix_2, am_ix_3, am_n0, am_n1, am_n2, am_n3, am_n4, am_t0, am_t1, am_t2, am_t3, am_t4, am_tm1, am_nS, am_nP, am_nM, Int.ofNat_lt, Int.ofNat_le, Option.toList_some, Option.toList_none, List.cons_append, List.nil_append, List.append_nil]
    refine ⟨?_, fun z => absurd trivial z⟩
    refine am_callK [.ref pa, .ref (am_tk g 20)] [] (d' := 0) (lim' := (am_tp σ, am_us σ)) rfl (by omega) (Nat.le_refl _) (Nat.le_refl _) rfl (Nat.le_of_ble_eq_true rfl) (am_recv h.2.1) ?_
    refine c_pneed h (by decide) (fun σ' h' hf' t1 u1 => ?_)
    simp (disch := omega) only [ax_const, ax_iload, ax_lload, ax_aload, ax_istore, ax_astore, ax_iinc, ax_i2, ax_i2n, ax_l2, ax_lsh, ax_ii, ax_il, ax_li, ax_pop, ax_dup, ax_dup2, ax_if, ax_cmp, ax_acmp, ax_goto, ax_getI, ax_getR, ax_putI, ax_putR, ax_gets, ax_getsT, ax_aldI, ax_aldR, ax_astI, ax_astR, ax_alen, ax_ret, ax_aret, ax_vret, am_st, am_kl, List.getElem?_cons_zero, List.getElem?_cons_succ, List.set_cons_zero, List.set_cons_succ, Value.category, true_and, and_true, if_true, if_false, reduceCtorEq, Bool.false_eq_true, false_implies, forall_const, Option.some.injEq, exists_eq_left', exists_eq_left, Sum.inl.injEq, Sum.inr.injEq, Prod.mk.injEq, nI_toInt, nI_clamp, am_ix_nI, am_ix_0, am_ix_1, am_ix_2, am_ix_3, am_n0, am_n1, am_n2, am_n3, am_n4, am_t0, am_t1, am_t2, am_t3, am_t4, am_tm1, am_nS, am_nP, am_nM, Int.ofNat_lt, Int.ofNat_le, Option.toList_some, Option.toList_none, List.cons_append, List.nil_append, List.append_nil]
    exact ⟨t1, u1, hQ σ' h' hf'⟩
theorem c_pnest {g : am_G} {l : Launch} {σ : am_S} {pa j n : Nat} {ts : List (Nat × Int32)} {k : Nat → Nat} {ss : Nat → List (Nat × Int32)} {m : xp_M} {Q : Option Value → am_S → Prop} (h : xp_J g σ pa ts k ss j m) (hn : n ≤ 6) (hQ0 : n = 0 → ∀ σ', xp_J g σ' pa ts k ss j (xp_bad m) → am_fm (fun b => b = pa) σ σ' → Q (some (.int 0)) σ') (hQ1 : 0 < n → Q (some (.int 1)) σ) : am_C g l mX1_mayNest 0 (am_tp σ, am_us σ) [.ref pa, .int (nI (6 - n))] σ Q := by
  have t5 : Int32.toInt 5 = 5 := rfl
  refine am_C.go [some (.ref pa), some (.int (nI (6 - n)))] (by decide +kernel) (Nat.le_of_ble_eq_true rfl) rfl (kX1_mayNest_0 ?_)
  simp (disch := omega) only [ax_const, ax_iload, ax_lload, ax_aload, ax_istore, ax_astore, ax_iinc, ax_i2, ax_i2n, ax_l2, ax_lsh, ax_ii, ax_il, ax_li, ax_pop, ax_dup, ax_dup2, ax_if, ax_cmp, ax_acmp, ax_goto, ax_getI, ax_getR, ax_putI, ax_putR, ax_gets, ax_getsT, ax_aldI, ax_aldR, ax_astI, ax_astR, ax_alen, ax_ret, ax_aret, ax_vret, am_st, am_kl, List.getElem?_cons_zero, List.getElem?_cons_succ, List.set_cons_zero, List.set_cons_succ, Value.category, true_and, and_true, if_true, if_false, reduceCtorEq, Bool.false_eq_true, false_implies, forall_const, Option.some.injEq, exists_eq_left', exists_eq_left, Sum.inl.injEq, Sum.inr.injEq, Prod.mk.injEq, nI_toInt, nI_clamp, am_ix_nI, am_ix_0, am_ix_1, am_ix_2, am_ix_3, am_n0, am_n1, am_n2, am_n3, am_n4, am_t0, am_t1, am_t2, am_t3, am_t4, am_tm1, am_nS, am_nP, am_nM, Int.ofNat_lt, Int.ofNat_le, t5, h.2.1]
  refine ⟨fun q => ?_, fun q => ?_⟩
  · refine ⟨by simp, kX1_mayNest_10 ?_⟩
    simp (disch := omega) only [ax_const, ax_iload, ax_lload, ax_aload, ax_istore, ax_astore, ax_iinc, ax_i2, ax_i2n, ax_l2, ax_lsh, ax_ii, ax_il, ax_li, ax_pop, ax_dup, ax_dup2, ax_if, ax_cmp, ax_acmp, ax_goto, ax_getI, ax_getR, ax_putI, ax_putR, ax_gets, ax_getsT, ax_aldI, ax_aldR, ax_astI, ax_astR, ax_alen, ax_ret, ax_aret, ax_vret, am_st, am_kl, List.getElem?_cons_zero, List.getElem?_cons_succ, List.set_cons_zero, List.set_cons_succ, Value.category, true_and, and_true, if_true, if_false, reduceCtorEq, Bool.false_eq_true, false_implies, forall_const, Option.some.injEq, exists_eq_left', exists_eq_left, Sum.inl.injEq, Sum.inr.injEq, Prod.mk.injEq, nI_toInt, nI_clamp, am_ix_nI, am_ix_0, am_ix_1, am_ix_2, am_ix_3, am_n0, am_n1, am_n2, am_n3, am_n4, am_t0, am_t1, am_t2, am_t3, am_t4, am_tm1, am_nS, am_nP, am_nM, Int.ofNat_lt, Int.ofNat_le, am_sh_wi, am_sh_wr, am_r_wi, am_i_wr, am_tp_wi, am_tp_wr, am_us_wi, am_us_wr, am_i_wi, am_r_wr, t5]
    exact ⟨fun _ => ⟨by simp, hQ0 (by omega) _ h.bad (am_fm.rf.wi rfl)⟩, fun z => by omega⟩
  · refine kX1_mayNest_10 ?_
    simp (disch := omega) only [ax_const, ax_iload, ax_lload, ax_aload, ax_istore, ax_astore, ax_iinc, ax_i2, ax_i2n, ax_l2, ax_lsh, ax_ii, ax_il, ax_li, ax_pop, ax_dup, ax_dup2, ax_if, ax_cmp, ax_acmp, ax_goto, ax_getI, ax_getR, ax_putI, ax_putR, ax_gets, ax_getsT, ax_aldI, ax_aldR, ax_astI, ax_astR, ax_alen, ax_ret, ax_aret, ax_vret, am_st, am_kl, List.getElem?_cons_zero, List.getElem?_cons_succ, List.set_cons_zero, List.set_cons_succ, Value.category, true_and, and_true, if_true, if_false, reduceCtorEq, Bool.false_eq_true, false_implies, forall_const, Option.some.injEq, exists_eq_left', exists_eq_left, Sum.inl.injEq, Sum.inr.injEq, Prod.mk.injEq, nI_toInt, nI_clamp, am_ix_nI, am_ix_0, am_ix_1, am_ix_2, am_ix_3, am_n0, am_n1, am_n2, am_n3, am_n4, am_t0, am_t1, am_t2, am_t3, am_t4, am_tm1, am_nS, am_nP, am_nM, Int.ofNat_lt, Int.ofNat_le, t5]
    exact ⟨fun z => by omega, fun _ => ⟨by simp, hQ1 (by omega)⟩⟩
theorem c_psign {g : am_G} {l : Launch} {σ : am_S} {t : Nat} {Q : Option Value → am_S → Prop} (hK : xt_K g σ) (ht : t < 37) (hQ : Q (some (.int (if (t == 27 || t == 28) = true then 1 else 0))) σ) : am_C g l mX1_isSign 0 (am_tp σ, am_us σ) [.ref (am_tk g t)] σ Q := by
  refine am_C.go [some (.ref (am_tk g t))] (by decide +kernel) (Nat.le_of_ble_eq_true rfl) rfl (kX1_isSign_0 ?_)
  simp (disch := omega) only [ax_const, ax_iload, ax_lload, ax_aload, ax_istore, ax_astore, ax_iinc, ax_i2, ax_i2n, ax_l2, ax_lsh, ax_ii, ax_il, ax_li, ax_pop, ax_dup, ax_dup2, ax_if, ax_cmp, ax_acmp, ax_goto, ax_getI, ax_getR, ax_putI, ax_putR, ax_gets, ax_getsT, ax_aldI, ax_aldR, ax_astI, ax_astR, ax_alen, ax_ret, ax_aret, ax_vret, am_st, am_kl, List.getElem?_cons_zero, List.getElem?_cons_succ, List.set_cons_zero, List.set_cons_succ, Value.category, true_and, and_true, if_true, if_false, reduceCtorEq, Bool.false_eq_true, false_implies, forall_const, Option.some.injEq, exists_eq_left', exists_eq_left, Sum.inl.injEq, Sum.inr.injEq, Prod.mk.injEq, nI_toInt, nI_clamp, am_ix_nI, am_ix_0, am_ix_1, am_ix_2, am_ix_3, am_n0, am_n1, am_n2, am_n3, am_n4, am_t0, am_t1, am_t2, am_t3, am_t4, am_tm1, am_nS, am_nP, am_nM, Int.ofNat_lt, Int.ofNat_le, hK.inj ht (show 27 < 37 by decide), hK.inj ht (show 28 < 37 by decide)]
  refine ⟨fun q => ⟨by simp, ?_⟩, fun q => ⟨fun q2 => ⟨by simp, ?_⟩, fun q2 => ⟨by simp, ?_⟩⟩⟩
  · rwa [if_pos (by rw [q]; rfl)] at hQ
  · rwa [if_pos (by rw [q2]; rfl)] at hQ
  · rwa [if_neg (by simp [q, q2])] at hQ
theorem xt_col_ne {t : Nat} : (xt_col t = -1 ↔ ¬ (15 ≤ t ∧ t ≤ 18)) ∧ (15 ≤ t ∧ t ≤ 18 → xt_col t = nI (t - 15)) := by
  unfold xt_col
  by_cases h1 : t = 15
  · subst h1; exact ⟨⟨fun q => absurd q (by decide), fun q => absurd ⟨by decide, by decide⟩ q⟩, fun _ => rfl⟩
  · by_cases h2 : t = 16
    · subst h2; exact ⟨⟨fun q => absurd q (by decide), fun q => absurd ⟨by decide, by decide⟩ q⟩, fun _ => rfl⟩
    · by_cases h3 : t = 17
      · subst h3; exact ⟨⟨fun q => absurd q (by decide), fun q => absurd ⟨by decide, by decide⟩ q⟩, fun _ => rfl⟩
      · by_cases h4 : t = 18
        · subst h4; exact ⟨⟨fun q => absurd q (by decide), fun q => absurd ⟨by decide, by decide⟩ q⟩, fun _ => rfl⟩
        · rw [if_neg h1, if_neg h2, if_neg h3, if_neg h4]
          exact ⟨⟨fun _ => by omega, fun _ => rfl⟩, fun q => by omega⟩
/-- where the reading of code j writes -/
def xp_Q (pa j b : Nat) : Prop := b = pa ∨ b = pa + 1 + 14 ∨ (xs_ca (pa + 1) j ≤ b ∧ b < xs_ca (pa + 1) j + 3)
theorem xp_col2 {g : am_G} {l : Launch} {σ : am_S} {pa j tb d tp us : Nat} {ts : List (Nat × Int32)} {k : Nat → Nat} {ss : Nat → List (Nat × Int32)} {m : xp_M} {z : Option Value} {Q : Option Value → am_S → Prop} (hd : 2 ≤ d) (h : xp_J g σ pa ts k ss j m) (hj : j < 6) (hl : m.2.2.1.length < 160) (htb : tb < 3) (h1 : am_tp σ = tp) (h2 : am_us σ = us) (hQ : ∀ σ', xp_J g σ' pa ts k ss j (xp_cl2 ts tb m) → am_fm (xp_Q pa j) σ σ' → Q none σ') :
    am_W g l mX1_readColumn d (tp, us) Q 34 [some (.ref pa), some (.ref (xs_ca (pa + 1) j)), some (.int (nI tb)), z] [] σ := by
  have h0 := h
  obtain ⟨b1, b2, b3, b4, b5⟩ := h.hd
  obtain ⟨g1, g2, g3, g4, g5, g6, g7, g8, g9, g10, g11, g12, g13⟩ := h
  obtain ⟨k1, k2, k3, k4⟩ := g1.1 _ b1
  have hca := xs_ca_in (pa + 1) j hj
  have hcne : ¬ pa + 1 = pa := by omega
  refine kX1_readColumn_34 ?_
  simp (disch := omega) only [ax_const, ax_iload, ax_lload, ax_aload, ax_istore, ax_astore, ax_iinc, ax_i2, ax_i2n, ax_l2, ax_lsh, ax_ii, ax_il, ax_li, ax_pop, ax_dup, ax_dup2, ax_if, ax_cmp, ax_acmp, ax_goto, ax_getI, ax_getR, ax_putI, ax_putR, ax_gets, ax_getsT, ax_aldI, ax_aldR, ax_astI, ax_astR, ax_alen, ax_ret, ax_aret, ax_vret, am_st, am_kl, List.getElem?_cons_zero, List.getElem?_cons_succ, List.set_cons_zero, List.set_cons_succ, Value.category, true_and, and_true, if_true, if_false, reduceCtorEq, Bool.false_eq_true, false_implies, forall_const, Option.some.injEq, exists_eq_left', exists_eq_left, Sum.inl.injEq, Sum.inr.injEq, Prod.mk.injEq, nI_toInt, nI_clamp, am_ix_nI, am_ix_0, am_ix_1, am_ix_2, am_ix_3, am_n0, am_n1, am_n2, am_n3, am_n4, am_t0, am_t1, am_t2, am_t3, am_t4, am_tm1, am_nS, am_nP, am_nM, Int.ofNat_lt, Int.ofNat_le]
  refine am_callK [.ref pa] [] (d' := 0) (lim' := (am_tp σ, am_us σ)) rfl (by omega) (by rw [h1]; exact Nat.le_refl _) (by rw [h2]; exact Nat.le_refl _) rfl (by decide) (am_recv g2) ?_
  refine c_pnext h0 (fun _ _ => ?_)
  unfold xp_cl2 at hQ
  simp (disch := omega) only [ax_const, ax_iload, ax_lload, ax_aload, ax_istore, ax_astore, ax_iinc, ax_i2, ax_i2n, ax_l2, ax_lsh, ax_ii, ax_il, ax_li, ax_pop, ax_dup, ax_dup2, ax_if, ax_cmp, ax_acmp, ax_goto, ax_getI, ax_getR, ax_putI, ax_putR, ax_gets, ax_getsT, ax_aldI, ax_aldR, ax_astI, ax_astR, ax_alen, ax_ret, ax_aret, ax_vret, am_st, am_kl, List.getElem?_cons_zero, List.getElem?_cons_succ, List.set_cons_zero, List.set_cons_succ, Value.category, true_and, and_true, if_true, if_false, reduceCtorEq, Bool.false_eq_true, false_implies, forall_const, Option.some.injEq, exists_eq_left', exists_eq_left, Sum.inl.injEq, Sum.inr.injEq, Prod.mk.injEq, nI_toInt, nI_clamp, am_ix_nI, am_ix_0, am_ix_1, am_ix_2, am_ix_3, am_n0, am_n1, am_n2, am_n3, am_n4, am_t0, am_t1, am_t2, am_t3, am_t4, am_tm1, am_nS, am_nP, am_nM, Int.ofNat_lt, Int.ofNat_le, Option.toList_some, Option.toList_none, List.cons_append, List.nil_append, List.append_nil, am_sh_wi, am_sh_wr, am_r_wi, am_i_wr, am_tp_wi, am_tp_wr, am_us_wi, am_us_wr, am_i_wi, am_r_wr, k1, k3, g2, g3, g7, g9.1, g9.2.2.2.2.2.1, xt_col_ne.1]
  refine ⟨fun q => ⟨by simp, h1, h2, ?_⟩, fun q => ?_⟩
  · rw [if_neg q] at hQ
    exact hQ _ h0.bad (am_fm.rf.wi (Or.inl rfl))
  · have q : 15 ≤ xp_hd ts m.1 ∧ xp_hd ts m.1 ≤ 18 := Classical.not_not.mp q
    rw [if_pos q] at hQ
    have hc4 := xt_col_ne.2 q
    have hlt := xp_hd_lt (ts := ts) (a := m.1) rfl (by omega)
    have g914 := g9.2.2.2.2.2.2.2.2.2.1
    have e1 : vp_nar .boolean 1 = 1 := rfl
    have e4 : nI tb * 4 + xt_col (xp_hd ts m.1) = nI (tb * 4 + (xp_hd ts m.1 - 15)) := by
      rw [hc4, show (4 : Int32) = nI 4 from rfl, pk_mul, nI_add]
    rw [e1, e4]
    have hJ := (h0.adv hlt).mark (t := tb)
    have hf2 : am_fm (xp_Q pa j) σ (am_wi (am_wi σ pa 2 (nI (m.1 + 1))) (pa + 1 + 14) tb 1) := (am_fm.rf.wi (Or.inl rfl)).wi (Or.inr (Or.inl rfl))
    refine ⟨3, g914, htb, ?_⟩
    refine am_callK [.ref (xs_ca (pa + 1) j), .ref (am_tk g 34), .int (nI (tb * 4 + (xp_hd ts m.1 - 15)))] [] (d' := 1) (lim' := (am_tp σ, am_us σ)) rfl (by omega) (by rw [h1]; exact Nat.le_refl _) (by rw [h2]; exact Nat.le_refl _) rfl (by decide) (am_recv (hJ.code hj).1) ?_
    refine c_kput hJ.1.1 (hJ.code hj) (by omega) (by decide) hl (fun σ' hc' hf' t1 u1 => ?_)
    simp (disch := omega) only [ax_const, ax_iload, ax_lload, ax_aload, ax_istore, ax_astore, ax_iinc, ax_i2, ax_i2n, ax_l2, ax_lsh, ax_ii, ax_il, ax_li, ax_pop, ax_dup, ax_dup2, ax_if, ax_cmp, ax_acmp, ax_goto, ax_getI, ax_getR, ax_putI, ax_putR, ax_gets, ax_getsT, ax_aldI, ax_aldR, ax_astI, ax_astR, ax_alen, ax_ret, ax_aret, ax_vret, am_st, am_kl, List.getElem?_cons_zero, List.getElem?_cons_succ, List.set_cons_zero, List.set_cons_succ, Value.category, true_and, and_true, if_true, if_false, reduceCtorEq, Bool.false_eq_true, false_implies, forall_const, Option.some.injEq, exists_eq_left', exists_eq_left, Sum.inl.injEq, Sum.inr.injEq, Prod.mk.injEq, nI_toInt, nI_clamp, am_ix_nI, am_ix_0, am_ix_1, am_ix_2, am_ix_3, am_n0, am_n1, am_n2, am_n3, am_n4, am_t0, am_t1, am_t2, am_t3, am_t4, am_tm1, am_nS, am_nP, am_nM, Int.ofNat_lt, Int.ofNat_le, Option.toList_some, Option.toList_none, List.cons_append, List.nil_append, List.append_nil]
    exact ⟨t1.trans h1, u1.trans h2, hQ σ' (hJ.app hj hc' hf') (hf2.tr (hf'.mono (fun b x => Or.inr (Or.inr x))))⟩
theorem c_pcol {g : am_G} {l : Launch} {σ : am_S} {pa j : Nat} {ts : List (Nat × Int32)} {k : Nat → Nat} {ss : Nat → List (Nat × Int32)} {m : xp_M} {Q : Option Value → am_S → Prop} (h : xp_J g σ pa ts k ss j m) (hj : j < 6) (hl : m.2.2.1.length < 160) (hQ : ∀ σ', xp_J g σ' pa ts k ss j (xp_col ts m) → am_fm (xp_Q pa j) σ σ' → Q none σ') : am_C g l mX1_readColumn 2 (am_tp σ, am_us σ) [.ref pa, .ref (xs_ca (pa + 1) j)] σ Q := by
  have hb := h.hd
  have j19 := h.1.1.inj hb.1 (show 19 < 37 by decide)
  have j20 := h.1.1.inj hb.1 (show 20 < 37 by decide)
  have hctb := xp_ctb_lt ts m
  unfold xp_col at hQ
  have main : ∀ (σ1 : am_S) (t1 : Nat) (m1 : xp_M) (z : Option Value), xp_ctb ts m = (t1, m1) → xp_J g σ1 pa ts k ss j m1 → m1.2.2.1 = m.2.2.1 → am_fm (fun b => b = pa) σ σ1 → am_W g l mX1_readColumn 2 (am_tp σ, am_us σ) Q 34 [some (.ref pa), some (.ref (xs_ca (pa + 1) j)), some (.int (nI t1)), z] [] σ1 := by
    intro σ1 t1 m1 z e1 hJ1 hm1 hf1
    rw [e1] at hQ hctb
    exact xp_col2 (Nat.le_refl _) hJ1 hj (by rw [hm1]; exact hl) hctb hf1.2.1 hf1.2.2.1 (fun σ' x y => hQ σ' x ((hf1.mono (fun b q => Or.inl q)).tr y))
  have m22 : xp_hd ts m.1 = 19 ∨ xp_hd ts m.1 = 20 → am_W g l mX1_readColumn 2 (am_tp σ, am_us σ) Q 22 [some (.ref pa), some (.ref (xs_ca (pa + 1) j)), some (.int 2), none] [] σ := by
    intro q
    refine kX1_readColumn_22 ?_
    simp (disch := omega) only [ax_const, ax_iload, ax_lload, ax_aload, ax_istore, ax_astore, ax_iinc, ax_i2, ax_i2n, ax_l2, ax_lsh, ax_ii, ax_il, ax_li, ax_pop, ax_dup, ax_dup2, ax_if, ax_cmp, ax_acmp, ax_goto, ax_getI, ax_getR, ax_putI, ax_putR, ax_gets, ax_getsT, ax_aldI, ax_aldR, ax_astI, ax_astR, ax_alen, ax_ret, ax_aret, ax_vret, am_st, am_kl, List.getElem?_cons_zero, List.getElem?_cons_succ, List.set_cons_zero, List.set_cons_succ, Value.category, true_and, and_true, if_true, if_false, reduceCtorEq, Bool.false_eq_true, false_implies, forall_const, Option.some.injEq, exists_eq_left', exists_eq_left, Sum.inl.injEq, Sum.inr.injEq, Prod.mk.injEq, nI_toInt, nI_clamp, am_ix_nI, am_ix_0, am_ix_1, am_ix_2, am_ix_3, am_n0, am_n1, am_n2, am_n3, am_n4, am_t0, am_t1, am_t2, am_t3, am_t4, am_tm1, am_nS, am_nP, am_nM, Int.ofNat_lt, Int.ofNat_le]
    refine am_callK [.ref pa] [] (d' := 1) (lim' := (am_tp σ, am_us σ)) rfl (by omega) (Nat.le_refl _) (Nat.le_refl _) rfl (Nat.le_of_ble_eq_true rfl) (am_recv h.2.1) ?_
    refine c_ptable h (fun σ1 hJ1 hf1 t1 u1 => ?_)
    simp (disch := omega) only [ax_const, ax_iload, ax_lload, ax_aload, ax_istore, ax_astore, ax_iinc, ax_i2, ax_i2n, ax_l2, ax_lsh, ax_ii, ax_il, ax_li, ax_pop, ax_dup, ax_dup2, ax_if, ax_cmp, ax_acmp, ax_goto, ax_getI, ax_getR, ax_putI, ax_putR, ax_gets, ax_getsT, ax_aldI, ax_aldR, ax_astI, ax_astR, ax_alen, ax_ret, ax_aret, ax_vret, am_st, am_kl, List.getElem?_cons_zero, List.getElem?_cons_succ, List.set_cons_zero, List.set_cons_succ, Value.category, true_and, and_true, if_true, if_false, reduceCtorEq, Bool.false_eq_true, false_implies, forall_const, Option.some.injEq, exists_eq_left', exists_eq_left, Sum.inl.injEq, Sum.inr.injEq, Prod.mk.injEq, nI_toInt, nI_clamp, am_ix_nI, am_ix_0, am_ix_1, am_ix_2, am_ix_3, am_n0, am_n1, am_n2, am_n3, am_n4, am_t0, am_t1, am_t2, am_t3, am_t4, am_tm1, am_nS, am_nP, am_nM, Int.ofNat_lt, Int.ofNat_le, Option.toList_some, Option.toList_none, List.cons_append, List.nil_append, List.append_nil]
    refine am_callK [.ref pa, .ref (am_tk g 21)] [] (d' := 0) (lim' := (am_tp σ1, am_us σ1)) rfl (by omega) (by rw [t1]; exact Nat.le_refl _) (by rw [u1]; exact Nat.le_refl _) rfl (by decide) (am_recv hJ1.2.1) ?_
    refine c_pneed hJ1 (by decide) (fun σ2 hJ2 hf2 t2 u2 => ?_)
    simp (disch := omega) only [Option.toList_some, Option.toList_none, List.cons_append, List.nil_append, List.append_nil, Option.toList_none, List.nil_append]
    refine main σ2 _ _ none (by unfold xp_ctb; rw [if_pos q]) hJ2 ?_ (hf1.tr hf2)
    unfold xp_tbl xp_need
    split <;> split <;> first | rfl | (split <;> rfl)
  refine am_C.go [some (.ref pa), some (.ref (xs_ca (pa + 1) j)), none, none] (by decide +kernel) (Nat.le_of_ble_eq_true rfl) rfl (kX1_readColumn_0 ?_)
  simp (disch := omega) only [ax_const, ax_iload, ax_lload, ax_aload, ax_istore, ax_astore, ax_iinc, ax_i2, ax_i2n, ax_l2, ax_lsh, ax_ii, ax_il, ax_li, ax_pop, ax_dup, ax_dup2, ax_if, ax_cmp, ax_acmp, ax_goto, ax_getI, ax_getR, ax_putI, ax_putR, ax_gets, ax_getsT, ax_aldI, ax_aldR, ax_astI, ax_astR, ax_alen, ax_ret, ax_aret, ax_vret, am_st, am_kl, List.getElem?_cons_zero, List.getElem?_cons_succ, List.set_cons_zero, List.set_cons_succ, Value.category, true_and, and_true, if_true, if_false, reduceCtorEq, Bool.false_eq_true, false_implies, forall_const, Option.some.injEq, exists_eq_left', exists_eq_left, Sum.inl.injEq, Sum.inr.injEq, Prod.mk.injEq, nI_toInt, nI_clamp, am_ix_nI, am_ix_0, am_ix_1, am_ix_2, am_ix_3, am_n0, am_n1, am_n2, am_n3, am_n4, am_t0, am_t1, am_t2, am_t3, am_t4, am_tm1, am_nS, am_nP, am_nM, Int.ofNat_lt, Int.ofNat_le]
  refine am_callK [.ref pa] [] (d' := 0) (lim' := (am_tp σ, am_us σ)) rfl (by omega) (Nat.le_refl _) (Nat.le_refl _) rfl (Nat.le_of_ble_eq_true rfl) (am_recv h.2.1) ?_
  refine c_pnext h (fun _ _ => ?_)
  simp (disch := omega) only [ax_const, ax_iload, ax_lload, ax_aload, ax_istore, ax_astore, ax_iinc, ax_i2, ax_i2n, ax_l2, ax_lsh, ax_ii, ax_il, ax_li, ax_pop, ax_dup, ax_dup2, ax_if, ax_cmp, ax_acmp, ax_goto, ax_getI, ax_getR, ax_putI, ax_putR, ax_gets, ax_getsT, ax_aldI, ax_aldR, ax_astI, ax_astR, ax_alen, ax_ret, ax_aret, ax_vret, am_st, am_kl, List.getElem?_cons_zero, List.getElem?_cons_succ, List.set_cons_zero, List.set_cons_succ, Value.category, true_and, and_true, if_true, if_false, reduceCtorEq, Bool.false_eq_true, false_implies, forall_const, Option.some.injEq, exists_eq_left', exists_eq_left, Sum.inl.injEq, Sum.inr.injEq, Prod.mk.injEq, nI_toInt, nI_clamp, am_ix_nI, am_ix_0, am_ix_1, am_ix_2, am_ix_3, am_n0, am_n1, am_n2, am_n3, am_n4, am_t0, am_t1, am_t2, am_t3, am_t4, am_tm1, am_nS, am_nP, am_nM, Int.ofNat_lt, Int.ofNat_le, Option.toList_some, Option.toList_none, List.cons_append, List.nil_append, List.append_nil, j19]
  refine ⟨fun q => m22 (Or.inl q), fun q => ?_⟩
  refine am_callK [.ref pa] [] (d' := 0) (lim' := (am_tp σ, am_us σ)) rfl (by omega) (Nat.le_refl _) (Nat.le_refl _) rfl (Nat.le_of_ble_eq_true rfl) (am_recv h.2.1) ?_
  refine c_pnext h (fun _ _ => ?_)
  simp (disch := omega) only [ax_const, ax_iload, ax_lload, ax_aload, ax_istore, ax_astore, ax_iinc, ax_i2, ax_i2n, ax_l2, ax_lsh, ax_ii, ax_il, ax_li, ax_pop, ax_dup, ax_dup2, ax_if, ax_cmp, ax_acmp, ax_goto, ax_getI, ax_getR, ax_putI, ax_putR, ax_gets, ax_getsT, ax_aldI, ax_aldR, ax_astI, ax_astR, ax_alen, ax_ret, ax_aret, ax_vret, am_st, am_kl, List.getElem?_cons_zero, List.getElem?_cons_succ, List.set_cons_zero, List.set_cons_succ, Value.category, true_and, and_true, if_true, if_false, reduceCtorEq, Bool.false_eq_true, false_implies, forall_const, Option.some.injEq, exists_eq_left', exists_eq_left, Sum.inl.injEq, Sum.inr.injEq, Prod.mk.injEq, nI_toInt, nI_clamp, am_ix_nI, am_ix_0, am_ix_1, am_ix_2, am_ix_3, am_n0, am_n1, am_n2, am_n3, am_n4, am_t0, am_t1, am_t2, am_t3, am_t4, am_tm1, am_nS, am_nP, am_nM, Int.ofNat_lt, Int.ofNat_le, Option.toList_some, Option.toList_none, List.cons_append, List.nil_append, List.append_nil, j20]
  exact ⟨fun q2 => m22 (Or.inr q2), fun q2 => main σ 2 m none (by unfold xp_ctb; rw [if_neg (by omega)]) h rfl .rf⟩
