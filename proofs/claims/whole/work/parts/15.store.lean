/-! ===== Store ===== -/
def xo_ss (L : List xr_E) : Prop := L.Pairwise (fun a b => a.1.toInt < b.1.toInt)
theorem xr_add_end {L : List xr_E} {e : xr_E} (h : ∀ f, f ∈ L → f.1.toInt ≤ e.1.toInt) : xr_add L e = L ++ [e] := by
  have hp : ∀ n, n = L.length → xr_pos e.1 L n = n := by
    intro n hn
    cases n with
    | zero => rfl
    | succ n =>
      have hl : n < L.length := by omega
      have e1 : L.getD n (0, 0, 0, 0) = L[n] := by rw [List.getD_eq_getElem?_getD, List.getElem?_eq_getElem hl]; rfl
      have := h L[n] (List.getElem_mem hl)
      rw [xr_pos, e1, if_neg (by omega)]
  unfold xr_add xr_put
  rw [hp _ rfl, List.take_length, List.drop_length]
theorem xr_fold_ss : ∀ (T pre : List xr_E), xo_ss (pre ++ T) → T.foldl xr_add pre = pre ++ T
  | [], pre, _ => by simp
  | e :: t, pre, h => by
    have h1 := (List.pairwise_append.mp h).2.2
    rw [List.foldl_cons, xr_add_end (fun f hf => Int.le_of_lt (h1 f hf e (List.mem_cons_self ..))), xr_fold_ss t (pre ++ [e]) (by simpa using h)]
    simp
def xo_H (σ : am_S) (s : Nat) : Prop :=
  am_sh σ s = some (.inl 7) ∧ am_r σ s 1 = some (s + 1) ∧ am_r σ s 2 = some (s + 2) ∧ am_r σ s 5 = some (s + 3) ∧ am_r σ s 6 = some (s + 11) ∧ am_sh σ (s + 1) = some (.inr (6, 2)) ∧ am_sh σ (s + 2) = some (.inr (6, 2)) ∧ am_sh σ (s + 11) = some (.inr (0, 4)) ∧ ∀ t, t < 2 → am_r σ (s + 1) t = some (s + 12 + 16 * t) ∧ am_r σ (s + 2) t = some (s + 20 + 16 * t)
/-- store s of label lab: the committed rows C, the current ones U, the holder h, n records -/
def xo_S (σ : am_S) (s lab : Nat) (C U : Nat → List xr_E) (h : Int32) (n : Nat) : Prop :=
  xo_H σ s ∧ am_i σ s 0 = nI lab ∧ am_i σ s 3 = h ∧ am_i σ s 4 = nI n ∧ n ≤ 30 ∧ (∃ p L, xr_R σ (s + 3) 6 p L) ∧ ∀ t, t < 2 → (∃ p, xr_R σ (s + 12 + 16 * t) 6 p (C t)) ∧ (∃ p, xr_R σ (s + 20 + 16 * t) 6 p (U t)) ∧ xo_ss (C t) ∧ xo_ss (U t)
theorem xo_H.fm {P : Nat → Prop} {σ σ' : am_S} {s : Nat} (h : xo_H σ s) (hf : am_fm P σ σ') (h0 : ¬ P s) (h1 : ¬ P (s + 1)) (h2 : ¬ P (s + 2)) : xo_H σ' s := by
  unfold xo_H
  rw [hf.1, (hf.2.2.2 s h0).2, (hf.2.2.2 (s + 1) h1).2, (hf.2.2.2 (s + 2) h2).2]
  exact h
theorem xo_H.ir {σ σ' : am_S} {s : Nat} (h : xo_H σ s) (h1 : am_sh σ' = am_sh σ) (h2 : am_r σ' = am_r σ) : xo_H σ' s := by
  unfold xo_H
  rw [h1, h2]
  exact h
theorem xo_S.fm {P : Nat → Prop} {σ σ' : am_S} {s lab n : Nat} {C U : Nat → List xr_E} {hh : Int32} (h : xo_S σ s lab C U hh n) (hf : am_fm P σ σ') (hd : ∀ b, s ≤ b → b < s + 44 → ¬ P b) : xo_S σ' s lab C U hh n := by
  obtain ⟨h1, h2, h3, h4, h5, ⟨p, L, h6⟩, h7⟩ := h
  unfold xo_S
  rw [(hf.2.2.2 s (hd s (by omega) (by omega))).1]
  refine ⟨h1.fm hf (hd _ (by omega) (by omega)) (hd _ (by omega) (by omega)) (hd _ (by omega) (by omega)), h2, h3, h4, h5, ⟨p, L, h6.fm hf (fun b x y => hd b (by omega) (by omega))⟩, fun t ht => ?_⟩
  obtain ⟨⟨p1, g1⟩, ⟨p2, g2⟩, g3, g4⟩ := h7 t ht
  exact ⟨⟨p1, g1.fm hf (fun b x y => hd b (by omega) (by omega))⟩, ⟨p2, g2.fm hf (fun b x y => hd b (by omega) (by omega))⟩, g3, g4⟩
theorem xo_S.ext {σ : am_S} {s lab n : Nat} {C U C' U' : Nat → List xr_E} {hh : Int32} (h : xo_S σ s lab C U hh n) (hC : ∀ t, t < 2 → C t = C' t) (hU : ∀ t, t < 2 → U t = U' t) : xo_S σ s lab C' U' hh n := by
  obtain ⟨h1, h2, h3, h4, h5, h6, h7⟩ := h
  refine ⟨h1, h2, h3, h4, h5, h6, fun t ht => ?_⟩
  rw [← hC t ht, ← hU t ht]
  exact h7 t ht
theorem xo_S.setC {σ σ' : am_S} {s lab n t : Nat} {C U : Nat → List xr_E} {L : List xr_E} {hh : Int32} (h : xo_S σ s lab C U hh n) (ht : t < 2) (hR : ∃ p, xr_R σ' (s + 12 + 16 * t) 6 p L) (hL : xo_ss L) (hf : am_fm (fun b => s + 12 + 16 * t ≤ b ∧ b < s + 12 + 16 * t + 2 + 6) σ σ') : xo_S σ' s lab (fun j => if j = t then L else C j) U hh n := by
  obtain ⟨h1, h2, h3, h4, h5, ⟨p, Lb, h6⟩, h7⟩ := h
  unfold xo_S
  rw [(hf.2.2.2 s (by omega)).1]
  refine ⟨h1.fm hf (by omega) (by omega) (by omega), h2, h3, h4, h5, ⟨p, Lb, h6.fm hf (fun b x y => by omega)⟩, fun j hj => ?_⟩
  obtain ⟨⟨p1, g1⟩, ⟨p2, g2⟩, g3, g4⟩ := h7 j hj
  dsimp only
  refine ⟨?_, ⟨p2, g2.fm hf (fun b x y => by omega)⟩, ?_, g4⟩
  · by_cases e : j = t
    · rw [if_pos e, e]; exact hR
    · rw [if_neg e]; exact ⟨p1, g1.fm hf (fun b x y => by omega)⟩
  · split
    · exact hL
    · exact g3
theorem xo_S.setU {σ σ' : am_S} {s lab n t : Nat} {C U : Nat → List xr_E} {L : List xr_E} {hh : Int32} (h : xo_S σ s lab C U hh n) (ht : t < 2) (hR : ∃ p, xr_R σ' (s + 20 + 16 * t) 6 p L) (hL : xo_ss L) (hf : am_fm (fun b => s + 20 + 16 * t ≤ b ∧ b < s + 20 + 16 * t + 2 + 6) σ σ') : xo_S σ' s lab C (fun j => if j = t then L else U j) hh n := by
  obtain ⟨h1, h2, h3, h4, h5, ⟨p, Lb, h6⟩, h7⟩ := h
  unfold xo_S
  rw [(hf.2.2.2 s (by omega)).1]
  refine ⟨h1.fm hf (by omega) (by omega) (by omega), h2, h3, h4, h5, ⟨p, Lb, h6.fm hf (fun b x y => by omega)⟩, fun j hj => ?_⟩
  obtain ⟨⟨p1, g1⟩, ⟨p2, g2⟩, g3, g4⟩ := h7 j hj
  dsimp only
  refine ⟨⟨p1, g1.fm hf (fun b x y => by omega)⟩, ?_, g3, ?_⟩
  · by_cases e : j = t
    · rw [if_pos e, e]; exact hR
    · rw [if_neg e]; exact ⟨p2, g2.fm hf (fun b x y => by omega)⟩
  · split
    · exact hL
    · exact g4
/-- the store's own ints are set -/
theorem xo_S.hold {σ : am_S} {s lab n : Nat} {C U : Nat → List xr_E} {hh : Int32} (h : xo_S σ s lab C U hh n) (h' : Int32) : xo_S (am_wi σ s 3 h') s lab C U h' n := by
  have hf : am_fm (fun b => b = s) σ (am_wi σ s 3 h') := am_fm.rf.wi rfl
  obtain ⟨h1, h2, h3, h4, h5, ⟨p, Lb, h6⟩, h7⟩ := h
  refine ⟨h1, by rw [am_i_wi, if_neg (by omega)]; exact h2, by rw [am_i_wi, if_pos ⟨rfl, rfl⟩], by rw [am_i_wi, if_neg (by omega)]; exact h4, h5, ⟨p, Lb, h6.fm hf (fun b x y => by omega)⟩, fun j hj => ?_⟩
  obtain ⟨⟨p1, g1⟩, ⟨p2, g2⟩, g3, g4⟩ := h7 j hj
  exact ⟨⟨p1, g1.fm hf (fun b x y => by omega)⟩, ⟨p2, g2.fm hf (fun b x y => by omega)⟩, g3, g4⟩
theorem xo_S.recs {σ : am_S} {s lab n m : Nat} {C U : Nat → List xr_E} {hh : Int32} (h : xo_S σ s lab C U hh n) (hm : m ≤ 30) : xo_S (am_wi σ s 4 (nI m)) s lab C U hh m := by
  have hf : am_fm (fun b => b = s) σ (am_wi σ s 4 (nI m)) := am_fm.rf.wi rfl
  obtain ⟨h1, h2, h3, h4, h5, ⟨p, Lb, h6⟩, h7⟩ := h
  refine ⟨h1, by rw [am_i_wi, if_neg (by omega)]; exact h2, by rw [am_i_wi, if_neg (by omega)]; exact h3, by rw [am_i_wi, if_pos ⟨rfl, rfl⟩], hm, ⟨p, Lb, h6.fm hf (fun b x y => by omega)⟩, fun j hj => ?_⟩
  obtain ⟨⟨p1, g1⟩, ⟨p2, g2⟩, g3, g4⟩ := h7 j hj
  exact ⟨⟨p1, g1.fm hf (fun b x y => by omega)⟩, ⟨p2, g2.fm hf (fun b x y => by omega)⟩, g3, g4⟩
/-! withMark, recordsDue, hasRoomFor -/
def xo_mk (a : Nat) : Nat := if a = 0 then 0 else a + 1
theorem c_withMark {g : am_G} {l : Launch} {σ : am_S} {a : Nat} {Q : Option Value → am_S → Prop} (ha : a < 1000) (hQ : Q (some (.int (nI (xo_mk a)))) σ) : am_C g l mX7_withMark 0 (am_tp σ, am_us σ) [.int (nI a)] σ Q := by
  refine am_C.go [some (.int (nI a))] (by decide +kernel) (Nat.le_of_ble_eq_true rfl) rfl (kX7_withMark_0 ?_)
  have e : nI a = 0 ↔ a = 0 := nI_inj (b := 0) (by omega) (by omega)
  unfold xo_mk at hQ
  simp (disch := omega) only [ax_const, ax_iload, ax_lload, ax_aload, ax_istore, ax_astore, ax_iinc, ax_i2, ax_i2n, ax_l2, ax_lsh, ax_ii, ax_il, ax_li, ax_pop, ax_dup, ax_dup2, ax_if, ax_cmp, ax_acmp, ax_goto, ax_getI, ax_getR, ax_putI, ax_putR, ax_gets, ax_getsT, ax_aldI, ax_aldR, ax_astI, ax_astR, ax_alen, ax_ret, ax_aret, ax_vret, am_st, am_kl, List.getElem?_cons_zero, List.getElem?_cons_succ, List.set_cons_zero, List.set_cons_succ, Value.category, true_and, and_true, if_true, if_false, reduceCtorEq, Bool.false_eq_true, false_implies, forall_const, Option.some.injEq, exists_eq_left', exists_eq_left, Sum.inl.injEq, Sum.inr.injEq, Prod.mk.injEq, nI_toInt, nI_clamp, am_ix_nI, am_ix_0, am_ix_1, am_ix_2, am_ix_3, am_n0, am_n1, am_n2, am_n3, am_n4, am_t0, am_t1, am_t2, am_t3, am_t4, am_tm1, am_nS, am_nP, am_nM, Int.ofNat_lt, Int.ofNat_le, e]
  refine ⟨fun h => ?_, fun h => ?_⟩
  · rwa [if_pos h] at hQ
  · rwa [if_neg h] at hQ
def xo_df (C U : Nat → List xr_E) (t : Nat) : Nat := xr_sum (xr_dif (C t)) (U t) + xr_sum (xr_mis (U t)) (C t)
def xo_s (f : Nat → Nat) : Nat → Nat → Nat
  | 0, _ => 0
  | m + 1, t => f t + xo_s f m (t + 1)
def xo_due (C U : Nat → List xr_E) : Nat := xo_mk (xo_s (xo_df C U) 2 0)
theorem xr_mis_le (Ls : List xr_E) (e : xr_E) : xr_mis Ls e ≤ 1 := by
  unfold xr_mis
  split <;> omega
theorem xo_S.df {σ : am_S} {s lab n t : Nat} {C U : Nat → List xr_E} {hh : Int32} (h : xo_S σ s lab C U hh n) (ht : t < 2) : xo_df C U t ≤ 12 := by
  obtain ⟨⟨p1, g1⟩, ⟨p2, g2⟩, g3, g4⟩ := h.2.2.2.2.2.2 t ht
  have a1 := g1.2.2.2.1
  have a2 := g2.2.2.2.1
  have a3 := xr_sum_le (xr_dif (C t)) (xr_dif_le _) (U t)
  have a4 := xr_sum_le (xr_mis (U t)) (xr_mis_le _) (C t)
  unfold xo_df
  omega
theorem xo_due_loop {g : am_G} {l : Launch} {σ : am_S} {s lab n d : Nat} {C U : Nat → List xr_E} {hh : Int32} {Q : Option Value → am_S → Prop} (hd : 2 ≤ d) (H : xo_S σ s lab C U hh n) :
    ∀ (m t a : Nat), m + t = 2 → a ≤ 12 * t → Q (some (.int (nI (xo_mk (a + xo_s (xo_df C U) m t))))) σ → am_W g l mX7_recordsDue d (am_tp σ, am_us σ) Q 4 [some (.ref s), some (.int (nI a)), some (.int (nI t))] [] σ := by
  intro m
  obtain ⟨x1, x2, x3, x4, x5, x6, x7, x8, x9⟩ := H.1
  induction m with
  | zero =>
    intro t a hm ha hQ
    refine kX7_recordsDue_4 ?_
    simp (disch := omega) only [ax_const, ax_iload, ax_lload, ax_aload, ax_istore, ax_astore, ax_iinc, ax_i2, ax_i2n, ax_l2, ax_lsh, ax_ii, ax_il, ax_li, ax_pop, ax_dup, ax_dup2, ax_if, ax_cmp, ax_acmp, ax_goto, ax_getI, ax_getR, ax_putI, ax_putR, ax_gets, ax_getsT, ax_aldI, ax_aldR, ax_astI, ax_astR, ax_alen, ax_ret, ax_aret, ax_vret, am_st, am_kl, List.getElem?_cons_zero, List.getElem?_cons_succ, List.set_cons_zero, List.set_cons_succ, Value.category, true_and, and_true, if_true, if_false, reduceCtorEq, Bool.false_eq_true, false_implies, forall_const, Option.some.injEq, exists_eq_left', exists_eq_left, Sum.inl.injEq, Sum.inr.injEq, Prod.mk.injEq, nI_toInt, nI_clamp, am_ix_nI, am_ix_0, am_ix_1, am_ix_2, am_ix_3, am_n0, am_n1, am_n2, am_n3, am_n4, am_t0, am_t1, am_t2, am_t3, am_t4, am_tm1, am_nS, am_nP, am_nM, Int.ofNat_lt, Int.ofNat_le]
    refine ⟨fun h => by omega, fun _ => ?_⟩
    refine am_callK [.int (nI a)] [] (d' := 0) (lim' := (am_tp σ, am_us σ)) rfl (by omega) (Nat.le_refl _) (Nat.le_refl _) rfl (Nat.le_of_ble_eq_true rfl) am_stat ?_
    refine c_withMark (by omega) (fun _ _ => ?_)
    simp (disch := omega) only [ax_const, ax_iload, ax_lload, ax_aload, ax_istore, ax_astore, ax_iinc, ax_i2, ax_i2n, ax_l2, ax_lsh, ax_ii, ax_il, ax_li, ax_pop, ax_dup, ax_dup2, ax_if, ax_cmp, ax_acmp, ax_goto, ax_getI, ax_getR, ax_putI, ax_putR, ax_gets, ax_getsT, ax_aldI, ax_aldR, ax_astI, ax_astR, ax_alen, ax_ret, ax_aret, ax_vret, am_st, am_kl, List.getElem?_cons_zero, List.getElem?_cons_succ, List.set_cons_zero, List.set_cons_succ, Value.category, true_and, and_true, if_true, if_false, reduceCtorEq, Bool.false_eq_true, false_implies, forall_const, Option.some.injEq, exists_eq_left', exists_eq_left, Sum.inl.injEq, Sum.inr.injEq, Prod.mk.injEq, nI_toInt, nI_clamp, am_ix_nI, am_ix_0, am_ix_1, am_ix_2, am_ix_3, am_n0, am_n1, am_n2, am_n3, am_n4, am_t0, am_t1, am_t2, am_t3, am_t4, am_tm1, am_nS, am_nP, am_nM, Int.ofNat_lt, Int.ofNat_le, Option.toList_some, Option.toList_none, List.cons_append, List.nil_append, List.append_nil]
    exact hQ
  | succ m ih =>
    intro t a hm ha hQ
    obtain ⟨⟨p1, g1⟩, ⟨p2, g2⟩, g3, g4⟩ := H.2.2.2.2.2.2 t (by omega)
    obtain ⟨y1, y2⟩ := x9 t (by omega)
    have y3 := H.df (t := t) (by omega)
    refine kX7_recordsDue_4 ?_
    simp (disch := omega) only [ax_const, ax_iload, ax_lload, ax_aload, ax_istore, ax_astore, ax_iinc, ax_i2, ax_i2n, ax_l2, ax_lsh, ax_ii, ax_il, ax_li, ax_pop, ax_dup, ax_dup2, ax_if, ax_cmp, ax_acmp, ax_goto, ax_getI, ax_getR, ax_putI, ax_putR, ax_gets, ax_getsT, ax_aldI, ax_aldR, ax_astI, ax_astR, ax_alen, ax_ret, ax_aret, ax_vret, am_st, am_kl, List.getElem?_cons_zero, List.getElem?_cons_succ, List.set_cons_zero, List.set_cons_succ, Value.category, true_and, and_true, if_true, if_false, reduceCtorEq, Bool.false_eq_true, false_implies, forall_const, Option.some.injEq, exists_eq_left', exists_eq_left, Sum.inl.injEq, Sum.inr.injEq, Prod.mk.injEq, nI_toInt, nI_clamp, am_ix_nI, am_ix_0, am_ix_1, am_ix_2, am_ix_3, am_n0, am_n1, am_n2, am_n3, am_n4, am_t0, am_t1, am_t2, am_t3, am_t4, am_tm1, am_nS, am_nP, am_nM, Int.ofNat_lt, Int.ofNat_le, x1, x2, x3, x6, x7, y1, y2]
    refine ⟨fun _ => ?_, fun h => by omega⟩
    refine ⟨by omega, by omega, ?_⟩
    refine am_callK [.ref (s + 20 + 16 * t), .ref (s + 12 + 16 * t)] [.int (nI a)] (d' := 1) (lim' := (am_tp σ, am_us σ)) rfl (by omega) (Nat.le_refl _) (Nat.le_refl _) rfl (Nat.le_of_ble_eq_true rfl) (am_recv g2.1) ?_
    refine c_differences g2 g1 (fun _ _ => ?_)
    simp (disch := omega) only [ax_const, ax_iload, ax_lload, ax_aload, ax_istore, ax_astore, ax_iinc, ax_i2, ax_i2n, ax_l2, ax_lsh, ax_ii, ax_il, ax_li, ax_pop, ax_dup, ax_dup2, ax_if, ax_cmp, ax_acmp, ax_goto, ax_getI, ax_getR, ax_putI, ax_putR, ax_gets, ax_getsT, ax_aldI, ax_aldR, ax_astI, ax_astR, ax_alen, ax_ret, ax_aret, ax_vret, am_st, am_kl, List.getElem?_cons_zero, List.getElem?_cons_succ, List.set_cons_zero, List.set_cons_succ, Value.category, true_and, and_true, if_true, if_false, reduceCtorEq, Bool.false_eq_true, false_implies, forall_const, Option.some.injEq, exists_eq_left', exists_eq_left, Sum.inl.injEq, Sum.inr.injEq, Prod.mk.injEq, nI_toInt, nI_clamp, am_ix_nI, am_ix_0, am_ix_1, am_ix_2, am_ix_3, am_n0, am_n1, am_n2, am_n3, am_n4, am_t0, am_t1, am_t2, am_t3, am_t4, am_tm1, am_nS, am_nP, am_nM, Int.ofNat_lt, Int.ofNat_le, Option.toList_some, Option.toList_none, List.cons_append, List.nil_append, List.append_nil, nI_add]
    rw [xo_s, ← Nat.add_assoc] at hQ
    exact ih (t + 1) (a + xo_df C U t) (by omega) (by omega) hQ
theorem c_recordsDue {g : am_G} {l : Launch} {σ : am_S} {s lab n : Nat} {C U : Nat → List xr_E} {hh : Int32} {Q : Option Value → am_S → Prop} (H : xo_S σ s lab C U hh n) (hQ : Q (some (.int (nI (xo_due C U)))) σ) : am_C g l mX7_recordsDue 2 (am_tp σ, am_us σ) [.ref s] σ Q := by
  refine am_C.go [some (.ref s), none, none] (by decide +kernel) (Nat.le_of_ble_eq_true rfl) rfl (kX7_recordsDue_0 ?_)
  simp (disch := omega) only [ax_const, ax_iload, ax_lload, ax_aload, ax_istore, ax_astore, ax_iinc, ax_i2, ax_i2n, ax_l2, ax_lsh, ax_ii, ax_il, ax_li, ax_pop, ax_dup, ax_dup2, ax_if, ax_cmp, ax_acmp, ax_goto, ax_getI, ax_getR, ax_putI, ax_putR, ax_gets, ax_getsT, ax_aldI, ax_aldR, ax_astI, ax_astR, ax_alen, ax_ret, ax_aret, ax_vret, am_st, am_kl, List.getElem?_cons_zero, List.getElem?_cons_succ, List.set_cons_zero, List.set_cons_succ, Value.category, true_and, and_true, if_true, if_false, reduceCtorEq, Bool.false_eq_true, false_implies, forall_const, Option.some.injEq, exists_eq_left', exists_eq_left, Sum.inl.injEq, Sum.inr.injEq, Prod.mk.injEq, nI_toInt, nI_clamp, am_ix_nI, am_ix_0, am_ix_1, am_ix_2, am_ix_3, am_n0, am_n1, am_n2, am_n3, am_n4, am_t0, am_t1, am_t2, am_t3, am_t4, am_tm1, am_nS, am_nP, am_nM, Int.ofNat_lt, Int.ofNat_le]
  exact xo_due_loop (Nat.le_refl _) H 2 0 0 rfl (Nat.zero_le _) (by rw [Nat.zero_add]; exact hQ)
theorem xo_S.due {σ : am_S} {s lab n : Nat} {C U : Nat → List xr_E} {hh : Int32} (h : xo_S σ s lab C U hh n) : xo_due C U ≤ 25 := by
  have h0 := h.df (t := 0) (by omega)
  have h1 := h.df (t := 1) (by omega)
  show xo_mk (xo_df C U 0 + (xo_df C U 1 + 0)) ≤ 25
  unfold xo_mk
  split <;> omega
theorem c_hasRoomFor {g : am_G} {l : Launch} {σ : am_S} {s lab n m : Nat} {C U : Nat → List xr_E} {hh : Int32} {Q : Option Value → am_S → Prop} (H : xo_S σ s lab C U hh n) (hm : m < 1000) (hQ : Q (some (.int (if n + m ≤ 30 then 1 else 0))) σ) : am_C g l mX7_hasRoomFor 0 (am_tp σ, am_us σ) [.ref s, .int (nI m)] σ Q := by
  refine am_C.go [some (.ref s), some (.int (nI m))] (by decide +kernel) (Nat.le_of_ble_eq_true rfl) rfl (kX7_hasRoomFor_0 ?_)
  have h5 := H.2.2.2.2.1
  have t30 : Int32.toInt 30 = 30 := rfl
  simp (disch := omega) only [ax_const, ax_iload, ax_lload, ax_aload, ax_istore, ax_astore, ax_iinc, ax_i2, ax_i2n, ax_l2, ax_lsh, ax_ii, ax_il, ax_li, ax_pop, ax_dup, ax_dup2, ax_if, ax_cmp, ax_acmp, ax_goto, ax_getI, ax_getR, ax_putI, ax_putR, ax_gets, ax_getsT, ax_aldI, ax_aldR, ax_astI, ax_astR, ax_alen, ax_ret, ax_aret, ax_vret, am_st, am_kl, List.getElem?_cons_zero, List.getElem?_cons_succ, List.set_cons_zero, List.set_cons_succ, Value.category, true_and, and_true, if_true, if_false, reduceCtorEq, Bool.false_eq_true, false_implies, forall_const, Option.some.injEq, exists_eq_left', exists_eq_left, Sum.inl.injEq, Sum.inr.injEq, Prod.mk.injEq, nI_toInt, nI_clamp, am_ix_nI, am_ix_0, am_ix_1, am_ix_2, am_ix_3, am_n0, am_n1, am_n2, am_n3, am_n4, am_t0, am_t1, am_t2, am_t3, am_t4, am_tm1, am_nS, am_nP, am_nM, Int.ofNat_lt, Int.ofNat_le, H.1.1, H.2.2.2.1, nI_add, t30]
  refine ⟨fun h => ⟨by simp, ?_⟩, fun h => ⟨by simp, ?_⟩⟩
  · rwa [if_neg (by omega)] at hQ
  · rwa [if_pos (by omega)] at hQ
/-! keep -/
theorem xo_keep_loop {g : am_G} {l : Launch} {s lab n d tp us : Nat} {due : Int32} {U : Nat → List xr_E} {hh : Int32} {Q : Option Value → am_S → Prop} {σ0 : am_S} (hd : 4 ≤ d)
    (hQ : ∀ σ', xo_S σ' s lab U U (-1) n → am_fm (fun b => s ≤ b ∧ b < s + 44) σ0 σ' → Q (some (.int due)) σ') :
    ∀ (m t : Nat) (σ : am_S) (C : Nat → List xr_E), m + t = 2 → xo_S σ s lab C U hh n → (∀ j, j < t → C j = U j) → am_fm (fun b => s ≤ b ∧ b < s + 44) σ0 σ → am_tp σ = tp → am_us σ = us →
      am_W g l mX7_keep d (tp, us) Q 28 [some (.ref s), some (.int due), some (.int (nI t))] [] σ := by
  intro m
  induction m with
  | zero =>
    intro t σ C hm H hC hf h1 h2
    refine kX7_keep_28 ?_
    simp (disch := omega) only [ax_const, ax_iload, ax_lload, ax_aload, ax_istore, ax_astore, ax_iinc, ax_i2, ax_i2n, ax_l2, ax_lsh, ax_ii, ax_il, ax_li, ax_pop, ax_dup, ax_dup2, ax_if, ax_cmp, ax_acmp, ax_goto, ax_getI, ax_getR, ax_putI, ax_putR, ax_gets, ax_getsT, ax_aldI, ax_aldR, ax_astI, ax_astR, ax_alen, ax_ret, ax_aret, ax_vret, am_st, am_kl, List.getElem?_cons_zero, List.getElem?_cons_succ, List.set_cons_zero, List.set_cons_succ, Value.category, true_and, and_true, if_true, if_false, reduceCtorEq, Bool.false_eq_true, false_implies, forall_const, Option.some.injEq, exists_eq_left', exists_eq_left, Sum.inl.injEq, Sum.inr.injEq, Prod.mk.injEq, nI_toInt, nI_clamp, am_ix_nI, am_ix_0, am_ix_1, am_ix_2, am_ix_3, am_n0, am_n1, am_n2, am_n3, am_n4, am_t0, am_t1, am_t2, am_t3, am_t4, am_tm1, am_nS, am_nP, am_nM, Int.ofNat_lt, Int.ofNat_le, am_sh_wi, am_sh_wr, am_r_wi, am_i_wr, am_tp_wi, am_tp_wr, am_us_wi, am_us_wr, am_i_wi, am_r_wr, H.1.1]
    exact ⟨fun h => by omega, fun _ => ⟨h1, h2, hQ _ ((H.hold (-1)).ext (fun j hj => hC j (by omega)) (fun _ _ => rfl)) (hf.wi ⟨by omega, by omega⟩)⟩⟩
  | succ m ih =>
    intro t σ C hm H hC hf h1 h2
    obtain ⟨x1, x2, x3, x4, x5, x6, x7, x8, x9⟩ := H.1
    obtain ⟨⟨p1, g1⟩, ⟨p2, g2⟩, g3, g4⟩ := H.2.2.2.2.2.2 t (by omega)
    obtain ⟨y1, y2⟩ := x9 t (by omega)
    refine kX7_keep_28 ?_
    simp (disch := omega) only [ax_const, ax_iload, ax_lload, ax_aload, ax_istore, ax_astore, ax_iinc, ax_i2, ax_i2n, ax_l2, ax_lsh, ax_ii, ax_il, ax_li, ax_pop, ax_dup, ax_dup2, ax_if, ax_cmp, ax_acmp, ax_goto, ax_getI, ax_getR, ax_putI, ax_putR, ax_gets, ax_getsT, ax_aldI, ax_aldR, ax_astI, ax_astR, ax_alen, ax_ret, ax_aret, ax_vret, am_st, am_kl, List.getElem?_cons_zero, List.getElem?_cons_succ, List.set_cons_zero, List.set_cons_succ, Value.category, true_and, and_true, if_true, if_false, reduceCtorEq, Bool.false_eq_true, false_implies, forall_const, Option.some.injEq, exists_eq_left', exists_eq_left, Sum.inl.injEq, Sum.inr.injEq, Prod.mk.injEq, nI_toInt, nI_clamp, am_ix_nI, am_ix_0, am_ix_1, am_ix_2, am_ix_3, am_n0, am_n1, am_n2, am_n3, am_n4, am_t0, am_t1, am_t2, am_t3, am_t4, am_tm1, am_nS, am_nP, am_nM, Int.ofNat_lt, Int.ofNat_le, x1, x2, x3, x6, x7, y1, y2]
    refine ⟨fun _ => ⟨by omega, by omega, ?_⟩, fun h => by omega⟩
    refine am_callK [.ref (s + 12 + 16 * t), .ref (s + 20 + 16 * t)] [] (d' := 3) (lim' := (am_tp σ, am_us σ)) rfl (by omega) (by rw [h1]; exact Nat.le_refl _) (by rw [h2]; exact Nat.le_refl _) rfl (by decide) (am_recv g1.1) ?_
    refine c_become g1 g2 (by omega) g2.2.2.2.1 (fun σ' q hR hf' htp' hus' => ?_)
    rw [xr_fold_ss _ [] g4, List.nil_append] at hR
    simp (disch := omega) only [ax_const, ax_iload, ax_lload, ax_aload, ax_istore, ax_astore, ax_iinc, ax_i2, ax_i2n, ax_l2, ax_lsh, ax_ii, ax_il, ax_li, ax_pop, ax_dup, ax_dup2, ax_if, ax_cmp, ax_acmp, ax_goto, ax_getI, ax_getR, ax_putI, ax_putR, ax_gets, ax_getsT, ax_aldI, ax_aldR, ax_astI, ax_astR, ax_alen, ax_ret, ax_aret, ax_vret, am_st, am_kl, List.getElem?_cons_zero, List.getElem?_cons_succ, List.set_cons_zero, List.set_cons_succ, Value.category, true_and, and_true, if_true, if_false, reduceCtorEq, Bool.false_eq_true, false_implies, forall_const, Option.some.injEq, exists_eq_left', exists_eq_left, Sum.inl.injEq, Sum.inr.injEq, Prod.mk.injEq, nI_toInt, nI_clamp, am_ix_nI, am_ix_0, am_ix_1, am_ix_2, am_ix_3, am_n0, am_n1, am_n2, am_n3, am_n4, am_t0, am_t1, am_t2, am_t3, am_t4, am_tm1, am_nS, am_nP, am_nM, Int.ofNat_lt, Int.ofNat_le, Option.toList_some, Option.toList_none, List.cons_append, List.nil_append, List.append_nil]
    refine ih (t + 1) σ' _ (by omega) (H.setC (by omega) ⟨q, hR⟩ g4 hf') (fun j hj => ?_) (hf.tr (hf'.mono (fun b x => by omega))) (htp'.trans h1) (hus'.trans h2)
    by_cases e : j = t
    · rw [if_pos e, e]
    · rw [if_neg e]; exact hC j (by omega)
theorem c_keep {g : am_G} {l : Launch} {σ : am_S} {s lab n : Nat} {C U : Nat → List xr_E} {hh : Int32} {Q : Option Value → am_S → Prop} (H : xo_S σ s lab C U hh n)
    (hQ0 : 30 < n + xo_due C U → Q (some (.int (-5))) σ) (hQ1 : n + xo_due C U ≤ 30 → ∀ σ', xo_S σ' s lab U U (-1) (n + xo_due C U) → am_fm (fun b => s ≤ b ∧ b < s + 44) σ σ' → Q (some (.int (nI (xo_due C U)))) σ') : am_C g l mX7_keep 4 (am_tp σ, am_us σ) [.ref s] σ Q := by
  have hdue := H.due
  have h5 := H.2.2.2.2.1
  refine am_C.go [some (.ref s), none, none] (by decide +kernel) (Nat.le_of_ble_eq_true rfl) rfl (kX7_keep_0 ?_)
  simp (disch := omega) only [ax_const, ax_iload, ax_lload, ax_aload, ax_istore, ax_astore, ax_iinc, ax_i2, ax_i2n, ax_l2, ax_lsh, ax_ii, ax_il, ax_li, ax_pop, ax_dup, ax_dup2, ax_if, ax_cmp, ax_acmp, ax_goto, ax_getI, ax_getR, ax_putI, ax_putR, ax_gets, ax_getsT, ax_aldI, ax_aldR, ax_astI, ax_astR, ax_alen, ax_ret, ax_aret, ax_vret, am_st, am_kl, List.getElem?_cons_zero, List.getElem?_cons_succ, List.set_cons_zero, List.set_cons_succ, Value.category, true_and, and_true, if_true, if_false, reduceCtorEq, Bool.false_eq_true, false_implies, forall_const, Option.some.injEq, exists_eq_left', exists_eq_left, Sum.inl.injEq, Sum.inr.injEq, Prod.mk.injEq, nI_toInt, nI_clamp, am_ix_nI, am_ix_0, am_ix_1, am_ix_2, am_ix_3, am_n0, am_n1, am_n2, am_n3, am_n4, am_t0, am_t1, am_t2, am_t3, am_t4, am_tm1, am_nS, am_nP, am_nM, Int.ofNat_lt, Int.ofNat_le]
  refine am_callK [.ref s] [] (d' := 2) (lim' := (am_tp σ, am_us σ)) rfl (by omega) (Nat.le_refl _) (Nat.le_refl _) rfl (Nat.le_of_ble_eq_true rfl) (am_recv H.1.1) ?_
  refine c_recordsDue H (fun _ _ => ?_)
  simp (disch := omega) only [ax_const, ax_iload, ax_lload, ax_aload, ax_istore, ax_astore, ax_iinc, ax_i2, ax_i2n, ax_l2, ax_lsh, ax_ii, ax_il, ax_li, ax_pop, ax_dup, ax_dup2, ax_if, ax_cmp, ax_acmp, ax_goto, ax_getI, ax_getR, ax_putI, ax_putR, ax_gets, ax_getsT, ax_aldI, ax_aldR, ax_astI, ax_astR, ax_alen, ax_ret, ax_aret, ax_vret, am_st, am_kl, List.getElem?_cons_zero, List.getElem?_cons_succ, List.set_cons_zero, List.set_cons_succ, Value.category, true_and, and_true, if_true, if_false, reduceCtorEq, Bool.false_eq_true, false_implies, forall_const, Option.some.injEq, exists_eq_left', exists_eq_left, Sum.inl.injEq, Sum.inr.injEq, Prod.mk.injEq, nI_toInt, nI_clamp, am_ix_nI, am_ix_0, am_ix_1, am_ix_2, am_ix_3, am_n0, am_n1, am_n2, am_n3, am_n4, am_t0, am_t1, am_t2, am_t3, am_t4, am_tm1, am_nS, am_nP, am_nM, Int.ofNat_lt, Int.ofNat_le, Option.toList_some, Option.toList_none, List.cons_append, List.nil_append, List.append_nil]
  refine am_callK [.ref s, .int (nI (xo_due C U))] [] (d' := 0) (lim' := (am_tp σ, am_us σ)) rfl (by omega) (Nat.le_refl _) (Nat.le_refl _) rfl (Nat.le_of_ble_eq_true rfl) (am_recv H.1.1) ?_
  refine c_hasRoomFor H (by omega) (fun _ _ => ?_)
  simp (disch := omega) only [ax_const, ax_iload, ax_lload, ax_aload, ax_istore, ax_astore, ax_iinc, ax_i2, ax_i2n, ax_l2, ax_lsh, ax_ii, ax_il, ax_li, ax_pop, ax_dup, ax_dup2, ax_if, ax_cmp, ax_acmp, ax_goto, ax_getI, ax_getR, ax_putI, ax_putR, ax_gets, ax_getsT, ax_aldI, ax_aldR, ax_astI, ax_astR, ax_alen, ax_ret, ax_aret, ax_vret, am_st, am_kl, List.getElem?_cons_zero, List.getElem?_cons_succ, List.set_cons_zero, List.set_cons_succ, Value.category, true_and, and_true, if_true, if_false, reduceCtorEq, Bool.false_eq_true, false_implies, forall_const, Option.some.injEq, exists_eq_left', exists_eq_left, Sum.inl.injEq, Sum.inr.injEq, Prod.mk.injEq, nI_toInt, nI_clamp, am_ix_nI, am_ix_0, am_ix_1, am_ix_2, am_ix_3, am_n0, am_n1, am_n2, am_n3, am_n4, am_t0, am_t1, am_t2, am_t3, am_t4, am_tm1, am_nS, am_nP, am_nM, Int.ofNat_lt, Int.ofNat_le, Option.toList_some, Option.toList_none, List.cons_append, List.nil_append, List.append_nil]
  by_cases q : n + xo_due C U ≤ 30
  · rw [if_pos q]
    simp (disch := omega) only [ax_const, ax_iload, ax_lload, ax_aload, ax_istore, ax_astore, ax_iinc, ax_i2, ax_i2n, ax_l2, ax_lsh, ax_ii, ax_il, ax_li, ax_pop, ax_dup, ax_dup2, ax_if, ax_cmp, ax_acmp, ax_goto, ax_getI, ax_getR, ax_putI, ax_putR, ax_gets, ax_getsT, ax_aldI, ax_aldR, ax_astI, ax_astR, ax_alen, ax_ret, ax_aret, ax_vret, am_st, am_kl, List.getElem?_cons_zero, List.getElem?_cons_succ, List.set_cons_zero, List.set_cons_succ, Value.category, true_and, and_true, if_true, if_false, reduceCtorEq, Bool.false_eq_true, false_implies, forall_const, Option.some.injEq, exists_eq_left', exists_eq_left, Sum.inl.injEq, Sum.inr.injEq, Prod.mk.injEq, nI_toInt, nI_clamp, am_ix_nI, am_ix_0, am_ix_1, am_ix_2, am_ix_3, am_n0, am_n1, am_n2, am_n3, am_n4, am_t0, am_t1, am_t2, am_t3, am_t4, am_tm1, am_nS, am_nP, am_nM, Int.ofNat_lt, Int.ofNat_le, am_sh_wi, am_sh_wr, am_r_wi, am_i_wr, am_tp_wi, am_tp_wr, am_us_wi, am_us_wr, am_i_wi, am_r_wr, H.1.1, H.2.2.2.1, nI_add]
    refine ⟨fun h => absurd h (by decide), fun _ => ?_⟩
    exact xo_keep_loop (Nat.le_refl _) (hQ1 q) 2 0 _ C rfl (H.recs q) (fun j hj => by omega) (am_fm.rf.wi ⟨by omega, by omega⟩) rfl rfl
  · rw [if_neg q]
    simp (disch := omega) only [ax_const, ax_iload, ax_lload, ax_aload, ax_istore, ax_astore, ax_iinc, ax_i2, ax_i2n, ax_l2, ax_lsh, ax_ii, ax_il, ax_li, ax_pop, ax_dup, ax_dup2, ax_if, ax_cmp, ax_acmp, ax_goto, ax_getI, ax_getR, ax_putI, ax_putR, ax_gets, ax_getsT, ax_aldI, ax_aldR, ax_astI, ax_astR, ax_alen, ax_ret, ax_aret, ax_vret, am_st, am_kl, List.getElem?_cons_zero, List.getElem?_cons_succ, List.set_cons_zero, List.set_cons_succ, Value.category, true_and, and_true, if_true, if_false, reduceCtorEq, Bool.false_eq_true, false_implies, forall_const, Option.some.injEq, exists_eq_left', exists_eq_left, Sum.inl.injEq, Sum.inr.injEq, Prod.mk.injEq, nI_toInt, nI_clamp, am_ix_nI, am_ix_0, am_ix_1, am_ix_2, am_ix_3, am_n0, am_n1, am_n2, am_n3, am_n4, am_t0, am_t1, am_t2, am_t3, am_t4, am_tm1, am_nS, am_nP, am_nM, Int.ofNat_lt, Int.ofNat_le]
    exact ⟨hQ0 (by omega), fun h => absurd trivial h⟩
/-! drop -/
theorem xo_drop_loop {g : am_G} {l : Launch} {s lab n d tp us : Nat} {C : Nat → List xr_E} {hh : Int32} {Q : Option Value → am_S → Prop} {σ0 : am_S} (hd : 4 ≤ d)
    (hQ : ∀ σ', xo_S σ' s lab C C (-1) n → am_fm (fun b => s ≤ b ∧ b < s + 44) σ0 σ' → Q none σ') :
    ∀ (m t : Nat) (σ : am_S) (U : Nat → List xr_E), m + t = 2 → xo_S σ s lab C U hh n → (∀ j, j < t → U j = C j) → am_fm (fun b => s ≤ b ∧ b < s + 44) σ0 σ → am_tp σ = tp → am_us σ = us →
      am_W g l mX7_drop d (tp, us) Q 2 [some (.ref s), some (.int (nI t))] [] σ := by
  intro m
  induction m with
  | zero =>
    intro t σ U hm H hC hf h1 h2
    refine kX7_drop_2 ?_
    simp (disch := omega) only [ax_const, ax_iload, ax_lload, ax_aload, ax_istore, ax_astore, ax_iinc, ax_i2, ax_i2n, ax_l2, ax_lsh, ax_ii, ax_il, ax_li, ax_pop, ax_dup, ax_dup2, ax_if, ax_cmp, ax_acmp, ax_goto, ax_getI, ax_getR, ax_putI, ax_putR, ax_gets, ax_getsT, ax_aldI, ax_aldR, ax_astI, ax_astR, ax_alen, ax_ret, ax_aret, ax_vret, am_st, am_kl, List.getElem?_cons_zero, List.getElem?_cons_succ, List.set_cons_zero, List.set_cons_succ, Value.category, true_and, and_true, if_true, if_false, reduceCtorEq, Bool.false_eq_true, false_implies, forall_const, Option.some.injEq, exists_eq_left', exists_eq_left, Sum.inl.injEq, Sum.inr.injEq, Prod.mk.injEq, nI_toInt, nI_clamp, am_ix_nI, am_ix_0, am_ix_1, am_ix_2, am_ix_3, am_n0, am_n1, am_n2, am_n3, am_n4, am_t0, am_t1, am_t2, am_t3, am_t4, am_tm1, am_nS, am_nP, am_nM, Int.ofNat_lt, Int.ofNat_le, am_sh_wi, am_sh_wr, am_r_wi, am_i_wr, am_tp_wi, am_tp_wr, am_us_wi, am_us_wr, am_i_wi, am_r_wr, H.1.1]
    exact ⟨fun h => by omega, fun _ => ⟨h1, h2, hQ _ ((H.hold (-1)).ext (fun _ _ => rfl) (fun j hj => hC j (by omega))) (hf.wi ⟨by omega, by omega⟩)⟩⟩
  | succ m ih =>
    intro t σ U hm H hC hf h1 h2
    obtain ⟨x1, x2, x3, x4, x5, x6, x7, x8, x9⟩ := H.1
    obtain ⟨⟨p1, g1⟩, ⟨p2, g2⟩, g3, g4⟩ := H.2.2.2.2.2.2 t (by omega)
    obtain ⟨y1, y2⟩ := x9 t (by omega)
    refine kX7_drop_2 ?_
    simp (disch := omega) only [ax_const, ax_iload, ax_lload, ax_aload, ax_istore, ax_astore, ax_iinc, ax_i2, ax_i2n, ax_l2, ax_lsh, ax_ii, ax_il, ax_li, ax_pop, ax_dup, ax_dup2, ax_if, ax_cmp, ax_acmp, ax_goto, ax_getI, ax_getR, ax_putI, ax_putR, ax_gets, ax_getsT, ax_aldI, ax_aldR, ax_astI, ax_astR, ax_alen, ax_ret, ax_aret, ax_vret, am_st, am_kl, List.getElem?_cons_zero, List.getElem?_cons_succ, List.set_cons_zero, List.set_cons_succ, Value.category, true_and, and_true, if_true, if_false, reduceCtorEq, Bool.false_eq_true, false_implies, forall_const, Option.some.injEq, exists_eq_left', exists_eq_left, Sum.inl.injEq, Sum.inr.injEq, Prod.mk.injEq, nI_toInt, nI_clamp, am_ix_nI, am_ix_0, am_ix_1, am_ix_2, am_ix_3, am_n0, am_n1, am_n2, am_n3, am_n4, am_t0, am_t1, am_t2, am_t3, am_t4, am_tm1, am_nS, am_nP, am_nM, Int.ofNat_lt, Int.ofNat_le, x1, x2, x3, x6, x7, y1, y2]
    refine ⟨fun _ => ⟨by omega, by omega, ?_⟩, fun h => by omega⟩
    refine am_callK [.ref (s + 20 + 16 * t), .ref (s + 12 + 16 * t)] [] (d' := 3) (lim' := (am_tp σ, am_us σ)) rfl (by omega) (by rw [h1]; exact Nat.le_refl _) (by rw [h2]; exact Nat.le_refl _) rfl (by decide) (am_recv g2.1) ?_
    refine c_become g2 g1 (by omega) g1.2.2.2.1 (fun σ' q hR hf' htp' hus' => ?_)
    rw [xr_fold_ss _ [] g3, List.nil_append] at hR
    simp (disch := omega) only [ax_const, ax_iload, ax_lload, ax_aload, ax_istore, ax_astore, ax_iinc, ax_i2, ax_i2n, ax_l2, ax_lsh, ax_ii, ax_il, ax_li, ax_pop, ax_dup, ax_dup2, ax_if, ax_cmp, ax_acmp, ax_goto, ax_getI, ax_getR, ax_putI, ax_putR, ax_gets, ax_getsT, ax_aldI, ax_aldR, ax_astI, ax_astR, ax_alen, ax_ret, ax_aret, ax_vret, am_st, am_kl, List.getElem?_cons_zero, List.getElem?_cons_succ, List.set_cons_zero, List.set_cons_succ, Value.category, true_and, and_true, if_true, if_false, reduceCtorEq, Bool.false_eq_true, false_implies, forall_const, Option.some.injEq, exists_eq_left', exists_eq_left, Sum.inl.injEq, Sum.inr.injEq, Prod.mk.injEq, nI_toInt, nI_clamp, am_ix_nI, am_ix_0, am_ix_1, am_ix_2, am_ix_3, am_n0, am_n1, am_n2, am_n3, am_n4, am_t0, am_t1, am_t2, am_t3, am_t4, am_tm1, am_nS, am_nP, am_nM, Int.ofNat_lt, Int.ofNat_le, Option.toList_some, Option.toList_none, List.cons_append, List.nil_append, List.append_nil]
    refine ih (t + 1) σ' _ (by omega) (H.setU (by omega) ⟨q, hR⟩ g3 hf') (fun j hj => ?_) (hf.tr (hf'.mono (fun b x => by omega))) (htp'.trans h1) (hus'.trans h2)
    by_cases e : j = t
    · rw [if_pos e, e]
    · rw [if_neg e]; exact hC j (by omega)
theorem c_drop {g : am_G} {l : Launch} {σ : am_S} {s lab n : Nat} {C U : Nat → List xr_E} {hh : Int32} {Q : Option Value → am_S → Prop} (H : xo_S σ s lab C U hh n)
    (hQ : ∀ σ', xo_S σ' s lab C C (-1) n → am_fm (fun b => s ≤ b ∧ b < s + 44) σ σ' → Q none σ') : am_C g l mX7_drop 4 (am_tp σ, am_us σ) [.ref s] σ Q := by
  refine am_C.go [some (.ref s), none] (by decide +kernel) (Nat.le_of_ble_eq_true rfl) rfl (kX7_drop_0 ?_)
  simp (disch := omega) only [ax_const, ax_iload, ax_lload, ax_aload, ax_istore, ax_astore, ax_iinc, ax_i2, ax_i2n, ax_l2, ax_lsh, ax_ii, ax_il, ax_li, ax_pop, ax_dup, ax_dup2, ax_if, ax_cmp, ax_acmp, ax_goto, ax_getI, ax_getR, ax_putI, ax_putR, ax_gets, ax_getsT, ax_aldI, ax_aldR, ax_astI, ax_astR, ax_alen, ax_ret, ax_aret, ax_vret, am_st, am_kl, List.getElem?_cons_zero, List.getElem?_cons_succ, List.set_cons_zero, List.set_cons_succ, Value.category, true_and, and_true, if_true, if_false, reduceCtorEq, Bool.false_eq_true, false_implies, forall_const, Option.some.injEq, exists_eq_left', exists_eq_left, Sum.inl.injEq, Sum.inr.injEq, Prod.mk.injEq, nI_toInt, nI_clamp, am_ix_nI, am_ix_0, am_ix_1, am_ix_2, am_ix_3, am_n0, am_n1, am_n2, am_n3, am_n4, am_t0, am_t1, am_t2, am_t3, am_t4, am_tm1, am_nS, am_nP, am_nM, Int.ofNat_lt, Int.ofNat_le]
  exact xo_drop_loop (Nat.le_refl _) hQ 2 0 σ U rfl H (fun j hj => by omega) .rf rfl rfl
/-! writeAnew -/
theorem xo_anew_loop {g : am_G} {l : Launch} {σ : am_S} {s lab n d : Nat} {C U : Nat → List xr_E} {hh : Int32} {Q : Option Value → am_S → Prop} (hd : 1 ≤ d) (H : xo_S σ s lab C U hh n) (hQ : ∀ r σ', r = xo_mk (xo_s (fun t => (C t).length) 2 0) → xo_S σ' s lab C U hh r → am_fm (fun b => s ≤ b ∧ b < s + 44) σ σ' → Q (some (.int (nI r))) σ') :
    ∀ (m t a : Nat), m + t = 2 → a ≤ 6 * t → a + xo_s (fun t => (C t).length) m t = xo_s (fun t => (C t).length) 2 0 → am_W g l mX7_writeAnew d (am_tp σ, am_us σ) Q 4 [some (.ref s), some (.int (nI a)), some (.int (nI t))] [] σ := by
  intro m
  obtain ⟨x1, x2, x3, x4, x5, x6, x7, x8, x9⟩ := H.1
  induction m with
  | zero =>
    intro t a hm ha he
    have e : a = xo_s (fun t => (C t).length) 2 0 := he
    have hmk : xo_mk a ≤ 30 := by unfold xo_mk; split <;> omega
    refine kX7_writeAnew_4 ?_
    simp (disch := omega) only [ax_const, ax_iload, ax_lload, ax_aload, ax_istore, ax_astore, ax_iinc, ax_i2, ax_i2n, ax_l2, ax_lsh, ax_ii, ax_il, ax_li, ax_pop, ax_dup, ax_dup2, ax_if, ax_cmp, ax_acmp, ax_goto, ax_getI, ax_getR, ax_putI, ax_putR, ax_gets, ax_getsT, ax_aldI, ax_aldR, ax_astI, ax_astR, ax_alen, ax_ret, ax_aret, ax_vret, am_st, am_kl, List.getElem?_cons_zero, List.getElem?_cons_succ, List.set_cons_zero, List.set_cons_succ, Value.category, true_and, and_true, if_true, if_false, reduceCtorEq, Bool.false_eq_true, false_implies, forall_const, Option.some.injEq, exists_eq_left', exists_eq_left, Sum.inl.injEq, Sum.inr.injEq, Prod.mk.injEq, nI_toInt, nI_clamp, am_ix_nI, am_ix_0, am_ix_1, am_ix_2, am_ix_3, am_n0, am_n1, am_n2, am_n3, am_n4, am_t0, am_t1, am_t2, am_t3, am_t4, am_tm1, am_nS, am_nP, am_nM, Int.ofNat_lt, Int.ofNat_le]
    refine ⟨fun h => by omega, fun _ => ?_⟩
    refine am_callK [.int (nI a)] [.ref s] (d' := 0) (lim' := (am_tp σ, am_us σ)) rfl (by omega) (Nat.le_refl _) (Nat.le_refl _) rfl (Nat.le_of_ble_eq_true rfl) am_stat ?_
    refine c_withMark (by omega) (fun _ _ => ?_)
    simp (disch := omega) only [ax_const, ax_iload, ax_lload, ax_aload, ax_istore, ax_astore, ax_iinc, ax_i2, ax_i2n, ax_l2, ax_lsh, ax_ii, ax_il, ax_li, ax_pop, ax_dup, ax_dup2, ax_if, ax_cmp, ax_acmp, ax_goto, ax_getI, ax_getR, ax_putI, ax_putR, ax_gets, ax_getsT, ax_aldI, ax_aldR, ax_astI, ax_astR, ax_alen, ax_ret, ax_aret, ax_vret, am_st, am_kl, List.getElem?_cons_zero, List.getElem?_cons_succ, List.set_cons_zero, List.set_cons_succ, Value.category, true_and, and_true, if_true, if_false, reduceCtorEq, Bool.false_eq_true, false_implies, forall_const, Option.some.injEq, exists_eq_left', exists_eq_left, Sum.inl.injEq, Sum.inr.injEq, Prod.mk.injEq, nI_toInt, nI_clamp, am_ix_nI, am_ix_0, am_ix_1, am_ix_2, am_ix_3, am_n0, am_n1, am_n2, am_n3, am_n4, am_t0, am_t1, am_t2, am_t3, am_t4, am_tm1, am_nS, am_nP, am_nM, Int.ofNat_lt, Int.ofNat_le, Option.toList_some, Option.toList_none, List.cons_append, List.nil_append, List.append_nil, am_sh_wi, am_sh_wr, am_r_wi, am_i_wr, am_tp_wi, am_tp_wr, am_us_wi, am_us_wr, am_i_wi, am_r_wr, x1]
    exact hQ _ _ (by rw [e]) (H.recs hmk) (am_fm.rf.wi ⟨by omega, by omega⟩)
  | succ m ih =>
    intro t a hm ha he
    obtain ⟨⟨p1, g1⟩, ⟨p2, g2⟩, g3, g4⟩ := H.2.2.2.2.2.2 t (by omega)
    obtain ⟨y1, y2⟩ := x9 t (by omega)
    have y3 := g1.2.2.2.1
    refine kX7_writeAnew_4 ?_
    simp (disch := omega) only [ax_const, ax_iload, ax_lload, ax_aload, ax_istore, ax_astore, ax_iinc, ax_i2, ax_i2n, ax_l2, ax_lsh, ax_ii, ax_il, ax_li, ax_pop, ax_dup, ax_dup2, ax_if, ax_cmp, ax_acmp, ax_goto, ax_getI, ax_getR, ax_putI, ax_putR, ax_gets, ax_getsT, ax_aldI, ax_aldR, ax_astI, ax_astR, ax_alen, ax_ret, ax_aret, ax_vret, am_st, am_kl, List.getElem?_cons_zero, List.getElem?_cons_succ, List.set_cons_zero, List.set_cons_succ, Value.category, true_and, and_true, if_true, if_false, reduceCtorEq, Bool.false_eq_true, false_implies, forall_const, Option.some.injEq, exists_eq_left', exists_eq_left, Sum.inl.injEq, Sum.inr.injEq, Prod.mk.injEq, nI_toInt, nI_clamp, am_ix_nI, am_ix_0, am_ix_1, am_ix_2, am_ix_3, am_n0, am_n1, am_n2, am_n3, am_n4, am_t0, am_t1, am_t2, am_t3, am_t4, am_tm1, am_nS, am_nP, am_nM, Int.ofNat_lt, Int.ofNat_le, x1, x2, x3, x6, x7, y1, y2, g1.1, g1.2.2.1, nI_add]
    refine ⟨fun _ => ⟨by omega, ?_⟩, fun h => by omega⟩
    exact ih (t + 1) (a + (C t).length) (by omega) (by omega) (by rw [← he, xo_s]; omega)
theorem c_writeAnew {g : am_G} {l : Launch} {σ : am_S} {s lab n : Nat} {C U : Nat → List xr_E} {hh : Int32} {Q : Option Value → am_S → Prop} (H : xo_S σ s lab C U hh n) (hQ : ∀ r σ', r = xo_mk (xo_s (fun t => (C t).length) 2 0) → xo_S σ' s lab C U hh r → am_fm (fun b => s ≤ b ∧ b < s + 44) σ σ' → Q (some (.int (nI r))) σ') : am_C g l mX7_writeAnew 1 (am_tp σ, am_us σ) [.ref s] σ Q := by
  refine am_C.go [some (.ref s), none, none] (by decide +kernel) (Nat.le_of_ble_eq_true rfl) rfl (kX7_writeAnew_0 ?_)
  simp (disch := omega) only [ax_const, ax_iload, ax_lload, ax_aload, ax_istore, ax_astore, ax_iinc, ax_i2, ax_i2n, ax_l2, ax_lsh, ax_ii, ax_il, ax_li, ax_pop, ax_dup, ax_dup2, ax_if, ax_cmp, ax_acmp, ax_goto, ax_getI, ax_getR, ax_putI, ax_putR, ax_gets, ax_getsT, ax_aldI, ax_aldR, ax_astI, ax_astR, ax_alen, ax_ret, ax_aret, ax_vret, am_st, am_kl, List.getElem?_cons_zero, List.getElem?_cons_succ, List.set_cons_zero, List.set_cons_succ, Value.category, true_and, and_true, if_true, if_false, reduceCtorEq, Bool.false_eq_true, false_implies, forall_const, Option.some.injEq, exists_eq_left', exists_eq_left, Sum.inl.injEq, Sum.inr.injEq, Prod.mk.injEq, nI_toInt, nI_clamp, am_ix_nI, am_ix_0, am_ix_1, am_ix_2, am_ix_3, am_n0, am_n1, am_n2, am_n3, am_n4, am_t0, am_t1, am_t2, am_t3, am_t4, am_tm1, am_nS, am_nP, am_nM, Int.ofNat_lt, Int.ofNat_le]
  exact xo_anew_loop (Nat.le_refl _) H hQ 2 0 0 rfl (Nat.zero_le _) (Nat.zero_add _)
