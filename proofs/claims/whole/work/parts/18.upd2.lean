/-! update -/
def xo_set (c : Nat) (v : Int32) (e : xr_E) : xr_E := if c = 0 then (v, e.2) else if c = 1 then (e.1, v, e.2.2) else if c = 2 then (e.1, e.2.1, v, e.2.2.2) else (e.1, e.2.1, e.2.2.1, v)
def xo_lb (lab : Nat) (e : xr_E) : xr_E := (e.1, e.2.1, e.2.2.1, nI lab)
theorem xr_at.setc {σ : am_S} {a c : Nat} {v : Int32} {e : xr_E} (h : xr_at σ a e) (hc : c < 4) : xr_at (am_wi σ a c v) a (xo_set c v e) := by
  obtain ⟨h0, h1, h2, h3⟩ := h
  unfold xr_at xo_set
  simp only [am_i_wi, true_and]
  have : c = 0 ∨ c = 1 ∨ c = 2 ∨ c = 3 := by omega
  rcases this with rfl | rfl | rfl | rfl <;> simp [h0, h1, h2, h3]
theorem xr_R.setc {σ : am_S} {r cap j c : Nat} {p : Nat → Nat} {L : List xr_E} {e : xr_E} {v : Int32} (h : xr_R σ r cap p L) (hj : L[j]? = some e) (hc : c < 4) : xr_R (am_wi σ (p j) c v) r cap p (L.set j (xo_set c v e)) := by
  obtain ⟨h1, h2, h3, h4, h5, h6, h7, h8, h9⟩ := h
  have hjl := (List.getElem?_eq_some_iff.mp hj).1
  obtain ⟨b1, b2, b3, b4⟩ := h7 j (by omega)
  refine ⟨h1, h2, by rw [am_i_wi, if_neg (by omega), List.length_set]; exact h3, by rw [List.length_set]; exact h4, h5, h6, h7, h8, fun i f hf => ?_⟩
  rw [List.getElem?_set] at hf
  by_cases q : j = i
  · subst q
    rw [if_pos rfl, if_pos hjl, Option.some.injEq] at hf
    subst hf
    exact (h9 j e hj).setc hc
  · rw [if_neg q] at hf
    have hil := (List.getElem?_eq_some_iff.mp hf).1
    obtain ⟨c1, c2, c3, c4⟩ := h9 i f hf
    have hne : p i ≠ p j := fun z => q (h8 i j (by omega) (by omega) z).symm
    unfold xr_at
    simp only [am_i_wi, hne, false_and, if_false]
    exact ⟨c1, c2, c3, c4⟩
def xo_chg (key : Int32) (c : Nat) (v : Int32) (L : List xr_E) : List xr_E := L.map (fun x => if x.1 = key then xo_set c v x else x)
theorem xo_set_key {c : Nat} {v : Int32} {e : xr_E} (hc : c = 1 ∨ c = 2) : (xo_set c v e).1 = e.1 := by
  rcases hc with rfl | rfl <;> rfl
theorem xo_chg_ss {key v : Int32} {c : Nat} {L : List xr_E} (hc : c = 1 ∨ c = 2) (h : xo_ss L) : xo_ss (xo_chg key c v L) := by
  unfold xo_chg xo_ss
  rw [List.pairwise_map]
  have e : ∀ x : xr_E, (if x.1 = key then xo_set c v x else x).1 = x.1 := by
    intro x
    split
    · exact xo_set_key hc
    · rfl
  simp only [e]
  exact h
theorem xo_set_map {key v : Int32} {c j : Nat} {L : List xr_E} {f : xr_E} (h : xo_ss L) (hj : L[j]? = some f) (hf : f.1 = key) : L.set j (xo_set c v f) = xo_chg key c v L := by
  refine List.ext_getElem? fun i => ?_
  unfold xo_chg
  rw [List.getElem?_set, List.getElem?_map]
  have hjl := (List.getElem?_eq_some_iff.mp hj).1
  by_cases q : j = i
  · subst q
    rw [if_pos rfl, if_pos hjl, hj, Option.map_some, if_pos hf]
  · rw [if_neg q]
    cases hi : L[i]? with
    | none => rfl
    | some x =>
      have hx : ¬ x.1 = key := by
        intro z
        have e1 : x.1.toInt = f.1.toInt := by rw [z, hf]
        rcases Nat.lt_or_gt_of_ne q with q | q
        · have := h.get hj hi q
          omega
        · have := h.get hi hj q
          omega
      rw [Option.map_some, if_neg hx]
/-- the rows of label lab behind the update of those T that are seen; none: no room -/
def xo_up (B : xr_E → Bool) (val : xr_E → Int32) (lab col : Nat) : List xr_E → List xr_E → Nat → Option (List xr_E × Nat)
  | [], L, c => some (L, c)
  | e :: T, L, c => if B e = true then (match L.find? (fun f => f.1 == e.1) with
      | some _ => if e.2.2.2 = nI lab then xo_up B val lab col T (xo_chg e.1 col (val e) L) (c + 1) else xo_up B val lab col T L c
      | none => if L.length = 6 then none else xo_up B val lab col T (xr_add L (xo_lb lab (xo_set col (val e) e))) (c + 1))
    else xo_up B val lab col T L c
theorem c_addChanged {g : am_G} {l : Launch} {σ : am_S} {s lab r a col : Nat} {p : Nat → Nat} {L : List xr_E} {e : xr_E} {v : Int32} {Q : Option Value → am_S → Prop} (H : xo_H σ s) (hlab : am_i σ s 0 = nI lab) (hR : xr_R σ r 6 p L) (hr : s + 20 ≤ r) (ha : a < s ∨ s + 44 ≤ a) (hsa : am_sh σ a = some (.inr (0, 4))) (hea : xr_at σ a e) (hcol : col < 3)
    (hQ0 : L.length = 6 → ∀ σ', am_fm (fun b => b = s + 11) σ σ' → Q (some (.int 0)) σ') (hQ1 : L.length < 6 → ∀ σ' p', xr_R σ' r 6 p' (xr_add L (xo_lb lab (xo_set col v e))) → am_fm (fun b => b = s + 11 ∨ (r ≤ b ∧ b < r + 2 + 6)) σ σ' → Q (some (.int 1)) σ') :
    am_C g l mX7_addChanged 2 (am_tp σ, am_us σ) [.ref s, .ref r, .ref a, .int (nI col), .int v] σ Q := by
  obtain ⟨x1, x2, x3, x4, x5, x6, x7, x8, x9⟩ := H
  have hne : a ≠ s + 11 := by omega
  refine am_C.go [some (.ref s), some (.ref r), some (.ref a), some (.int (nI col)), some (.int v)] (by decide +kernel) (Nat.le_of_ble_eq_true rfl) rfl (kX7_addChanged_0 (by decide) ?_)
  simp (disch := omega) only [ax_const, ax_iload, ax_lload, ax_aload, ax_istore, ax_astore, ax_iinc, ax_i2, ax_i2n, ax_l2, ax_lsh, ax_ii, ax_il, ax_li, ax_pop, ax_dup, ax_dup2, ax_if, ax_cmp, ax_acmp, ax_goto, ax_getI, ax_getR, ax_putI, ax_putR, ax_gets, ax_getsT, ax_aldI, ax_aldR, ax_astI, ax_astR, ax_alen, ax_ret, ax_aret, ax_vret, am_st, am_kl, List.getElem?_cons_zero, List.getElem?_cons_succ, List.set_cons_zero, List.set_cons_succ, Value.category, true_and, and_true, if_true, if_false, reduceCtorEq, Bool.false_eq_true, false_implies, forall_const, Option.some.injEq, exists_eq_left', exists_eq_left, Sum.inl.injEq, Sum.inr.injEq, Prod.mk.injEq, nI_toInt, nI_clamp, am_ix_nI, am_ix_0, am_ix_1, am_ix_2, am_ix_3, am_n0, am_n1, am_n2, am_n3, am_n4, am_t0, am_t1, am_t2, am_t3, am_t4, am_tm1, am_nS, am_nP, am_nM, Int.ofNat_lt, Int.ofNat_le, x1, x5]
  refine am_copy4 hne hsa x8 (by decide) ?_
  simp (disch := omega) only [ax_const, ax_iload, ax_lload, ax_aload, ax_istore, ax_astore, ax_iinc, ax_i2, ax_i2n, ax_l2, ax_lsh, ax_ii, ax_il, ax_li, ax_pop, ax_dup, ax_dup2, ax_if, ax_cmp, ax_acmp, ax_goto, ax_getI, ax_getR, ax_putI, ax_putR, ax_gets, ax_getsT, ax_aldI, ax_aldR, ax_astI, ax_astR, ax_alen, ax_ret, ax_aret, ax_vret, am_st, am_kl, List.getElem?_cons_zero, List.getElem?_cons_succ, List.set_cons_zero, List.set_cons_succ, Value.category, true_and, and_true, if_true, if_false, reduceCtorEq, Bool.false_eq_true, false_implies, forall_const, Option.some.injEq, exists_eq_left', exists_eq_left, Sum.inl.injEq, Sum.inr.injEq, Prod.mk.injEq, nI_toInt, nI_clamp, am_ix_nI, am_ix_0, am_ix_1, am_ix_2, am_ix_3, am_n0, am_n1, am_n2, am_n3, am_n4, am_t0, am_t1, am_t2, am_t3, am_t4, am_tm1, am_nS, am_nP, am_nM, Int.ofNat_lt, Int.ofNat_le, am_sh_wi, am_sh_wr, am_r_wi, am_i_wr, am_tp_wi, am_tp_wr, am_us_wi, am_us_wr, am_i_wi, am_r_wr, am_sh_cp, am_r_cp, am_tp_cp, am_us_cp, am_i_cp, x1, x5, x8, hlab]
  have hs : ¬ s = s + 11 := by omega
  simp only [hs, false_and, if_false, hlab]
  have f3 : am_fm (fun b => b = s + 11) σ (am_wi (am_wi (am_cp σ a (s + 11) 0 0 4) (s + 11) col v) (s + 11) 3 (nI lab)) := am_fm.wi (P := fun b => b = s + 11) (am_fm.wi (P := fun b => b = s + 11) (am_fm.cp (P := fun b => b = s + 11) am_fm.rf rfl) rfl) rfl
  have c1 : xr_at (am_cp σ a (s + 11) 0 0 4) (s + 11) e := by
    obtain ⟨h0, h1, h2, h3⟩ := hea
    unfold xr_at
    simp only [am_i_cp, true_and]
    simp [h0, h1, h2, h3]
  have c3 : xr_at (am_wi (am_wi (am_cp σ a (s + 11) 0 0 4) (s + 11) col v) (s + 11) 3 (nI lab)) (s + 11) (xo_lb lab (xo_set col v e)) := by
    have c2 := (c1.setc (c := col) (v := v) (by omega)).setc (c := 3) (v := nI lab) (by omega)
    exact c2
  refine ⟨by omega, by omega, ?_⟩
  refine am_callK [.ref r, .ref (s + 11)] [] (d' := 1) (lim' := (am_tp σ, am_us σ)) rfl (by decide) (Nat.le_refl _) (Nat.le_refl _) rfl (Nat.le_of_ble_eq_true rfl) (am_recv hR.1) ?_
  refine c_add (σ := am_wi (am_wi (am_cp σ a (s + 11) 0 0 4) (s + 11) col v) (s + 11) 3 (nI lab)) (hR.fm f3 (fun b x y => by omega)) (by omega) x8 c3 (fun e6 _ _ => ?_) (fun e6 σ' q hR' hf' h1' h2' => ?_)
  · simp (disch := omega) only [ax_const, ax_iload, ax_lload, ax_aload, ax_istore, ax_astore, ax_iinc, ax_i2, ax_i2n, ax_l2, ax_lsh, ax_ii, ax_il, ax_li, ax_pop, ax_dup, ax_dup2, ax_if, ax_cmp, ax_acmp, ax_goto, ax_getI, ax_getR, ax_putI, ax_putR, ax_gets, ax_getsT, ax_aldI, ax_aldR, ax_astI, ax_astR, ax_alen, ax_ret, ax_aret, ax_vret, am_st, am_kl, List.getElem?_cons_zero, List.getElem?_cons_succ, List.set_cons_zero, List.set_cons_succ, Value.category, true_and, and_true, if_true, if_false, reduceCtorEq, Bool.false_eq_true, false_implies, forall_const, Option.some.injEq, exists_eq_left', exists_eq_left, Sum.inl.injEq, Sum.inr.injEq, Prod.mk.injEq, nI_toInt, nI_clamp, am_ix_nI, am_ix_0, am_ix_1, am_ix_2, am_ix_3, am_n0, am_n1, am_n2, am_n3, am_n4, am_t0, am_t1, am_t2, am_t3, am_t4, am_tm1, am_nS, am_nP, am_nM, Int.ofNat_lt, Int.ofNat_le, Option.toList_some, Option.toList_none, List.cons_append, List.nil_append, List.append_nil, am_sh_wi, am_sh_wr, am_r_wi, am_i_wr, am_tp_wi, am_tp_wr, am_us_wi, am_us_wr, am_i_wi, am_r_wr, am_tp_cp, am_us_cp]
    exact ⟨by simp, hQ0 e6 _ f3⟩
  · simp (disch := omega) only [ax_const, ax_iload, ax_lload, ax_aload, ax_istore, ax_astore, ax_iinc, ax_i2, ax_i2n, ax_l2, ax_lsh, ax_ii, ax_il, ax_li, ax_pop, ax_dup, ax_dup2, ax_if, ax_cmp, ax_acmp, ax_goto, ax_getI, ax_getR, ax_putI, ax_putR, ax_gets, ax_getsT, ax_aldI, ax_aldR, ax_astI, ax_astR, ax_alen, ax_ret, ax_aret, ax_vret, am_st, am_kl, List.getElem?_cons_zero, List.getElem?_cons_succ, List.set_cons_zero, List.set_cons_succ, Value.category, true_and, and_true, if_true, if_false, reduceCtorEq, Bool.false_eq_true, false_implies, forall_const, Option.some.injEq, exists_eq_left', exists_eq_left, Sum.inl.injEq, Sum.inr.injEq, Prod.mk.injEq, nI_toInt, nI_clamp, am_ix_nI, am_ix_0, am_ix_1, am_ix_2, am_ix_3, am_n0, am_n1, am_n2, am_n3, am_n4, am_t0, am_t1, am_t2, am_t3, am_t4, am_tm1, am_nS, am_nP, am_nM, Int.ofNat_lt, Int.ofNat_le, Option.toList_some, Option.toList_none, List.cons_append, List.nil_append, List.append_nil, am_sh_wi, am_sh_wr, am_r_wi, am_i_wr, am_tp_wi, am_tp_wr, am_us_wi, am_us_wr, am_i_wi, am_r_wr]
    exact ⟨by simp, h1', h2', hQ1 e6 _ _ hR' ((f3.mono (fun b x => Or.inl x)).tr (hf'.mono (fun b x => Or.inr x)))⟩
