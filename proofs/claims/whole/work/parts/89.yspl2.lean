/-! split -/
def ysF (m : Nat) (σ σ' : am_S) : Prop := ym_f (fun b => b = m ∨ b = m + 10 ∨ b = m + 11) σ σ' ∧ ∀ k, k ≠ 11 → k ≠ 13 → am_i σ' m k = am_i σ m k
theorem ysF.rf {m : Nat} {σ : am_S} : ysF m σ σ := ⟨.rf, fun _ _ _ => rfl⟩
theorem ysF.wf {m k : Nat} {σ σ' : am_S} {v : Int32} (h : ysF m σ σ') (hk : k = 11 ∨ k = 13) : ysF m σ (am_wi σ' m k v) := ⟨h.1.wi (Or.inl rfl), fun q h1 h2 => by rw [ym_ij (by omega)]; exact h.2 q h1 h2⟩
theorem ysF.wa {m a k : Nat} {σ σ' : am_S} {v : Int32} (h : ysF m σ σ') (ha : a = m + 10 ∨ a = m + 11) : ysF m σ (am_wi σ' a k v) := ⟨h.1.wi (by omega), fun q h1 h2 => by rw [ym_io (by omega)]; exact h.2 q h1 h2⟩
theorem ysD.F {m i : Nat} {σ σ' : am_S} {dr : List Nat} (h : ysD σ m i dr) (hf : ysF m σ σ') : ysD σ' m i dr := by
  unfold ysD
  rw [hf.1.i (a := m + 9) (by omega), hf.1.i (a := m + 8) (by omega)]
  exact h
/-- what has been read lies there, if it is sound -/
def ysK (σ : am_S) (m : Nat) (b : Bool) (ts : List (Nat × Int32)) (cnt : Nat) : Prop := am_i σ m 11 = nI cnt ∧ am_i σ m 13 = yb b ∧ (b = false → cnt = ts.length ∧ ∀ (j t : Nat) (o : Int32), ts[j]? = some (t, o) → yw_ok (am_i σ (m + 10) j) (am_i σ (m + 11) j) t o)
def ysP (b : Bool) (ts : List (Nat × Int32)) : Prop := b = true → ∃ (j : Nat) (o : Int32), ts[j]? = some (35, o)
theorem ysP.app {b : Bool} {ts x : List (Nat × Int32)} (h : ysP b ts) : ysP b (ts ++ x) := fun q => by
  obtain ⟨j, o, e⟩ := h q
  exact ⟨j, o, by rw [List.getElem?_append_left (List.getElem?_eq_some_iff.mp e).1]; exact e⟩
theorem ysP.new {b : Bool} {ts : List (Nat × Int32)} {o : Int32} : ysP b (ts ++ [(35, o)]) := fun _ => ⟨ts.length, o, by simp⟩
theorem ysK.add {σ : am_S} {m cnt k t : Nat} {b b' : Bool} {wv o : Int32} {ts : List (Nat × Int32)} (h : ysK σ m b ts cnt) (hb : b' = false → b = false) (ht : b' = false → yw_ok (nI k) wv t o) : ysK (am_wi (am_wi (am_wi (am_wi σ m 13 (yb b')) (m + 10) cnt (nI k)) (m + 11) cnt wv) m 11 (nI (cnt + 1))) m b' (ts ++ [(t, o)]) (cnt + 1) := by
  obtain ⟨h1, h2, h3⟩ := h
  refine ⟨ym_is, by rw [ym_ij (by decide), ym_io (by omega), ym_io (by omega), ym_is], fun q => ?_⟩
  obtain ⟨g1, g2⟩ := h3 (hb q)
  refine ⟨by rw [g1]; simp, fun j t' o' hj => ?_⟩
  have eK : am_i (am_wi (am_wi (am_wi (am_wi σ m 13 (yb b')) (m + 10) cnt (nI k)) (m + 11) cnt wv) m 11 (nI (cnt + 1))) (m + 10) j = am_i (am_wi (am_wi σ m 13 (yb b')) (m + 10) cnt (nI k)) (m + 10) j := by rw [ym_io (by omega), ym_io (by omega)]
  have eW : am_i (am_wi (am_wi (am_wi (am_wi σ m 13 (yb b')) (m + 10) cnt (nI k)) (m + 11) cnt wv) m 11 (nI (cnt + 1))) (m + 11) j = am_i (am_wi (am_wi (am_wi σ m 13 (yb b')) (m + 10) cnt (nI k)) (m + 11) cnt wv) (m + 11) j := by rw [ym_io (by omega)]
  rw [eK, eW]
  by_cases c : j < ts.length
  · rw [List.getElem?_append_left c] at hj
    have := g2 j t' o' hj
    have e1 : am_i (am_wi (am_wi σ m 13 (yb b')) (m + 10) cnt (nI k)) (m + 10) j = am_i σ (m + 10) j := by rw [ym_ij (by omega), ym_io (by omega)]
    have e2 : am_i (am_wi (am_wi (am_wi σ m 13 (yb b')) (m + 10) cnt (nI k)) (m + 11) cnt wv) (m + 11) j = am_i σ (m + 11) j := by rw [ym_ij (by omega), ym_io (by omega), ym_io (by omega)]
    rw [e1, e2]
    exact this
  · have e : j = ts.length := by
      have := (List.getElem?_eq_some_iff.mp hj).1
      simp at this
      omega
    rw [e, List.getElem?_append_right (Nat.le_refl _), Nat.sub_self, List.getElem?_cons_zero, Option.some.injEq, Prod.mk.injEq] at hj
    obtain ⟨rfl, rfl⟩ := hj
    rw [e, ← g1, ym_is, ym_is]
    exact ht q
theorem ysK.set {σ : am_S} {m cnt : Nat} {b b' : Bool} {ts ts' : List (Nat × Int32)} (h : ysK σ m b ts cnt) (hb : b' = false → b = false ∧ ts' = ts) : ysK (am_wi σ m 13 (yb b')) m b' ts' cnt := by
  obtain ⟨h1, h2, h3⟩ := h
  refine ⟨by rw [ym_ij (by decide)]; exact h1, ym_is, fun q => ?_⟩
  obtain ⟨q1, q2⟩ := hb q
  have e1 : ∀ j, am_i (am_wi σ m 13 (yb b')) (m + 10) j = am_i σ (m + 10) j := fun j => by rw [ym_io (by omega)]
  have e2 : ∀ j, am_i (am_wi σ m 13 (yb b')) (m + 11) j = am_i σ (m + 11) j := fun j => by rw [ym_io (by omega)]
  rw [q2]
  refine ⟨(h3 q1).1, fun j t o hj => ?_⟩
  rw [e1, e2]
  exact (h3 q1).2 j t o hj
theorem ysp_301 {g : am_G} {l : Launch} {σ : am_S} {m i d p e n c k cnt : Nat} {v : Int32} {b' : Bool} {Q : Option Value → am_S → Prop} (hH : ym_H σ m) (h11 : am_i σ m 11 = nI cnt) (hc : cnt < 82) (hk : k < 5)
    (h0 : k = 0 → am_W g l mX10_split d (am_tp σ, am_us σ) Q 14 [some (.ref m), some (.int (nI i)), some (.int (nI (p + n))), some (.int (nI e)), some (.int (nI c)), some (.int (nI n)), some (.int v), some (.int (nI k))] [] (am_wi σ m 13 (yb b')))
    (h1 : k ≠ 0 → ∀ wv, wv = (if k = 2 then nI c - 65 else v) → am_W g l mX10_split d (am_tp σ, am_us σ) Q 14 [some (.ref m), some (.int (nI i)), some (.int (nI (p + n))), some (.int (nI e)), some (.int (nI c)), some (.int (nI n)), some (.int v), some (.int (nI k))] [] (am_wi (am_wi (am_wi (am_wi σ m 13 (yb b')) (m + 10) cnt (nI k)) (m + 11) cnt wv) m 11 (nI (cnt + 1)))) :
    am_W g l mX10_split d (am_tp σ, am_us σ) Q 301 [some (.ref m), some (.int (nI i)), some (.int (nI p)), some (.int (nI e)), some (.int (nI c)), some (.int (nI n)), some (.int v), some (.int (nI k))] [.int (yb b'), .ref m] σ := by
  have hb01 : yb b' = 0 ∨ yb b' = 1 := by cases b' <;> decide
  have e11 : am_i (am_wi σ m 13 (yb b')) m 11 = nI cnt := by rw [ym_ij (by decide)]; exact h11
  have l344 : k ≠ 0 → ∀ wv, wv = (if k = 2 then nI c - 65 else v) → am_W g l mX10_split d (am_tp σ, am_us σ) Q 344 [some (.ref m), some (.int (nI i)), some (.int (nI p)), some (.int (nI e)), some (.int (nI c)), some (.int (nI n)), some (.int v), some (.int (nI k))] [.int wv, .int (nI cnt), .ref (m + 11)] (am_wi (am_wi σ m 13 (yb b')) (m + 10) cnt (nI k)) := by
    intro hk0 wv hwv
    refine kX10_split_344 ?_
    simp (disch := omega) only [ax_const, ax_iload, ax_lload, ax_aload, ax_istore, ax_astore, ax_iinc, ax_i2, ax_i2n, ax_l2, ax_lsh, ax_ii, ax_il, ax_li, ax_pop, ax_dup, ax_dup2, ax_if, ax_cmp, ax_acmp, ax_goto, ax_getI, ax_getR, ax_putI, ax_putR, ax_gets, ax_getsT, ax_aldI, ax_aldR, ax_astI, ax_astR, ax_alen, ax_ret, ax_aret, ax_vret, am_st, am_kl, List.getElem?_cons_zero, List.getElem?_cons_succ, List.set_cons_zero, List.set_cons_succ, Value.category, true_and, and_true, if_true, if_false, reduceCtorEq, Bool.false_eq_true, false_implies, forall_const, Option.some.injEq, exists_eq_left', exists_eq_left, Sum.inl.injEq, Sum.inr.injEq, Prod.mk.injEq, nI_toInt, nI_clamp, am_ix_nI, am_ix_0, am_ix_1, am_ix_2, am_ix_3, am_n0, am_n1, am_n2, am_n3, am_n4, am_t0, am_t1, am_t2, am_t3, am_t4, am_tm1, am_nS, am_nP, am_nM, Int.ofNat_lt, Int.ofNat_le, am_sh_wi, am_r_wi, am_tp_wi, am_us_wi, ym_is, ym_io, ym_ij, hH.1, hH.r10, hH.s10, h11]
    refine ⟨by omega, kX10_split_355 ?_⟩
    simp (disch := omega) only [ax_const, ax_iload, ax_lload, ax_aload, ax_istore, ax_astore, ax_iinc, ax_i2, ax_i2n, ax_l2, ax_lsh, ax_ii, ax_il, ax_li, ax_pop, ax_dup, ax_dup2, ax_if, ax_cmp, ax_acmp, ax_goto, ax_getI, ax_getR, ax_putI, ax_putR, ax_gets, ax_getsT, ax_aldI, ax_aldR, ax_astI, ax_astR, ax_alen, ax_ret, ax_aret, ax_vret, am_st, am_kl, List.getElem?_cons_zero, List.getElem?_cons_succ, List.set_cons_zero, List.set_cons_succ, Value.category, true_and, and_true, if_true, if_false, reduceCtorEq, Bool.false_eq_true, false_implies, forall_const, Option.some.injEq, exists_eq_left', exists_eq_left, Sum.inl.injEq, Sum.inr.injEq, Prod.mk.injEq, nI_add]
    exact h1 hk0 wv hwv
  refine kX10_split_301 ?_
  simp (disch := omega) only [ax_const, ax_iload, ax_lload, ax_aload, ax_istore, ax_astore, ax_iinc, ax_i2, ax_i2n, ax_l2, ax_lsh, ax_ii, ax_il, ax_li, ax_pop, ax_dup, ax_dup2, ax_if, ax_cmp, ax_acmp, ax_goto, ax_getI, ax_getR, ax_putI, ax_putR, ax_gets, ax_getsT, ax_aldI, ax_aldR, ax_astI, ax_astR, ax_alen, ax_ret, ax_aret, ax_vret, am_st, am_kl, List.getElem?_cons_zero, List.getElem?_cons_succ, List.set_cons_zero, List.set_cons_succ, Value.category, true_and, and_true, if_true, if_false, reduceCtorEq, Bool.false_eq_true, false_implies, forall_const, Option.some.injEq, exists_eq_left', exists_eq_left, Sum.inl.injEq, Sum.inr.injEq, Prod.mk.injEq, nI_toInt, nI_clamp, am_ix_nI, am_ix_0, am_ix_1, am_ix_2, am_ix_3, am_n0, am_n1, am_n2, am_n3, am_n4, am_t0, am_t1, am_t2, am_t3, am_t4, am_tm1, am_nS, am_nP, am_nM, Int.ofNat_lt, Int.ofNat_le, am_sh_wi, am_r_wi, am_tp_wi, am_us_wi, ym_is, ym_io, ym_ij, hH.1, hH.r9, hH.s9, hH.r10, hH.s10, h11, yl_t0, yl_2, yl_eq]
  refine ⟨hb01, fun z => ⟨by omega, fun z2 => l344 (by omega) _ (by rw [if_pos z2]), fun z2 => l344 (by omega) _ (by rw [if_neg z2])⟩, fun z => kX10_split_355 ?_⟩
  simp (disch := omega) only [ax_const, ax_iload, ax_lload, ax_aload, ax_istore, ax_astore, ax_iinc, ax_i2, ax_i2n, ax_l2, ax_lsh, ax_ii, ax_il, ax_li, ax_pop, ax_dup, ax_dup2, ax_if, ax_cmp, ax_acmp, ax_goto, ax_getI, ax_getR, ax_putI, ax_putR, ax_gets, ax_getsT, ax_aldI, ax_aldR, ax_astI, ax_astR, ax_alen, ax_ret, ax_aret, ax_vret, am_st, am_kl, List.getElem?_cons_zero, List.getElem?_cons_succ, List.set_cons_zero, List.set_cons_succ, Value.category, true_and, and_true, if_true, if_false, reduceCtorEq, Bool.false_eq_true, false_implies, forall_const, Option.some.injEq, exists_eq_left', exists_eq_left, Sum.inl.injEq, Sum.inr.injEq, Prod.mk.injEq, nI_add]
  exact h0 (by omega)
theorem ysp_276 {g : am_G} {l : Launch} {σ : am_S} {m i d p e n c k cnt t : Nat} {v o : Int32} {b : Bool} {ts : List (Nat × Int32)} {Q : Option Value → am_S → Prop} (hH : ym_H σ m) (hc : cnt < 82) (hk : k < 5) (hc' : c < 128) (hK : ysK σ m b ts cnt)
    (hA : k = 0 → c = 32 → ysP b ts) (hB : k = 0 → c ≠ 32 → t = 35) (hC : k ≠ 0 → (b = false → yw_ok (nI k) (if k = 2 then nI c - 65 else v) t o) ∧ ysP b (ts ++ [(t, o)]))
    (hN : ∀ σ' b' cnt', ysK σ' m b' (if k = 0 ∧ c = 32 then ts else ts ++ [(t, o)]) cnt' → ysP b' (if k = 0 ∧ c = 32 then ts else ts ++ [(t, o)]) → cnt' ≤ cnt + 1 → ysF m σ σ' → am_W g l mX10_split d (am_tp σ, am_us σ) Q 14 [some (.ref m), some (.int (nI i)), some (.int (nI (p + n))), some (.int (nI e)), some (.int (nI c)), some (.int (nI n)), some (.int v), some (.int (nI k))] [] σ') :
    am_W g l mX10_split d (am_tp σ, am_us σ) Q 276 [some (.ref m), some (.int (nI i)), some (.int (nI p)), some (.int (nI e)), some (.int (nI c)), some (.int (nI n)), some (.int v), some (.int (nI k))] [] σ := by
  have o1 : ¬ (1 : Int32) = 0 := by decide
  have y32 : (32 : Int32) = nI 32 := rfl
  have fin : ∀ b' v', v' = yb b' → b' = (b || (decide (k = 0) && !decide (c = 32))) → am_W g l mX10_split d (am_tp σ, am_us σ) Q 301 [some (.ref m), some (.int (nI i)), some (.int (nI p)), some (.int (nI e)), some (.int (nI c)), some (.int (nI n)), some (.int v), some (.int (nI k))] [.int v', .ref m] σ := by
    intro b' v' ev eb
    subst ev
    have hb : b' = false → b = false := fun q => by rw [eb] at q; exact bor q
    refine ysp_301 hH hK.1 hc hk (fun k0 => ?_) (fun k0 wv ewv => ?_)
    · by_cases c32 : c = 32
      · have e2 : b' = b := by rw [eb, decide_eq_true c32]; simp
        subst e2
        rw [if_pos ⟨k0, c32⟩] at hN
        exact hN _ b' cnt (hK.set (fun q => ⟨q, rfl⟩)) (hA k0 c32) (Nat.le_succ _) (ysF.rf.wf (Or.inr rfl))
      · have e2 : b' = true := by rw [eb, decide_eq_true k0, decide_eq_false c32]; simp
        subst e2
        have := hB k0 c32
        subst this
        rw [if_neg (fun z => c32 z.2)] at hN
        exact hN _ true cnt (hK.set (fun q => by cases q)) ysP.new (Nat.le_succ _) (ysF.rf.wf (Or.inr rfl))
    · have e2 : b' = b := by rw [eb, decide_eq_false k0]; simp
      subst e2
      rw [if_neg (fun z => k0 z.1)] at hN
      rw [← ewv] at hC
      exact hN _ b' (cnt + 1) (hK.add (fun q => q) (hC k0).1) (hC k0).2 (Nat.le_refl _) ((((ysF.rf.wf (Or.inr rfl)).wa (Or.inl rfl)).wa (Or.inr rfl)).wf (Or.inl rfl))
  refine kX10_split_276 ?_
  cases b with
  | true =>
    have e13 : am_i σ m 13 = 1 := hK.2.1
    simp (disch := omega) only [ax_const, ax_iload, ax_lload, ax_aload, ax_istore, ax_astore, ax_iinc, ax_i2, ax_i2n, ax_l2, ax_lsh, ax_ii, ax_il, ax_li, ax_pop, ax_dup, ax_dup2, ax_if, ax_cmp, ax_acmp, ax_goto, ax_getI, ax_getR, ax_putI, ax_putR, ax_gets, ax_getsT, ax_aldI, ax_aldR, ax_astI, ax_astR, ax_alen, ax_ret, ax_aret, ax_vret, am_st, am_kl, List.getElem?_cons_zero, List.getElem?_cons_succ, List.set_cons_zero, List.set_cons_succ, Value.category, true_and, and_true, if_true, if_false, reduceCtorEq, Bool.false_eq_true, false_implies, forall_const, Option.some.injEq, exists_eq_left', exists_eq_left, Sum.inl.injEq, Sum.inr.injEq, Prod.mk.injEq, hH.1, e13, o1]
    exact fun _ => fin true 1 rfl (by rw [Bool.true_or])
  | false =>
    have e13 : am_i σ m 13 = 0 := hK.2.1
    have y0 : ∀ z : Nat, z < 5 → ((nI z = 0) ↔ z = 0) := fun z hz => by
      have : (0 : Int32) = nI 0 := rfl
      rw [this, yl_eq (by omega) (by omega)]
    simp (disch := omega) only [ax_const, ax_iload, ax_lload, ax_aload, ax_istore, ax_astore, ax_iinc, ax_i2, ax_i2n, ax_l2, ax_lsh, ax_ii, ax_il, ax_li, ax_pop, ax_dup, ax_dup2, ax_if, ax_cmp, ax_acmp, ax_goto, ax_getI, ax_getR, ax_putI, ax_putR, ax_gets, ax_getsT, ax_aldI, ax_aldR, ax_astI, ax_astR, ax_alen, ax_ret, ax_aret, ax_vret, am_st, am_kl, List.getElem?_cons_zero, List.getElem?_cons_succ, List.set_cons_zero, List.set_cons_succ, Value.category, true_and, and_true, if_true, if_false, reduceCtorEq, Bool.false_eq_true, false_implies, forall_const, Option.some.injEq, exists_eq_left', exists_eq_left, Sum.inl.injEq, Sum.inr.injEq, Prod.mk.injEq, hH.1, e13, y32, yl_eq, y0 k hk]
    refine ⟨⟨fun z => ⟨fun z2 => fin false 0 rfl ?_, fun z2 => fin true 1 rfl ?_⟩, fun z => fin false 0 rfl ?_⟩, fun z => absurd trivial z⟩
    · rw [decide_eq_true z2]; simp
    · rw [decide_eq_true z, decide_eq_false z2]; rfl
    · rw [decide_eq_false z]; rfl
theorem ysp_226 {g : am_G} {l : Launch} {σ : am_S} {m i d p e c κ k cnt t : Nat} {o : Int32} {w : List Nat} {b : Bool} {ts : List (Nat × Int32)} {Q : Option Value → am_S → Prop} (hH : ym_H σ m) (hc : cnt < 82) (hc' : c < 128) (hw : w.length ≤ 80) (hκ : (κ = 1 ∧ k = 1) ∨ (κ = 2 ∧ k = 3)) (hK : ysK σ m b ts cnt) (hP : ysP b ts)
    (hT : κ = 1 ∨ w.length ≤ 9 → yw_ok (nI k) (ysv κ w) t o) (h35 : κ = 2 → 9 < w.length → t = 35)
    (hN : ∀ σ' b' cnt', ysK σ' m b' (ts ++ [(t, o)]) cnt' → ysP b' (ts ++ [(t, o)]) → cnt' ≤ cnt + 1 → ysF m σ σ' → am_W g l mX10_split d (am_tp σ, am_us σ) Q 14 [some (.ref m), some (.int (nI i)), some (.int (nI (p + w.length))), some (.int (nI e)), some (.int (nI c)), some (.int (nI w.length)), some (.int (ysv κ w)), some (.int (nI k))] [] σ') :
    am_W g l mX10_split d (am_tp σ, am_us σ) Q 226 [some (.ref m), some (.int (nI i)), some (.int (nI p)), some (.int (nI e)), some (.int (nI c)), some (.int (nI w.length)), some (.int (ysv κ w)), some (.int (nI k))] [] σ := by
  have o1 : ¬ (1 : Int32) = 0 := by decide
  have hk5 : k < 5 := by omega
  have hk0 : k ≠ 0 := by omega
  have hk2 : k ≠ 2 := by omega
  have y6 : (6 : Int32) = nI 6 := rfl
  have y9 : (9 : Int32) = nI 9 := rfl
  have y1 : (1 : Int32) = nI 1 := rfl
  have y3 : (3 : Int32) = nI 3 := rfl
  have l276 : ∀ (b' : Bool) v', v' = yb b' → b' = (b || (decide (κ = 2) && decide (9 < w.length))) → am_W g l mX10_split d (am_tp σ, am_us σ) Q 276 [some (.ref m), some (.int (nI i)), some (.int (nI p)), some (.int (nI e)), some (.int (nI c)), some (.int (nI w.length)), some (.int (ysv κ w)), some (.int (nI k))] [] (am_wi σ m 13 v') := by
    intro b' v' ev eb
    subst ev
    have hb : b' = false → b = false := fun q => by rw [eb] at q; exact bor q
    have h9 : b' = false → κ = 1 ∨ w.length ≤ 9 := fun q => by
      rw [eb] at q
      have q := bor2 q
      by_cases e : κ = 2
      · rw [decide_eq_true e, Bool.true_and] at q
        have := of_decide_eq_false q
        omega
      · omega
    refine ysp_276 (t := t) (o := o) (ts := ts) (b := b') hH.w hc hk5 hc' (hK.set (fun q => ⟨hb q, rfl⟩)) (fun z => absurd z hk0) (fun z => absurd z hk0) (fun _ => ⟨fun q => by rw [if_neg hk2]; exact hT (h9 q), fun q => ?_⟩) (fun σ' b2 cnt' k1 k2 k3 k4 => ?_)
    · by_cases e : κ = 2 ∧ 9 < w.length
      · rw [h35 e.1 e.2]
        exact ysP.new (b := true) rfl
      · refine hP.app ?_
        rw [eb] at q
        have : (decide (κ = 2) && decide (9 < w.length)) = false := by
          by_cases e1 : κ = 2
          · rw [decide_eq_false (fun z => e ⟨e1, z⟩), Bool.and_false]
          · rw [decide_eq_false e1, Bool.false_and]
        rw [this, Bool.or_false] at q
        exact q
    · rw [if_neg (fun z => hk0 z.1)] at k1 k2
      exact hN σ' b2 cnt' k1 k2 k3 ⟨(ysF.rf.wf (k := 13) (v := yb b') (Or.inr rfl)).1.tr k4.1, fun q q1 q2 => (k4.2 q q1 q2).trans ((ysF.rf.wf (m := m) (k := 13) (σ := σ) (v := yb b') (Or.inr rfl)).2 q q1 q2)⟩
  have l245 : ∀ z6, am_W g l mX10_split d (am_tp σ, am_us σ) Q 245 [some (.ref m), some (.int (nI i)), some (.int (nI p)), some (.int (nI e)), some (.int (nI c)), some (.int (nI w.length)), some (.int z6), some (.int (nI k))] [.int (ysv κ w)] σ := by
    intro z6
    refine kX10_split_245 ?_
    cases b with
    | true =>
      have e13 : am_i σ m 13 = 1 := hK.2.1
      simp (disch := omega) only [ax_const, ax_iload, ax_lload, ax_aload, ax_istore, ax_astore, ax_iinc, ax_i2, ax_i2n, ax_l2, ax_lsh, ax_ii, ax_il, ax_li, ax_pop, ax_dup, ax_dup2, ax_if, ax_cmp, ax_acmp, ax_goto, ax_getI, ax_getR, ax_putI, ax_putR, ax_gets, ax_getsT, ax_aldI, ax_aldR, ax_astI, ax_astR, ax_alen, ax_ret, ax_aret, ax_vret, am_st, am_kl, List.getElem?_cons_zero, List.getElem?_cons_succ, List.set_cons_zero, List.set_cons_succ, Value.category, true_and, and_true, if_true, if_false, reduceCtorEq, Bool.false_eq_true, false_implies, forall_const, Option.some.injEq, exists_eq_left', exists_eq_left, Sum.inl.injEq, Sum.inr.injEq, Prod.mk.injEq, hH.1, e13, o1]
      exact fun _ => ⟨Or.inr trivial, l276 true 1 rfl (by rw [Bool.true_or])⟩
    | false =>
      have e13 : am_i σ m 13 = 0 := hK.2.1
      simp (disch := omega) only [ax_const, ax_iload, ax_lload, ax_aload, ax_istore, ax_astore, ax_iinc, ax_i2, ax_i2n, ax_l2, ax_lsh, ax_ii, ax_il, ax_li, ax_pop, ax_dup, ax_dup2, ax_if, ax_cmp, ax_acmp, ax_goto, ax_getI, ax_getR, ax_putI, ax_putR, ax_gets, ax_getsT, ax_aldI, ax_aldR, ax_astI, ax_astR, ax_alen, ax_ret, ax_aret, ax_vret, am_st, am_kl, List.getElem?_cons_zero, List.getElem?_cons_succ, List.set_cons_zero, List.set_cons_succ, Value.category, true_and, and_true, if_true, if_false, reduceCtorEq, Bool.false_eq_true, false_implies, forall_const, Option.some.injEq, exists_eq_left', exists_eq_left, Sum.inl.injEq, Sum.inr.injEq, Prod.mk.injEq, hH.1, e13, y3, y9, yl_eq, yl_lt]
      refine ⟨⟨fun z => ⟨fun z2 => ⟨Or.inr trivial, l276 true 1 rfl ?_⟩, fun z2 => ⟨Or.inl trivial, l276 false 0 rfl ?_⟩⟩, fun z => ⟨Or.inl trivial, l276 false 0 rfl ?_⟩⟩, fun z => absurd trivial z⟩
      · rw [decide_eq_true (show κ = 2 by omega), decide_eq_true z2]; rfl
      · rw [decide_eq_false z2]; simp
      · rw [decide_eq_false (show ¬ κ = 2 by omega)]; rfl
  refine kX10_split_226 ?_
  simp (disch := omega) only [ax_const, ax_iload, ax_lload, ax_aload, ax_istore, ax_astore, ax_iinc, ax_i2, ax_i2n, ax_l2, ax_lsh, ax_ii, ax_il, ax_li, ax_pop, ax_dup, ax_dup2, ax_if, ax_cmp, ax_acmp, ax_goto, ax_getI, ax_getR, ax_putI, ax_putR, ax_gets, ax_getsT, ax_aldI, ax_aldR, ax_astI, ax_astR, ax_alen, ax_ret, ax_aret, ax_vret, am_st, am_kl, List.getElem?_cons_zero, List.getElem?_cons_succ, List.set_cons_zero, List.set_cons_succ, Value.category, true_and, and_true, if_true, if_false, reduceCtorEq, Bool.false_eq_true, false_implies, forall_const, Option.some.injEq, exists_eq_left', exists_eq_left, Sum.inl.injEq, Sum.inr.injEq, Prod.mk.injEq, y1, y6, yl_eq, yl_lt]
  refine ⟨fun z => ⟨fun z2 => ?_, fun z2 => l245 _⟩, fun z => l245 _⟩
  have e : ysv κ w = -1 := by
    unfold ysv
    rw [if_pos (by omega), if_neg (by omega)]
  have := l245 (ysv κ w)
  rw [e] at this ⊢
  exact this
