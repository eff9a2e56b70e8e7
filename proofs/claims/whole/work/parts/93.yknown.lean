/-! known, isSelect -/
/-- a column's place among a statement's tables -/
def ykt (T : Nat → Nat) (o : Nat) : Nat := if o / 4 = 2 then 0 else if o / 4 = T 1 then 0 else 1
def ykm (T : Nat → Nat) (o : Nat) : Nat := 4 * ykt T o + o % 4
def ykr (T : Nat → Nat) (q : Nat × Int32) : Int32 := if q.1 = 2 then nI (ykm T q.2.toNatClampNeg) else q.2
/-- a wrong name -/
def ykw (T : Nat → Nat) (ins : Bool) (o : Nat) : Bool := ins || (if o / 4 = 2 then decide (T 0 = 2) else !(decide (o / 4 = T 1) || decide (T 0 = 2)))
def ykn (T : Nat → Nat) (ins : Bool) (o : yp_O) : Bool := decide (T 0 = 2 ∧ T 1 = T 2) || o.any (fun q => decide (q.1 = 2) && ykw T ins q.2.toNatClampNeg)
/-- the codes, the first i of them known -/
def ykI (σ : am_S) (m i : Nat) (T : Nat → Nat) (o : yp_O) : Prop := am_i σ m 18 = nI o.length ∧ ∀ j q, o[j]? = some q → am_i σ (m + 12) j = nI q.1 ∧ am_i σ (m + 13) j = if j < i then ykr T q else yκ q
def ykF (m : Nat) (σ σ' : am_S) : Prop := ym_f (fun b => b = m + 13) σ σ'
theorem ykI.put {σ : am_S} {m i : Nat} {T : Nat → Nat} {o : yp_O} {q : Nat × Int32} (h : ykI σ m i T o) (hq : o[i]? = some q) : ykI (am_wi σ (m + 13) i (ykr T q)) m (i + 1) T o := by
  refine ⟨by rw [ym_io (by omega)]; exact h.1, fun j p hj => ⟨by rw [ym_io (by omega)]; exact (h.2 j p hj).1, ?_⟩⟩
  by_cases e : j = i
  · subst e
    rw [ym_is, if_pos (Nat.lt_succ_self _)]
    rw [hq] at hj
    cases hj
    rfl
  · rw [ym_ij e, (h.2 j p hj).2]
    by_cases c : j < i
    · rw [if_pos c, if_pos (by omega)]
    · rw [if_neg c, if_neg (by omega)]
theorem ykI.skip {σ : am_S} {m i : Nat} {T : Nat → Nat} {o : yp_O} {q : Nat × Int32} (h : ykI σ m i T o) (hq : o[i]? = some q) (h2 : q.1 ≠ 2) : ykI σ m (i + 1) T o := by
  refine ⟨h.1, fun j p hj => ⟨(h.2 j p hj).1, ?_⟩⟩
  rw [(h.2 j p hj).2]
  by_cases e : j = i
  · subst e
    rw [hq] at hj
    cases hj
    rw [if_neg (Nat.lt_irrefl _), if_pos (Nat.lt_succ_self _)]
    unfold ykr yκ
    rw [if_neg h2, if_neg h2]
  · by_cases c : j < i
    · rw [if_pos c, if_pos (by omega)]
    · rw [if_neg c, if_neg (by omega)]
theorem yκ_2 {o : Nat} (h : o < 12) : yκ (2, nI o) = nI (if o / 4 = 2 then o % 4 else o + 4) := by
  show (if 2 = 2 then nI (if (nI o).toNatClampNeg / 4 = 2 then (nI o).toNatClampNeg % 4 else (nI o).toNatClampNeg + 4) else nI o) = _
  rw [if_pos rfl, nI_clamp (by omega)]
theorem ykn_27 {g : am_G} {l : Launch} {m d tp us : Nat} {T : Nat → Nat} {ins : Bool} {o : yp_O} {Q : Option Value → am_S → Prop} {σ0 : am_S} (hd : 1 ≤ d) (ho : o.length ≤ 99) (hk : yk o) (hcode : ∀ q, q ∈ o → q.1 < 100) (hT0 : T 0 < 3) (hT1 : T 1 < 2) (h24 : am_i σ0 m 24 = yw_c (xt_w 0) ↔ ins = true) (h25 : am_i σ0 m 25 = nI (T 0)) (h16 : am_i σ0 (m + 16) 0 = nI (T 1)) (hH0 : ym_H σ0 m) (htp : am_tp σ0 = tp) (hus : am_us σ0 = us)
    (hQ0 : o.any (fun q => decide (q.1 = 2) && ykw T ins q.2.toNatClampNeg) = true → ∀ σ', ykF m σ0 σ' → Q (some (.int 0)) σ') (hQ1 : o.any (fun q => decide (q.1 = 2) && ykw T ins q.2.toNatClampNeg) = false → ∀ σ', ykI σ' m o.length T o → ykF m σ0 σ' → Q (some (.int 1)) σ') :
    ∀ (n i : Nat) (σ : am_S) (z2 z3 : Option Value), n + i = o.length → (o.take i).any (fun q => decide (q.1 = 2) && ykw T ins q.2.toNatClampNeg) = false → ykI σ m i T o → ykF m σ0 σ → am_W g l mX10_known d (tp, us) Q 27 [some (.ref m), some (.int (nI i)), z2, z3] [] σ := by
  intro n
  induction n with
  | zero =>
    intro i σ z2 z3 hn ha hI hf
    have hH := hH0.f hf
    have e18 := hI.1
    have hi : i = o.length := by omega
    subst hi
    rw [List.take_length] at ha
    refine kX10_known_27 ?_
    simp (disch := omega) only [ax_const, ax_iload, ax_lload, ax_aload, ax_istore, ax_astore, ax_iinc, ax_i2, ax_i2n, ax_l2, ax_lsh, ax_ii, ax_il, ax_li, ax_pop, ax_dup, ax_dup2, ax_if, ax_cmp, ax_acmp, ax_goto, ax_getI, ax_getR, ax_putI, ax_putR, ax_gets, ax_getsT, ax_aldI, ax_aldR, ax_astI, ax_astR, ax_alen, ax_ret, ax_aret, ax_vret, am_st, am_kl, List.getElem?_cons_zero, List.getElem?_cons_succ, List.set_cons_zero, List.set_cons_succ, Value.category, true_and, and_true, if_true, if_false, reduceCtorEq, Bool.false_eq_true, false_implies, forall_const, Option.some.injEq, exists_eq_left', exists_eq_left, Sum.inl.injEq, Sum.inr.injEq, Prod.mk.injEq, hH.1, e18, yl_lt]
    exact ⟨fun z => by omega, fun _ => ⟨Or.inr trivial, hf.tp.trans htp, hf.us.trans hus, hQ1 ha σ hI hf⟩⟩
  | succ n ih =>
    intro i σ z2 z3 hn ha hI hf
    have hH := hH0.f hf
    have e18 := hI.1
    have hi : i < o.length := by omega
    obtain ⟨q, hq⟩ : ∃ q, o[i]? = some q := ⟨_, List.getElem?_eq_getElem hi⟩
    have hqm : q ∈ o := List.mem_of_getElem? hq
    obtain ⟨e12, e13⟩ := hI.2 i q hq
    rw [if_neg (Nat.lt_irrefl _)] at e13
    have hq1 := hcode q hqm
    have etk : (o.take (i + 1)).any (fun q => decide (q.1 = 2) && ykw T ins q.2.toNatClampNeg) = (decide (q.1 = 2) && ykw T ins q.2.toNatClampNeg) := by
      rw [List.take_succ, hq, List.any_append, ha]
      simp
    have e24 : am_i σ m 24 = am_i σ0 m 24 := by rw [hf.i (a := m) (by omega)]
    have e25 : am_i σ m 25 = nI (T 0) := by rw [hf.i (a := m) (by omega)]; exact h25
    have e16 : am_i σ (m + 16) 0 = nI (T 1) := by rw [hf.i (a := m + 16) (by omega)]; exact h16
    have tp' := hf.tp.trans htp
    have us' := hf.us.trans hus
    have d4 : ¬ (4 : Int32) = 0 := am_nz4
    by_cases c2 : q.1 = 2
    · obtain ⟨p, hp, ep⟩ := hk q hqm c2
      have eq : q = (2, nI p) := Prod.ext c2 ep
      subst eq
      have ec : ((2 : Nat), nI p).2.toNatClampNeg = p := nI_clamp (by omega)
      rw [yκ_2 hp] at e13
      rw [ec] at etk
      have bad : ykw T ins p = true → Q (some (.int 0)) σ := fun hb => hQ0 (List.any_eq_true.mpr ⟨(2, nI p), hqm, by rw [ec, hb]; rfl⟩) σ hf
      have good : ykw T ins p = false → ∀ v z2' z3', v = nI (ykm T p) → am_W g l mX10_known d (tp, us) Q 27 [some (.ref m), some (.int (nI (i + 1))), z2', z3'] [] (am_wi σ (m + 13) i v) := by
        intro hb v z2' z3' ev
        have er : ykr T (2, nI p) = nI (ykm T p) := by
          unfold ykr
          rw [if_pos rfl, ec]
        rw [ev, ← er]
        exact ih (i + 1) _ z2' z3' (by omega) (by rw [etk, hb]; rfl) (hI.put hq) (hf.wi (a := m + 13) rfl)
      have hH' := hH
      have l126 : ykw T ins p = false → ∀ z, am_W g l mX10_known d (tp, us) Q 126 [some (.ref m), some (.int (nI i)), some (.int z), some (.int (nI (ykt T p)))] [] σ := by
        intro hb z
        have ht : ykt T p < 2 := by
          unfold ykt
          split
          · decide
          · split <;> decide
        have e13' : am_i σ (m + 13) i = nI (if p / 4 = 2 then p % 4 else p + 4) := e13
        have ev : 4 * nI (ykt T p) + (nI (if p / 4 = 2 then p % 4 else p + 4) - nI (if p / 4 = 2 then p % 4 else p + 4) / 4 * 4) = nI (ykm T p) := by
          have y4 : nI 4 = (4 : Int32) := rfl
          have hl : (if p / 4 = 2 then p % 4 else p + 4) < 2 ^ 31 := by split <;> omega
          have hm : (if p / 4 = 2 then p % 4 else p + 4) % 4 = p % 4 := by split <;> omega
          rw [am_d4 hl, am_m4 hl, hm]
          show nI 4 * nI (ykt T p) + nI (p % 4) = _
          rw [pk_mul, nI_add]
          rfl
        refine kX10_known_126 ?_
        simp (disch := omega) only [ax_const, ax_iload, ax_lload, ax_aload, ax_istore, ax_astore, ax_iinc, ax_i2, ax_i2n, ax_l2, ax_lsh, ax_ii, ax_il, ax_li, ax_pop, ax_dup, ax_dup2, ax_if, ax_cmp, ax_acmp, ax_goto, ax_getI, ax_getR, ax_putI, ax_putR, ax_gets, ax_getsT, ax_aldI, ax_aldR, ax_astI, ax_astR, ax_alen, ax_ret, ax_aret, ax_vret, am_st, am_kl, List.getElem?_cons_zero, List.getElem?_cons_succ, List.set_cons_zero, List.set_cons_succ, Value.category, true_and, and_true, if_true, if_false, reduceCtorEq, Bool.false_eq_true, false_implies, forall_const, Option.some.injEq, exists_eq_left', exists_eq_left, Sum.inl.injEq, Sum.inr.injEq, Prod.mk.injEq, nI_toInt, nI_clamp, am_ix_nI, am_ix_0, am_ix_1, am_ix_2, am_ix_3, am_n0, am_n1, am_n2, am_n3, am_n4, am_t0, am_t1, am_t2, am_t3, am_t4, am_tm1, am_nS, am_nP, am_nM, Int.ofNat_lt, Int.ofNat_le, hH.1, hH.r15, hH.s15, yl_tn, e13', am_nz4]
        exact ⟨fun z => by omega, fun _ => ⟨by omega, fun z => z, by omega, good hb _ _ _ ev⟩⟩
      -- a place, and what it is worth
      have l91 : ∀ (pl v3 : Int32) z, (p / 4 = 2 → pl = -1 ∧ v3 = 0) → (p / 4 ≠ 2 → pl = nI (p / 4) ∧ v3 = (if p / 4 = T 1 then 0 else if T 0 = 2 then 1 else -1)) → am_W g l mX10_known d (tp, us) Q 91 [some (.ref m), some (.int (nI i)), some (.int pl), z] [.int v3] σ := by
        intro pl v3 z h2 hn2
        refine kX10_known_91 ?_
        simp (disch := omega) only [ax_const, ax_iload, ax_lload, ax_aload, ax_istore, ax_astore, ax_iinc, ax_i2, ax_i2n, ax_l2, ax_lsh, ax_ii, ax_il, ax_li, ax_pop, ax_dup, ax_dup2, ax_if, ax_cmp, ax_acmp, ax_goto, ax_getI, ax_getR, ax_putI, ax_putR, ax_gets, ax_getsT, ax_aldI, ax_aldR, ax_astI, ax_astR, ax_alen, ax_ret, ax_aret, ax_vret, am_st, am_kl, List.getElem?_cons_zero, List.getElem?_cons_succ, List.set_cons_zero, List.set_cons_succ, Value.category, true_and, and_true, if_true, if_false, reduceCtorEq, Bool.false_eq_true, false_implies, forall_const, Option.some.injEq, exists_eq_left', exists_eq_left, Sum.inl.injEq, Sum.inr.injEq, Prod.mk.injEq, nI_toInt, nI_clamp, am_ix_nI, am_ix_0, am_ix_1, am_ix_2, am_ix_3, am_n0, am_n1, am_n2, am_n3, am_n4, am_t0, am_t1, am_t2, am_t3, am_t4, am_tm1, am_nS, am_nP, am_nM, Int.ofNat_lt, Int.ofNat_le, hH.1]
        refine am_callK [.int 105, .int 110, .int 115, .int 101, .int 114, .int 116] [.int (am_i σ m 24)] (d' := 0) (lim' := (am_tp σ, am_us σ)) rfl (by omega) (Nat.le_of_eq tp') (Nat.le_of_eq us') rfl (Nat.le_of_ble_eq_true rfl) am_stat ?_
        refine c_yword (fun _ _ => ?_)
        rw [yw_insert]
        simp (disch := omega) only [ax_const, ax_iload, ax_lload, ax_aload, ax_istore, ax_astore, ax_iinc, ax_i2, ax_i2n, ax_l2, ax_lsh, ax_ii, ax_il, ax_li, ax_pop, ax_dup, ax_dup2, ax_if, ax_cmp, ax_acmp, ax_goto, ax_getI, ax_getR, ax_putI, ax_putR, ax_gets, ax_getsT, ax_aldI, ax_aldR, ax_astI, ax_astR, ax_alen, ax_ret, ax_aret, ax_vret, am_st, am_kl, List.getElem?_cons_zero, List.getElem?_cons_succ, List.set_cons_zero, List.set_cons_succ, Value.category, true_and, and_true, if_true, if_false, reduceCtorEq, Bool.false_eq_true, false_implies, forall_const, Option.some.injEq, exists_eq_left', exists_eq_left, Sum.inl.injEq, Sum.inr.injEq, Prod.mk.injEq, Option.toList_some, Option.toList_none, List.cons_append, List.nil_append, List.append_nil, hH.1, e24, e25, h24]
        refine ⟨fun ci => ⟨Or.inl trivial, tp', us', bad ?_⟩, fun ci => ?_⟩
        · unfold ykw; rw [ci]; rfl
        have ci : ins = false := bnt ci
        by_cases c : p / 4 = 2
        · obtain ⟨rfl, rfl⟩ := h2 c
          have em : (Int32.toInt (-1) < 0) = True := eq_true (by decide)
          have ekt : ykt T p = 0 := if_pos c
          have l126 := fun hb z => l126 hb z
          rw [ekt] at l126
          simp only [em, if_true, true_implies, not_true_eq_false, false_implies, and_true, yl_2]
          simp (disch := omega) only [yl_eq]
          refine ⟨fun c0 => ⟨Or.inl trivial, tp', us', bad ?_⟩, fun c0 => l126 ?_ _⟩
          · unfold ykw; rw [if_pos c, decide_eq_true c0, Bool.or_true]
          · unfold ykw; rw [if_pos c, decide_eq_false c0, ci]; rfl
        · obtain ⟨rfl, ev3⟩ := hn2 c
          simp (disch := omega) only [yl_tn, false_implies, true_and, not_false_eq_true, true_implies]
          by_cases c1 : p / 4 = T 1
          · rw [if_pos c1] at ev3
            have ekt : ykt T p = 0 := by unfold ykt; rw [if_neg c, if_pos c1]
            rw [ekt] at l126
            rw [ev3]
            exact l126 (by unfold ykw; rw [if_neg c, decide_eq_true c1, ci]; rfl) _
          · rw [if_neg c1] at ev3
            by_cases c0 : T 0 = 2
            · rw [if_pos c0] at ev3
              have ekt : ykt T p = 1 := by unfold ykt; rw [if_neg c, if_neg c1]
              rw [ekt] at l126
              rw [ev3]
              exact l126 (by unfold ykw; rw [if_neg c, decide_eq_true c0, ci, Bool.or_true]; rfl) _
            · rw [if_neg c0] at ev3
              rw [ev3]
              refine kX10_known_126 ?_
              have em : (Int32.toInt (-1) < 0) = True := eq_true (by decide)
              simp (disch := omega) only [ax_const, ax_iload, ax_lload, ax_aload, ax_istore, ax_astore, ax_iinc, ax_i2, ax_i2n, ax_l2, ax_lsh, ax_ii, ax_il, ax_li, ax_pop, ax_dup, ax_dup2, ax_if, ax_cmp, ax_acmp, ax_goto, ax_getI, ax_getR, ax_putI, ax_putR, ax_gets, ax_getsT, ax_aldI, ax_aldR, ax_astI, ax_astR, ax_alen, ax_ret, ax_aret, ax_vret, am_st, am_kl, List.getElem?_cons_zero, List.getElem?_cons_succ, List.set_cons_zero, List.set_cons_succ, Value.category, true_and, and_true, if_true, if_false, reduceCtorEq, Bool.false_eq_true, false_implies, forall_const, Option.some.injEq, exists_eq_left', exists_eq_left, Sum.inl.injEq, Sum.inr.injEq, Prod.mk.injEq, em]
              refine ⟨⟨Or.inl trivial, tp', us', bad ?_⟩, fun z => absurd trivial z⟩
              unfold ykw; rw [if_neg c, decide_eq_false c1, decide_eq_false c0]; simp
      refine kX10_known_27 ?_
      have y2 : (2 : Int32) = nI 2 := rfl
      by_cases c : p / 4 = 2
      · rw [if_pos c] at e13
        have hl : p % 4 < 2 ^ 31 := by omega
        have hz : p % 4 / 4 = 0 := by omega
        have em : nI 0 - 1 = -1 := by decide
        simp (disch := omega) only [ax_const, ax_iload, ax_lload, ax_aload, ax_istore, ax_astore, ax_iinc, ax_i2, ax_i2n, ax_l2, ax_lsh, ax_ii, ax_il, ax_li, ax_pop, ax_dup, ax_dup2, ax_if, ax_cmp, ax_acmp, ax_goto, ax_getI, ax_getR, ax_putI, ax_putR, ax_gets, ax_getsT, ax_aldI, ax_aldR, ax_astI, ax_astR, ax_alen, ax_ret, ax_aret, ax_vret, am_st, am_kl, List.getElem?_cons_zero, List.getElem?_cons_succ, List.set_cons_zero, List.set_cons_succ, Value.category, true_and, and_true, if_true, if_false, reduceCtorEq, Bool.false_eq_true, false_implies, forall_const, Option.some.injEq, exists_eq_left', exists_eq_left, Sum.inl.injEq, Sum.inr.injEq, Prod.mk.injEq, nI_toInt, nI_clamp, am_ix_nI, am_ix_0, am_ix_1, am_ix_2, am_ix_3, am_n0, am_n1, am_n2, am_n3, am_n4, am_t0, am_t1, am_t2, am_t3, am_t4, am_tm1, am_nS, am_nP, am_nM, Int.ofNat_lt, Int.ofNat_le, hH.1, hH.r14, hH.s14, hH.r15, hH.s15, e18, e12, e13, y2, am_d4, am_nz4, hz, em]
        exact ⟨fun _ => ⟨by omega, ⟨by omega, fun z => z, fun _ => l91 (-1) 0 _ (fun _ => ⟨rfl, rfl⟩) (fun h => absurd c h), fun z => absurd (by decide) z⟩, fun z => absurd trivial z⟩, fun z => by omega⟩
      · rw [if_neg c] at e13
        have hz : (p + 4) / 4 = p / 4 + 1 := by omega
        simp (disch := omega) only [ax_const, ax_iload, ax_lload, ax_aload, ax_istore, ax_astore, ax_iinc, ax_i2, ax_i2n, ax_l2, ax_lsh, ax_ii, ax_il, ax_li, ax_pop, ax_dup, ax_dup2, ax_if, ax_cmp, ax_acmp, ax_goto, ax_getI, ax_getR, ax_putI, ax_putR, ax_gets, ax_getsT, ax_aldI, ax_aldR, ax_astI, ax_astR, ax_alen, ax_ret, ax_aret, ax_vret, am_st, am_kl, List.getElem?_cons_zero, List.getElem?_cons_succ, List.set_cons_zero, List.set_cons_succ, Value.category, true_and, and_true, if_true, if_false, reduceCtorEq, Bool.false_eq_true, false_implies, forall_const, Option.some.injEq, exists_eq_left', exists_eq_left, Sum.inl.injEq, Sum.inr.injEq, Prod.mk.injEq, nI_toInt, nI_clamp, am_ix_nI, am_ix_0, am_ix_1, am_ix_2, am_ix_3, am_n0, am_n1, am_n2, am_n3, am_n4, am_t0, am_t1, am_t2, am_t3, am_t4, am_tm1, am_nS, am_nP, am_nM, Int.ofNat_lt, Int.ofNat_le, hH.1, hH.r14, hH.s14, hH.r15, hH.s15, hH.r28, hH.s28, e18, e12, e13, e16, e25, y2, am_d4, am_nz4, hz, Nat.add_sub_cancel, yl_eq]
        refine ⟨fun _ => ⟨by omega, ⟨by omega, fun z => z, fun z => by omega, fun _ => ⟨by decide, fun e1 => l91 _ 0 _ (fun h => absurd h c) (fun _ => ⟨rfl, by rw [if_pos e1]⟩), fun e1 => ⟨fun e2 => l91 _ 1 _ (fun h => absurd h c) (fun _ => ⟨rfl, by rw [if_neg e1, if_pos e2]⟩), fun e2 => l91 _ (-1) _ (fun h => absurd h c) (fun _ => ⟨rfl, by rw [if_neg e1, if_neg e2]⟩)⟩⟩⟩, fun z => absurd trivial z⟩, fun z => by omega⟩
    · have c2' : ¬ nI q.1 = nI 2 := fun e => c2 ((nI_inj (by omega) (by decide)).mp e)
      have y2 : (2 : Int32) = nI 2 := rfl
      have nx : ∀ z2' z3', am_W g l mX10_known d (tp, us) Q 27 [some (.ref m), some (.int (nI (i + 1))), z2', z3'] [] σ := fun z2' z3' => ih (i + 1) σ z2' z3' (by omega) (by rw [etk, decide_eq_false c2]; rfl) (hI.skip hq c2) hf
      refine kX10_known_27 ?_
      simp (disch := omega) only [ax_const, ax_iload, ax_lload, ax_aload, ax_istore, ax_astore, ax_iinc, ax_i2, ax_i2n, ax_l2, ax_lsh, ax_ii, ax_il, ax_li, ax_pop, ax_dup, ax_dup2, ax_if, ax_cmp, ax_acmp, ax_goto, ax_getI, ax_getR, ax_putI, ax_putR, ax_gets, ax_getsT, ax_aldI, ax_aldR, ax_astI, ax_astR, ax_alen, ax_ret, ax_aret, ax_vret, am_st, am_kl, List.getElem?_cons_zero, List.getElem?_cons_succ, List.set_cons_zero, List.set_cons_succ, Value.category, true_and, and_true, if_true, if_false, reduceCtorEq, Bool.false_eq_true, false_implies, forall_const, Option.some.injEq, exists_eq_left', exists_eq_left, Sum.inl.injEq, Sum.inr.injEq, Prod.mk.injEq, nI_toInt, nI_clamp, am_ix_nI, am_ix_0, am_ix_1, am_ix_2, am_ix_3, am_n0, am_n1, am_n2, am_n3, am_n4, am_t0, am_t1, am_t2, am_t3, am_t4, am_tm1, am_nS, am_nP, am_nM, Int.ofNat_lt, Int.ofNat_le, hH.1, hH.r14, hH.s14, e18, e12, y2, c2', yl_lt]
      exact ⟨fun _ => ⟨by omega, fun _ => nx _ _⟩, fun z => by omega⟩
theorem c_yknown {g : am_G} {l : Launch} {σ : am_S} {m : Nat} {T : Nat → Nat} {ins : Bool} {o : yp_O} {Q : Option Value → am_S → Prop} (hH : ym_H σ m) (ho : o.length ≤ 99) (hO : yb_o σ m o) (hk : yk o) (hR : yR σ m T) (hT0 : T 0 < 3) (hT1 : T 1 < 2) (hT2 : T 0 = 2 → T 2 < 2) (h24 : am_i σ m 24 = yw_c (xt_w 0) ↔ ins = true)
    (hQ0 : ykn T ins o = true → ∀ σ', ykF m σ σ' → Q (some (.int 0)) σ') (hQ1 : ykn T ins o = false → ∀ σ', ykI σ' m o.length T o → ykF m σ σ' → Q (some (.int 1)) σ') : am_C g l mX10_known 1 (am_tp σ, am_us σ) [.ref m] σ Q := by
  have e25 := hR.1
  have e160 := hR.2.1 0 (by decide)
  have e161 := hR.2.1 1 (by decide)
  have hc : ∀ q, q ∈ o → q.1 < 100 := fun q hq => by
    obtain ⟨j, hj⟩ := List.getElem?_of_mem hq
    exact (hO.2 j q hj).2.2
  have hI : ykI σ m 0 T o := ⟨hO.1, fun j q hj => ⟨(hO.2 j q hj).1, by rw [if_neg (Nat.not_lt_zero _)]; exact (hO.2 j q hj).2.1⟩⟩
  have main : ¬ (T 0 = 2 ∧ T 1 = T 2) → am_W g l mX10_known 1 (am_tp σ, am_us σ) Q 27 [some (.ref m), some (.int (nI 0)), none, none] [] σ := by
    intro hn
    unfold ykn at hQ0 hQ1
    rw [decide_eq_false hn] at hQ0 hQ1
    exact ykn_27 (σ0 := σ) (Nat.le_refl _) ho hk hc hT0 hT1 h24 e25 e160 hH rfl rfl (fun h => hQ0 (by rw [h]; rfl)) (fun h => hQ1 (by rw [h]; rfl)) o.length 0 σ none none rfl rfl hI .rf
  refine am_C.go [some (.ref m), none, none, none] (by decide +kernel) (Nat.le_of_ble_eq_true rfl) rfl (kX10_known_0 ?_)
  simp (disch := omega) only [ax_const, ax_iload, ax_lload, ax_aload, ax_istore, ax_astore, ax_iinc, ax_i2, ax_i2n, ax_l2, ax_lsh, ax_ii, ax_il, ax_li, ax_pop, ax_dup, ax_dup2, ax_if, ax_cmp, ax_acmp, ax_goto, ax_getI, ax_getR, ax_putI, ax_putR, ax_gets, ax_getsT, ax_aldI, ax_aldR, ax_astI, ax_astR, ax_alen, ax_ret, ax_aret, ax_vret, am_st, am_kl, List.getElem?_cons_zero, List.getElem?_cons_succ, List.set_cons_zero, List.set_cons_succ, Value.category, true_and, and_true, if_true, if_false, reduceCtorEq, Bool.false_eq_true, false_implies, forall_const, Option.some.injEq, exists_eq_left', exists_eq_left, Sum.inl.injEq, Sum.inr.injEq, Prod.mk.injEq, nI_toInt, nI_clamp, am_ix_nI, am_ix_0, am_ix_1, am_ix_2, am_ix_3, am_n0, am_n1, am_n2, am_n3, am_n4, am_t0, am_t1, am_t2, am_t3, am_t4, am_tm1, am_nS, am_nP, am_nM, Int.ofNat_lt, Int.ofNat_le, hH.1, hH.r28, hH.s28, e25, yl_2, yl_eq]
  refine ⟨fun c => ?_, fun c => main (fun z => c z.1)⟩
  have h2 := hT2 c
  simp (disch := omega) only [e160, e161, Nat.reduceAdd, yl_eq]
  exact ⟨by decide, by decide, fun e => ⟨Or.inl trivial, hQ0 (by unfold ykn; rw [decide_eq_true ⟨c, e⟩]; rfl) σ .rf⟩, fun e => main (fun z => e z.2)⟩
theorem c_yisSel {g : am_G} {l : Launch} {σ : am_S} {m : Nat} {Q : Option Value → am_S → Prop} (hH : ym_H σ m) (hQ1 : am_i σ m 24 = yw_c (xt_w 3) → Q (some (.int 1)) σ) (hQ0 : am_i σ m 24 ≠ yw_c (xt_w 3) → Q (some (.int 0)) σ) : am_C g l mX10_isSelect 1 (am_tp σ, am_us σ) [.ref m] σ Q := by
  refine am_C.go [some (.ref m)] (by decide +kernel) (Nat.le_of_ble_eq_true rfl) rfl (kX10_isSelect_0 ?_)
  simp (disch := omega) only [ax_const, ax_iload, ax_lload, ax_aload, ax_istore, ax_astore, ax_iinc, ax_i2, ax_i2n, ax_l2, ax_lsh, ax_ii, ax_il, ax_li, ax_pop, ax_dup, ax_dup2, ax_if, ax_cmp, ax_acmp, ax_goto, ax_getI, ax_getR, ax_putI, ax_putR, ax_gets, ax_getsT, ax_aldI, ax_aldR, ax_astI, ax_astR, ax_alen, ax_ret, ax_aret, ax_vret, am_st, am_kl, List.getElem?_cons_zero, List.getElem?_cons_succ, List.set_cons_zero, List.set_cons_succ, Value.category, true_and, and_true, if_true, if_false, reduceCtorEq, Bool.false_eq_true, false_implies, forall_const, Option.some.injEq, exists_eq_left', exists_eq_left, Sum.inl.injEq, Sum.inr.injEq, Prod.mk.injEq, hH.1]
  refine am_callK [.int 115, .int 101, .int 108, .int 101, .int 99, .int 116] [.int (am_i σ m 24)] (d' := 0) (lim' := (am_tp σ, am_us σ)) rfl (by omega) (Nat.le_refl _) (Nat.le_refl _) rfl (Nat.le_of_ble_eq_true rfl) am_stat ?_
  refine c_yword (fun _ _ => ?_)
  rw [yw_select]
  simp (disch := omega) only [ax_const, ax_iload, ax_lload, ax_aload, ax_istore, ax_astore, ax_iinc, ax_i2, ax_i2n, ax_l2, ax_lsh, ax_ii, ax_il, ax_li, ax_pop, ax_dup, ax_dup2, ax_if, ax_cmp, ax_acmp, ax_goto, ax_getI, ax_getR, ax_putI, ax_putR, ax_gets, ax_getsT, ax_aldI, ax_aldR, ax_astI, ax_astR, ax_alen, ax_ret, ax_aret, ax_vret, am_st, am_kl, List.getElem?_cons_zero, List.getElem?_cons_succ, List.set_cons_zero, List.set_cons_succ, Value.category, true_and, and_true, if_true, if_false, reduceCtorEq, Bool.false_eq_true, false_implies, forall_const, Option.some.injEq, exists_eq_left', exists_eq_left, Sum.inl.injEq, Sum.inr.injEq, Prod.mk.injEq, Option.toList_some, Option.toList_none, List.cons_append, List.nil_append, List.append_nil]
  exact ⟨fun c => ⟨Or.inr trivial, hQ1 c⟩, fun c => ⟨Or.inl trivial, hQ0 c⟩⟩
