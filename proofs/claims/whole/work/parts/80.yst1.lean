/-! the reference's parser: name, term, perhapsWhere -/
theorem yc_go_I {ts : List (Nat × Int32)} (hEN : xp_EN ts) : ∀ n S, yc_I ts S → yc_I ts (yc_go ts n S)
  | 0, S, hI => hI
  | n + 1, S, hI => by
    rw [yc_go]
    by_cases c : S.2.2.2.2.2 = 0 ∨ S.2.1 = true
    · rw [if_pos c]; exact hI
    · have hb : S.2.1 = false := by
        cases e : S.2.1 with
        | true => exact absurd (Or.inr e) c
        | false => rfl
      rw [if_neg c]
      split
      · exact yc_go_I hEN n _ (yc_single_I hEN hI hb)
      · exact yc_go_I hEN n _ (yc_conn_I hEN hI hb)
theorem yc_co_I {ts : List (Nat × Int32)} {a : Nat} {o : yp_O} (hEN : xp_EN ts) (ha : a < ts.length) (hI : o.length + 1 ≤ a) : ((yc_co ts a o).2.1 = false → (yc_co ts a o).1 < ts.length) ∧ (yc_co ts a o).1 ≤ ts.length ∧ (yc_co ts a o).2.2.length + 1 ≤ (yc_co ts a o).1 + (if (yc_co ts a o).2.1 = true then 1 else 0) := by
  have := yc_go_I hEN (yc_mu ts (a, false, o, 0, [], 2) + 1) (a, false, o, 0, [], 2) ⟨fun _ => ha, Nat.le_of_lt ha, by show o.length + 0 + 1 ≤ a + 0; omega⟩
  obtain ⟨h1, h2, h3⟩ := this
  unfold yc_co yc_fin yc_R
  dsimp only
  generalize yc_go ts (yc_mu ts (a, false, o, 0, [], 2) + 1) (a, false, o, 0, [], 2) = S at *
  refine ⟨fun h => h1 (Bool.or_eq_false_iff.mp h).1, h2, ?_⟩
  rw [List.length_append]
  have e : (qe S.2.2.2.2.1).length = S.2.2.2.2.1.length := by simp [qe]
  rw [e]
  have : (if S.2.1 = true then 1 else 0) ≤ (if (S.2.1 || decide (13 ∈ S.2.2.2.2.1)) = true then 1 else 0) := by
    cases S.2.1 <;> simp
  omega
theorem ys_tm_I {ts : List (Nat × Int32)} {a : Nat} {o : yp_O} {c : Bool} (hEN : xp_EN ts) (ha : a < ts.length) (hI : o.length + 1 ≤ a) : (ys_tm ts c a o).1 < ts.length ∧ (ys_tm ts c a o).2.2.1.length + 1 ≤ (ys_tm ts c a o).1 + (if (ys_tm ts c a o).2.1 = true then 1 else 0) := by
  unfold ys_tm
  split
  · rename_i q
    exact ⟨hEN.lt (a := a) (by rw [q.2]; decide), by show o.length + 1 ≤ a + 1 + 0; omega⟩
  · split
    · rename_i q
      have hlt := hEN.lt (a := a) (by rw [q.2]; decide)
      split
      · rename_i q2
        have hlt2 := hEN.lt (a := a + 1) (by rw [q2]; decide)
        obtain ⟨e1, e2⟩ := yp_ex_I (ou := 0) (a := a + 2) (h := 0) (o := o) hEN hlt2 (by omega)
        split
        · rename_i q3
          rw [if_pos q3] at e2
          exact ⟨e1, e2⟩
        · rename_i q3
          rw [if_neg q3] at e2
          split
          · rename_i q4
            refine ⟨hEN.lt (a := (yp_ex ts 0 (a + 2) o).1) (by rw [q4]; decide), ?_⟩
            show (yp_ex ts 0 (a + 2) o).2.2.length + 1 ≤ (yp_ex ts 0 (a + 2) o).1 + 1 + 0
            omega
          · refine ⟨e1, ?_⟩
            show (yp_ex ts 0 (a + 2) o).2.2.length + 1 ≤ (yp_ex ts 0 (a + 2) o).1 + 1
            omega
      · exact ⟨hlt, by show o.length + 1 ≤ a + 1 + 1; omega⟩
    · obtain ⟨e1, e2⟩ := yp_ex_I (ou := 0) (a := a) (h := 0) (o := o) hEN ha (by omega)
      exact ⟨e1, e2⟩
/-- with the registers -/
def yZR (σ : am_S) (m : Nat) (ts : List (Nat × Int32)) (S : ys_S) (W : List Nat) (ns : Int32) (w : Bool) : Prop := yZ σ m ts S.1 S.2.1 S.2.2.1 W [] ns 0 w ∧ yR σ m S.2.2.2
theorem yR.fe {σ : am_S} {m k : Nat} {v : Int32} {T : Nat → Nat} (h : yR σ m T) (hk : 12 ≤ k) (hk2 : k ≤ 23) : yR (am_wi σ m k v) m T := h.f (yb_f.rf.wf hk hk2)
theorem c_yname {g : am_G} {l : Launch} {σ : am_S} {m : Nat} {ts : List (Nat × Int32)} {S : ys_S} {W : List Nat} {ns : Int32} {w : Bool} {Q : Option Value → am_S → Prop} (h : yZR σ m ts S W ns w) (ha : S.1 < ts.length) (hT0 : S.2.2.2 0 < 2)
    (hQ : ∀ σ', yZR σ' m ts (ys_name ts S) W ns w → ye_f m σ σ' → Q none σ') : am_C g l mX10_name 1 (am_tp σ, am_us σ) [.ref m] σ Q := by
  obtain ⟨a, b, o, T⟩ := S
  obtain ⟨h, hR⟩ := h
  have h : yZ σ m ts a b o W [] ns 0 w := h
  have hR : yR σ m T := hR
  have ha : a < ts.length := ha
  have hT0 : T 0 < 2 := hT0
  obtain ⟨hH, hT, hP, hW, hHH⟩ := id h
  have hok := hT.2 a ha
  have e25 : am_i σ m 25 = nI (T 0) := hR.1
  unfold ys_name at hQ
  dsimp only at hQ
  refine am_C.go [some (.ref m)] (by decide +kernel) (Nat.le_of_ble_eq_true rfl) rfl (kX10_name_0 ?_)
  simp (disch := omega) only [ax_const, ax_iload, ax_lload, ax_aload, ax_istore, ax_astore, ax_iinc, ax_i2, ax_i2n, ax_l2, ax_lsh, ax_ii, ax_il, ax_li, ax_pop, ax_dup, ax_dup2, ax_if, ax_cmp, ax_acmp, ax_goto, ax_getI, ax_getR, ax_putI, ax_putR, ax_gets, ax_getsT, ax_aldI, ax_aldR, ax_astI, ax_astR, ax_alen, ax_ret, ax_aret, ax_vret, am_st, am_kl, List.getElem?_cons_zero, List.getElem?_cons_succ, List.set_cons_zero, List.set_cons_succ, Value.category, true_and, and_true, if_true, if_false, reduceCtorEq, Bool.false_eq_true, false_implies, forall_const, Option.some.injEq, exists_eq_left', exists_eq_left, Sum.inl.injEq, Sum.inr.injEq, Prod.mk.injEq, nI_toInt, nI_clamp, am_ix_nI, am_ix_0, am_ix_1, am_ix_2, am_ix_3, am_n0, am_n1, am_n2, am_n3, am_n4, am_t0, am_t1, am_t2, am_t3, am_t4, am_tm1, am_nS, am_nP, am_nM, Int.ofNat_lt, Int.ofNat_le, hH.1, hH.r28, hH.s28, e25]
  refine am_callK [.ref m, .int 2] [.int (nI (T 0)), .ref (m + 16)] (d' := 0) (lim' := (am_tp σ, am_us σ)) rfl (by decide) (Nat.le_refl _) (Nat.le_refl _) rfl (Nat.le_of_ble_eq_true rfl) (am_recv hH.1) ?_
  have fin : ∀ (σ1 : am_S) (a' v : Nat) (b' : Bool), yZ σ1 m ts a' b' o W [] ns 0 w → yb_f m σ σ1 → (∀ σ', yZR σ' m ts (a', b', o, yt (yt T (1 + T 0) v) 0 (T 0 + 1)) W ns w → ye_f m σ σ' → Q none σ') → am_tp σ1 = am_tp σ → am_us σ1 = am_us σ →
      ax_astI 0 (fun x => x) (ax_aload 0 (ax_dup (ax_getI 10 25 (ax_const (.int 1) (ax_i2 (fun x y => x + y) (ax_putI false 10 25 (ax_vret (am_tp σ, am_us σ) Q))))))) [some (.ref m)] [.int (nI v), .int (nI (T 0)), .ref (m + 16)] σ1 := by
    intro σ1 a' v b' k1 f1 hq t1 u1
    have hH1 := k1.1
    have e25' : am_i σ1 m 25 = nI (T 0) := by rw [f1.2 25 (by decide)]; exact e25
    simp (disch := omega) only [ax_const, ax_iload, ax_lload, ax_aload, ax_istore, ax_astore, ax_iinc, ax_i2, ax_i2n, ax_l2, ax_lsh, ax_ii, ax_il, ax_li, ax_pop, ax_dup, ax_dup2, ax_if, ax_cmp, ax_acmp, ax_goto, ax_getI, ax_getR, ax_putI, ax_putR, ax_gets, ax_getsT, ax_aldI, ax_aldR, ax_astI, ax_astR, ax_alen, ax_ret, ax_aret, ax_vret, am_st, am_kl, List.getElem?_cons_zero, List.getElem?_cons_succ, List.set_cons_zero, List.set_cons_succ, Value.category, true_and, and_true, if_true, if_false, reduceCtorEq, Bool.false_eq_true, false_implies, forall_const, Option.some.injEq, exists_eq_left', exists_eq_left, Sum.inl.injEq, Sum.inr.injEq, Prod.mk.injEq, nI_toInt, nI_clamp, am_ix_nI, am_ix_0, am_ix_1, am_ix_2, am_ix_3, am_n0, am_n1, am_n2, am_n3, am_n4, am_t0, am_t1, am_t2, am_t3, am_t4, am_tm1, am_nS, am_nP, am_nM, Int.ofNat_lt, Int.ofNat_le, am_sh_wi, am_r_wi, am_tp_wi, am_us_wi, ym_is, ym_io, ym_ij, hH1.1, hH1.r28, hH1.s28, e25']
    refine ⟨hT0, t1, u1, hq _ ⟨(k1.rega (by omega)).reg (by decide), ((hR.f f1).tab hT0).f25⟩ (((ye_f.of f1).wa (by omega) (by omega)).wf (by decide) (by decide))⟩
  refine c_ytake h ha (fun hk σ1 k1 f1 t1 u1 => ?_) (fun hk σ1 k1 f1 t1 u1 => ?_)
  · have hn := hok.name.mp hk
    rw [if_pos hn] at hQ
    rw [hok.wn hn]
    simp only [Option.toList_some, Option.toList_none, List.cons_append, List.nil_append, List.append_nil]
    exact fin σ1 (a + 1) (xp_hd ts a - 19) b k1 f1 hQ t1 u1
  · have hn : ¬ (xp_hd ts a = 19 ∨ xp_hd ts a = 20) := fun e => hk (hok.name.mpr e)
    rw [if_neg hn] at hQ
    simp only [Option.toList_some, Option.toList_none, List.cons_append, List.nil_append, List.append_nil]
    exact fin σ1 a 0 true k1 f1 hQ t1 u1
theorem yte_172 {g : am_G} {l : Launch} {σ : am_S} {m a d i : Nat} {ts : List (Nat × Int32)} {b b' : Bool} {o : yp_O} {W : List Nat} {ns : Int32} {w : Bool} {T : Nat → Nat} {z1 z2 : Int32} {Q : Option Value → am_S → Prop} (hi : i < 4) (h : yZ σ m ts a b o W [] ns 0 w) (hR : yR σ m T)
    (hQ : ∀ σ', yZR σ' m ts (a, b', o, yt T (13 + i) o.length) W ns w → ye_f m σ σ' → Q none σ') : am_W g l mX10_term d (am_tp σ, am_us σ) Q 172 [some (.ref m), some (.int z1), some (.int z2), some (.int (nI i))] [.int (yb b'), .ref m] σ := by
  obtain ⟨hH, hT, hP, hW, hHH⟩ := id h
  have hb01 : yb b' = 0 ∨ yb b' = 1 := by cases b' <;> decide
  have hf : yb_f m σ (am_wi σ m 13 (yb b')) := yb_f.rf.wf (by decide) (by decide)
  have h' : yZ (am_wi σ m 13 (yb b')) m ts a b' o W [] ns 0 w := h.up hf (hP.bd b') hW hHH
  have e18 : am_i σ m 18 = nI o.length := hP.2.2.1.1
  refine kX10_term_172 ?_
  simp (disch := omega) only [ax_const, ax_iload, ax_lload, ax_aload, ax_istore, ax_astore, ax_iinc, ax_i2, ax_i2n, ax_l2, ax_lsh, ax_ii, ax_il, ax_li, ax_pop, ax_dup, ax_dup2, ax_if, ax_cmp, ax_acmp, ax_goto, ax_getI, ax_getR, ax_putI, ax_putR, ax_gets, ax_getsT, ax_aldI, ax_aldR, ax_astI, ax_astR, ax_alen, ax_ret, ax_aret, ax_vret, am_st, am_kl, List.getElem?_cons_zero, List.getElem?_cons_succ, List.set_cons_zero, List.set_cons_succ, Value.category, true_and, and_true, if_true, if_false, reduceCtorEq, Bool.false_eq_true, false_implies, forall_const, Option.some.injEq, exists_eq_left', exists_eq_left, Sum.inl.injEq, Sum.inr.injEq, Prod.mk.injEq, nI_toInt, nI_clamp, am_ix_nI, am_ix_0, am_ix_1, am_ix_2, am_ix_3, am_n0, am_n1, am_n2, am_n3, am_n4, am_t0, am_t1, am_t2, am_t3, am_t4, am_tm1, am_nS, am_nP, am_nM, Int.ofNat_lt, Int.ofNat_le, am_sh_wi, am_r_wi, am_tp_wi, am_us_wi, ym_is, ym_io, ym_ij, hH.1, hH.r31, hH.s31, e18]
  exact ⟨hb01, hi, hQ _ ⟨h'.rega (by omega), (hR.f hf).tto hi⟩ ((ye_f.of hf).wa (by omega) (by omega))⟩
theorem yte_140 {g : am_G} {l : Launch} {σ : am_S} {m a d i : Nat} {ts : List (Nat × Int32)} {b : Bool} {o : yp_O} {W : List Nat} {ns : Int32} {w : Bool} {T : Nat → Nat} {z1 z2 : Int32} {Q : Option Value → am_S → Prop} (hd : 2 ≤ d) (hi : i < 4) (h : yZ σ m ts a b o W [] ns 0 w) (hR : yR σ m T) (hs : T (5 + i) < 3) (ha : b = false → a < ts.length)
    (hQ : ∀ σ', yZR σ' m ts (if b = false ∧ T (5 + i) = 2 ∧ xp_hd ts a = 24 then a + 1 else a, b || (decide (T (5 + i) = 2) && !decide (xp_hd ts a = 24)), o, yt T (13 + i) o.length) W ns w → ye_f m σ σ' → Q none σ') : am_W g l mX10_term d (am_tp σ, am_us σ) Q 140 [some (.ref m), some (.int z1), some (.int z2), some (.int (nI i))] [] σ := by
  obtain ⟨hH, hT, hP, hW, hHH⟩ := id h
  have es : am_i σ (m + 17) i = nI (T (5 + i)) := (hR.2.2.2.2.1 i hi).1
  refine kX10_term_140 ?_
  cases b with
  | true =>
    have e13 : am_i σ m 13 = 1 := hP.2.1
    have o1 : ¬ (1 : Int32) = 0 := by decide
    rw [if_neg (fun z => absurd z.1 (by decide)), Bool.true_or] at hQ
    simp (disch := omega) only [ax_const, ax_iload, ax_lload, ax_aload, ax_istore, ax_astore, ax_iinc, ax_i2, ax_i2n, ax_l2, ax_lsh, ax_ii, ax_il, ax_li, ax_pop, ax_dup, ax_dup2, ax_if, ax_cmp, ax_acmp, ax_goto, ax_getI, ax_getR, ax_putI, ax_putR, ax_gets, ax_getsT, ax_aldI, ax_aldR, ax_astI, ax_astR, ax_alen, ax_ret, ax_aret, ax_vret, am_st, am_kl, List.getElem?_cons_zero, List.getElem?_cons_succ, List.set_cons_zero, List.set_cons_succ, Value.category, true_and, and_true, if_true, if_false, reduceCtorEq, Bool.false_eq_true, false_implies, forall_const, Option.some.injEq, exists_eq_left', exists_eq_left, Sum.inl.injEq, Sum.inr.injEq, Prod.mk.injEq, hH.1, e13, o1]
    exact fun _ => yte_172 (b' := true) hi h hR hQ
  | false =>
    have e13 : am_i σ m 13 = 0 := hP.2.1
    have o1 : ¬ (1 : Int32) = 0 := by decide
    rw [Bool.false_or] at hQ
    simp (disch := omega) only [ax_const, ax_iload, ax_lload, ax_aload, ax_istore, ax_astore, ax_iinc, ax_i2, ax_i2n, ax_l2, ax_lsh, ax_ii, ax_il, ax_li, ax_pop, ax_dup, ax_dup2, ax_if, ax_cmp, ax_acmp, ax_goto, ax_getI, ax_getR, ax_putI, ax_putR, ax_gets, ax_getsT, ax_aldI, ax_aldR, ax_astI, ax_astR, ax_alen, ax_ret, ax_aret, ax_vret, am_st, am_kl, List.getElem?_cons_zero, List.getElem?_cons_succ, List.set_cons_zero, List.set_cons_succ, Value.category, true_and, and_true, if_true, if_false, reduceCtorEq, Bool.false_eq_true, false_implies, forall_const, Option.some.injEq, exists_eq_left', exists_eq_left, Sum.inl.injEq, Sum.inr.injEq, Prod.mk.injEq, nI_toInt, nI_clamp, am_ix_nI, am_ix_0, am_ix_1, am_ix_2, am_ix_3, am_n0, am_n1, am_n2, am_n3, am_n4, am_t0, am_t1, am_t2, am_t3, am_t4, am_tm1, am_nS, am_nP, am_nM, Int.ofNat_lt, Int.ofNat_le, hH.1, hH.r29, hH.s29, e13, es, yl_2, yl_eq]
    refine ⟨⟨hi, fun c => ?_, fun c => ?_⟩, fun z => absurd trivial z⟩
    · refine am_callK [.ref m, .int (nI (yw_s 24))] [.ref m] (d' := 1) (lim' := (am_tp σ, am_us σ)) rfl (by omega) (Nat.le_refl _) (Nat.le_refl _) rfl (Nat.le_of_ble_eq_true rfl) (am_recv hH.1) ?_
      refine c_ytsign h (ha rfl) (by decide) (by decide) (fun c2 σ2 k2 f2 t2 u2 => ?_) (fun c2 σ2 k2 f2 t2 u2 => ?_)
      · rw [if_pos ⟨rfl, c, c2⟩, decide_eq_true c, decide_eq_true c2] at hQ
        simp (disch := omega) only [ax_const, ax_iload, ax_lload, ax_aload, ax_istore, ax_astore, ax_iinc, ax_i2, ax_i2n, ax_l2, ax_lsh, ax_ii, ax_il, ax_li, ax_pop, ax_dup, ax_dup2, ax_if, ax_cmp, ax_acmp, ax_goto, ax_getI, ax_getR, ax_putI, ax_putR, ax_gets, ax_getsT, ax_aldI, ax_aldR, ax_astI, ax_astR, ax_alen, ax_ret, ax_aret, ax_vret, am_st, am_kl, List.getElem?_cons_zero, List.getElem?_cons_succ, List.set_cons_zero, List.set_cons_succ, Value.category, true_and, and_true, if_true, if_false, reduceCtorEq, Bool.false_eq_true, false_implies, forall_const, Option.some.injEq, exists_eq_left', exists_eq_left, Sum.inl.injEq, Sum.inr.injEq, Prod.mk.injEq, Option.toList_some, Option.toList_none, List.cons_append, List.nil_append, List.append_nil, o1]
        intro _
        have := yte_172 (g := g) (l := l) (d := d) (b' := false) (z1 := z1) (z2 := z2) (Q := Q) hi k2 (hR.f f2) (fun σ' k f => hQ σ' k ((ye_f.of f2).tr f))
        rw [t2, u2] at this
        exact this
      · rw [if_neg (fun z => c2 z.2.2), decide_eq_true c, decide_eq_false c2] at hQ
        simp (disch := omega) only [ax_const, ax_iload, ax_lload, ax_aload, ax_istore, ax_astore, ax_iinc, ax_i2, ax_i2n, ax_l2, ax_lsh, ax_ii, ax_il, ax_li, ax_pop, ax_dup, ax_dup2, ax_if, ax_cmp, ax_acmp, ax_goto, ax_getI, ax_getR, ax_putI, ax_putR, ax_gets, ax_getsT, ax_aldI, ax_aldR, ax_astI, ax_astR, ax_alen, ax_ret, ax_aret, ax_vret, am_st, am_kl, List.getElem?_cons_zero, List.getElem?_cons_succ, List.set_cons_zero, List.set_cons_succ, Value.category, true_and, and_true, if_true, if_false, reduceCtorEq, Bool.false_eq_true, false_implies, forall_const, Option.some.injEq, exists_eq_left', exists_eq_left, Sum.inl.injEq, Sum.inr.injEq, Prod.mk.injEq, Option.toList_some, Option.toList_none, List.cons_append, List.nil_append, List.append_nil]
        refine ⟨?_, fun z => absurd trivial z⟩
        have := yte_172 (g := g) (l := l) (d := d) (b' := true) (z1 := z1) (z2 := z2) (Q := Q) hi k2 (hR.f f2) (fun σ' k f => hQ σ' k ((ye_f.of f2).tr f))
        rw [t2, u2] at this
        exact this
    · rw [if_neg (fun z => c z.2.1), decide_eq_false c] at hQ
      exact yte_172 (b' := false) hi h hR hQ
theorem yte_116 {g : am_G} {l : Launch} {σ : am_S} {m a d i : Nat} {ts : List (Nat × Int32)} {b b' : Bool} {o : yp_O} {W : List Nat} {ns : Int32} {w : Bool} {T : Nat → Nat} {z1 z2 : Int32} {S' : ys_S} {Q : Option Value → am_S → Prop} (hEN : xp_EN ts) (hd : 5 ≤ d) (hi : i < 4) (h : yZ σ m ts a b o W [] ns 0 w) (hR : yR σ m T) (hs : T (5 + i) < 3) (ha : a < ts.length) (hI : b' = false → o.length + 1 ≤ a)
    (hS1 : T (5 + i) = 1 ∨ b' = true → S' = (if b' = false ∧ T (5 + i) = 2 ∧ xp_hd ts a = 24 then a + 1 else a, b' || (decide (T (5 + i) = 2) && !decide (xp_hd ts a = 24)), o, yt T (13 + i) o.length))
    (hS2 : T (5 + i) ≠ 1 → b' = false → S' = (if (yp_ex ts 0 a o).2.1 = false ∧ T (5 + i) = 2 ∧ xp_hd ts (yp_ex ts 0 a o).1 = 24 then (yp_ex ts 0 a o).1 + 1 else (yp_ex ts 0 a o).1, (yp_ex ts 0 a o).2.1 || (decide (T (5 + i) = 2) && !decide (xp_hd ts (yp_ex ts 0 a o).1 = 24)), (yp_ex ts 0 a o).2.2, yt T (13 + i) (yp_ex ts 0 a o).2.2.length))
    (hQ : ∀ σ' W' ns' w', yZR σ' m ts S' W' ns' w' → ye_f m σ σ' → Q none σ') : am_W g l mX10_term d (am_tp σ, am_us σ) Q 116 [some (.ref m), some (.int z1), some (.int z2), some (.int (nI i))] [.int (yb b'), .ref m] σ := by
  obtain ⟨hH, hT, hP, hW, hHH⟩ := id h
  have hb01 : yb b' = 0 ∨ yb b' = 1 := by cases b' <;> decide
  have hf : yb_f m σ (am_wi σ m 13 (yb b')) := yb_f.rf.wf (by decide) (by decide)
  have h' : yZ (am_wi σ m 13 (yb b')) m ts a b' o W [] ns 0 w := h.up hf (hP.bd b') hW hHH
  have hR' := hR.f hf
  have es : am_i (am_wi σ m 13 (yb b')) (m + 17) i = nI (T (5 + i)) := (hR'.2.2.2.2.1 i hi).1
  have e13 : am_i (am_wi σ m 13 (yb b')) m 13 = yb b' := ym_is
  have y1 : (1 : Int32) = nI 1 := rfl
  have t1 := hf.tp
  have u1 := hf.us
  refine kX10_term_116 ?_
  simp (disch := omega) only [ax_const, ax_iload, ax_lload, ax_aload, ax_istore, ax_astore, ax_iinc, ax_i2, ax_i2n, ax_l2, ax_lsh, ax_ii, ax_il, ax_li, ax_pop, ax_dup, ax_dup2, ax_if, ax_cmp, ax_acmp, ax_goto, ax_getI, ax_getR, ax_putI, ax_putR, ax_gets, ax_getsT, ax_aldI, ax_aldR, ax_astI, ax_astR, ax_alen, ax_ret, ax_aret, ax_vret, am_st, am_kl, List.getElem?_cons_zero, List.getElem?_cons_succ, List.set_cons_zero, List.set_cons_succ, Value.category, true_and, and_true, if_true, if_false, reduceCtorEq, Bool.false_eq_true, false_implies, forall_const, Option.some.injEq, exists_eq_left', exists_eq_left, Sum.inl.injEq, Sum.inr.injEq, Prod.mk.injEq, nI_toInt, nI_clamp, am_ix_nI, am_ix_0, am_ix_1, am_ix_2, am_ix_3, am_n0, am_n1, am_n2, am_n3, am_n4, am_t0, am_t1, am_t2, am_t3, am_t4, am_tm1, am_nS, am_nP, am_nM, Int.ofNat_lt, Int.ofNat_le, am_sh_wi, am_r_wi, hH.1, hH.r29, hH.s29, es, e13, y1, yl_eq]
  refine ⟨by rw [← y1]; exact hb01, hi, ?_⟩
  generalize am_wi σ m 13 (yb b') = σ1 at *
  have l140 : T (5 + i) = 1 ∨ b' = true → am_W g l mX10_term d (am_tp σ, am_us σ) Q 140 [some (.ref m), some (.int z1), some (.int z2), some (.int (nI i))] [] σ1 := by
    intro c
    have e := hS1 c
    subst e
    have := yte_140 (g := g) (l := l) (d := d) (z1 := z1) (z2 := z2) (Q := Q) (by omega) hi h' hR' hs (fun _ => ha) (fun σ' k f => hQ σ' W ns w k ((ye_f.of hf).tr f))
    rw [t1, u1] at this
    exact this
  refine ⟨fun c => l140 (Or.inl c), fun c => ⟨fun c2 => ?_, fun c2 => ?_⟩⟩
  · have hb' : b' = false := yb_ne.mp c2
    have e := hS2 c hb'
    subst e
    rw [hb'] at h'
    have hI := hI hb'
    obtain ⟨g1, g2⟩ := yp_ex_I (ou := 0) (a := a) (h := 0) (o := o) hEN ha (by omega)
    refine am_callK [.ref m] [] (d' := 4) (lim' := (am_tp σ1, am_us σ1)) rfl (by omega) (by rw [t1]; exact Nat.le_refl _) (by rw [u1]; exact Nat.le_refl _) rfl (by decide) (am_recv h'.1.1) ?_
    refine c_yexpr hEN h' ha (by show o.length + 0 + 1 ≤ a; omega) (fun σ2 ns2 w2 k2 f2 t2 u2 => ?_)
    simp (disch := omega) only [ax_const, ax_iload, ax_lload, ax_aload, ax_istore, ax_astore, ax_iinc, ax_i2, ax_i2n, ax_l2, ax_lsh, ax_ii, ax_il, ax_li, ax_pop, ax_dup, ax_dup2, ax_if, ax_cmp, ax_acmp, ax_goto, ax_getI, ax_getR, ax_putI, ax_putR, ax_gets, ax_getsT, ax_aldI, ax_aldR, ax_astI, ax_astR, ax_alen, ax_ret, ax_aret, ax_vret, am_st, am_kl, List.getElem?_cons_zero, List.getElem?_cons_succ, List.set_cons_zero, List.set_cons_succ, Value.category, true_and, and_true, if_true, if_false, reduceCtorEq, Bool.false_eq_true, false_implies, forall_const, Option.some.injEq, exists_eq_left', exists_eq_left, Sum.inl.injEq, Sum.inr.injEq, Prod.mk.injEq, Option.toList_some, Option.toList_none, List.cons_append, List.nil_append, List.append_nil]
    have := yte_140 (g := g) (l := l) (d := d) (z1 := z1) (z2 := z2) (Q := Q) (by omega) hi k2 (hR'.f f2) hs (fun _ => g1) (fun σ' k f => hQ σ' [] ns2 w2 k ((ye_f.of (hf.tr f2)).tr f))
    rw [t2, u2, t1, u1] at this
    exact this
  · have hb' : b' = true := by
      cases e : b' with
      | true => rfl
      | false => rw [e] at c2; exact absurd rfl c2
    exact l140 (Or.inr hb')
theorem yte_73 {g : am_G} {l : Launch} {σ : am_S} {m a d i s k : Nat} {ts : List (Nat × Int32)} {o : yp_O} {W : List Nat} {ns : Int32} {w : Bool} {T : Nat → Nat} {z2 : Int32} {S' : ys_S} {Q : Option Value → am_S → Prop} (hEN : xp_EN ts) (hd : 5 ≤ d) (hi : i < 4) (hs : s < 3) (h : yZ σ m ts a false o W [] ns 0 w) (hR : yR σ m T) (ha : a < ts.length) (hI : o.length + 1 ≤ a)
    (hS0 : s = 0 → S' = ((yp_ex ts 0 a o).1, (yp_ex ts 0 a o).2.1, (yp_ex ts 0 a o).2.2, yt (yt (yt T (5 + i) 0) (9 + i) o.length) (13 + i) (yp_ex ts 0 a o).2.2.length))
    (hS1 : s = 1 → S' = (a, false, o, yt (yt (yt T (5 + i) 1) (9 + i) o.length) (13 + i) o.length))
    (hS2 : s = 2 → xp_hd ts a = 23 → S' = (if (yp_ex ts 0 (a + 1) o).2.1 = false ∧ xp_hd ts (yp_ex ts 0 (a + 1) o).1 = 24 then (yp_ex ts 0 (a + 1) o).1 + 1 else (yp_ex ts 0 (a + 1) o).1, (yp_ex ts 0 (a + 1) o).2.1 || !decide (xp_hd ts (yp_ex ts 0 (a + 1) o).1 = 24), (yp_ex ts 0 (a + 1) o).2.2, yt (yt (yt T (5 + i) 2) (9 + i) o.length) (13 + i) (yp_ex ts 0 (a + 1) o).2.2.length))
    (hS3 : s = 2 → xp_hd ts a ≠ 23 → S' = (a, true, o, yt (yt (yt T (5 + i) 2) (9 + i) o.length) (13 + i) o.length))
    (hQ : ∀ σ' W' ns' w', yZR σ' m ts S' W' ns' w' → ye_f m σ σ' → Q none σ') : am_W g l mX10_term d (am_tp σ, am_us σ) Q 73 [some (.ref m), some (.int (nI k)), some (.int z2), some (.int (nI i))] [.int (nI s), .int (nI i), .ref (m + 17)] σ := by
  obtain ⟨hH, hT, hP, hW, hHH⟩ := id h
  have e18 : am_i σ m 18 = nI o.length := hP.2.2.1.1
  have e13 : am_i σ m 13 = 0 := hP.2.1
  have h' : yZ (am_wi (am_wi σ (m + 17) i (nI s)) (m + 18) i (nI o.length)) m ts a false o W [] ns 0 w := (h.rega (by omega)).rega (by omega)
  have hR' : yR (am_wi (am_wi σ (m + 17) i (nI s)) (m + 18) i (nI o.length)) m (yt (yt T (5 + i) s) (9 + i) o.length) := (hR.srt hi).frm hi
  have hfe : ye_f m σ (am_wi (am_wi σ (m + 17) i (nI s)) (m + 18) i (nI o.length)) := (ye_f.rf.wa (by omega) (by omega)).wa (by omega) (by omega)
  have es5 : (yt (yt T (5 + i) s) (9 + i) o.length) (5 + i) = s := by rw [yt_o (by omega), yt_s]
  have t1 := hfe.tp
  have u1 := hfe.us
  have o1 : ¬ (1 : Int32) = 0 := by decide
  refine kX10_term_73 ?_
  simp (disch := omega) only [ax_const, ax_iload, ax_lload, ax_aload, ax_istore, ax_astore, ax_iinc, ax_i2, ax_i2n, ax_l2, ax_lsh, ax_ii, ax_il, ax_li, ax_pop, ax_dup, ax_dup2, ax_if, ax_cmp, ax_acmp, ax_goto, ax_getI, ax_getR, ax_putI, ax_putR, ax_gets, ax_getsT, ax_aldI, ax_aldR, ax_astI, ax_astR, ax_alen, ax_ret, ax_aret, ax_vret, am_st, am_kl, List.getElem?_cons_zero, List.getElem?_cons_succ, List.set_cons_zero, List.set_cons_succ, Value.category, true_and, and_true, if_true, if_false, reduceCtorEq, Bool.false_eq_true, false_implies, forall_const, Option.some.injEq, exists_eq_left', exists_eq_left, Sum.inl.injEq, Sum.inr.injEq, Prod.mk.injEq, nI_toInt, nI_clamp, am_ix_nI, am_ix_0, am_ix_1, am_ix_2, am_ix_3, am_n0, am_n1, am_n2, am_n3, am_n4, am_t0, am_t1, am_t2, am_t3, am_t4, am_tm1, am_nS, am_nP, am_nM, Int.ofNat_lt, Int.ofNat_le, am_sh_wi, am_r_wi, am_tp_wi, am_us_wi, ym_is, ym_io, ym_ij, hH.1, hH.r29, hH.s29, hH.r30, hH.s30, e18, e13, yl_2, yl_eq]
  refine ⟨hi, hi, ⟨hi, fun c => ?_, fun c => ?_⟩, fun z => absurd trivial z⟩
  · generalize am_wi (am_wi σ (m + 17) i (nI s)) (m + 18) i (nI o.length) = σ1 at *
    refine am_callK [.ref m, .int (nI (yw_s 23))] [.ref m] (d' := 1) (lim' := (am_tp σ1, am_us σ1)) rfl (by omega) (by rw [t1]; exact Nat.le_refl _) (by rw [u1]; exact Nat.le_refl _) rfl (Nat.le_of_ble_eq_true rfl) (am_recv h'.1.1) ?_
    refine c_ytsign h' ha (by decide) (by decide) (fun c2 σ2 k2 f2 t2 u2 => ?_) (fun c2 σ2 k2 f2 t2 u2 => ?_)
    · have hlt := hEN.lt (a := a) (by rw [c2]; decide)
      have e := hS2 c c2
      subst e
      simp (disch := omega) only [ax_const, ax_iload, ax_lload, ax_aload, ax_istore, ax_astore, ax_iinc, ax_i2, ax_i2n, ax_l2, ax_lsh, ax_ii, ax_il, ax_li, ax_pop, ax_dup, ax_dup2, ax_if, ax_cmp, ax_acmp, ax_goto, ax_getI, ax_getR, ax_putI, ax_putR, ax_gets, ax_getsT, ax_aldI, ax_aldR, ax_astI, ax_astR, ax_alen, ax_ret, ax_aret, ax_vret, am_st, am_kl, List.getElem?_cons_zero, List.getElem?_cons_succ, List.set_cons_zero, List.set_cons_succ, Value.category, true_and, and_true, if_true, if_false, reduceCtorEq, Bool.false_eq_true, false_implies, forall_const, Option.some.injEq, exists_eq_left', exists_eq_left, Sum.inl.injEq, Sum.inr.injEq, Prod.mk.injEq, Option.toList_some, Option.toList_none, List.cons_append, List.nil_append, List.append_nil, o1]
      intro _
      have := yte_116 (g := g) (l := l) (d := d) (b' := false) (z1 := nI k) (z2 := z2) (Q := Q) hEN hd hi k2 (hR'.f f2) (by rw [es5]; exact hs) hlt (fun _ => by omega) (fun z => by rw [es5, c] at z; exact absurd (z.resolve_right (by decide)) (by decide)) (fun _ _ => by
        rw [es5, c]
        simp) (fun σ' W' ns' w' k f => hQ σ' W' ns' w' k (hfe.tr ((ye_f.of f2).tr f)))
      rw [t2, u2, t1, u1] at this
      exact this
    · have e := hS3 c c2
      subst e
      simp (disch := omega) only [ax_const, ax_iload, ax_lload, ax_aload, ax_istore, ax_astore, ax_iinc, ax_i2, ax_i2n, ax_l2, ax_lsh, ax_ii, ax_il, ax_li, ax_pop, ax_dup, ax_dup2, ax_if, ax_cmp, ax_acmp, ax_goto, ax_getI, ax_getR, ax_putI, ax_putR, ax_gets, ax_getsT, ax_aldI, ax_aldR, ax_astI, ax_astR, ax_alen, ax_ret, ax_aret, ax_vret, am_st, am_kl, List.getElem?_cons_zero, List.getElem?_cons_succ, List.set_cons_zero, List.set_cons_succ, Value.category, true_and, and_true, if_true, if_false, reduceCtorEq, Bool.false_eq_true, false_implies, forall_const, Option.some.injEq, exists_eq_left', exists_eq_left, Sum.inl.injEq, Sum.inr.injEq, Prod.mk.injEq, Option.toList_some, Option.toList_none, List.cons_append, List.nil_append, List.append_nil]
      refine ⟨?_, fun z => absurd trivial z⟩
      have := yte_116 (g := g) (l := l) (d := d) (b' := true) (z1 := nI k) (z2 := z2) (Q := Q) hEN hd hi k2 (hR'.f f2) (by rw [es5]; exact hs) ha (fun z => by cases z) (fun _ => by
        rw [c]
        simp) (fun _ z => by cases z) (fun σ' W' ns' w' k f => hQ σ' W' ns' w' k (hfe.tr ((ye_f.of f2).tr f)))
      rw [t2, u2, t1, u1] at this
      exact this
  · have := yte_116 (g := g) (l := l) (d := d) (b' := false) (z1 := nI k) (z2 := z2) (S' := S') (Q := Q) hEN hd hi h' hR' (by rw [es5]; exact hs) ha (fun _ => hI) (fun z => by
      rw [es5] at z ⊢
      have e1 : s = 1 := z.resolve_right (by decide)
      rw [hS1 e1, e1]
      simp) (fun z _ => by
      rw [es5] at z ⊢
      have e0 : s = 0 := by omega
      rw [hS0 e0, e0]
      simp) (fun σ' W' ns' w' k f => hQ σ' W' ns' w' k (hfe.tr f))
    rw [t1, u1] at this
    exact this
theorem c_yterm {g : am_G} {l : Launch} {σ : am_S} {m k : Nat} {ts : List (Nat × Int32)} {S : ys_S} {counts : Bool} {W : List Nat} {ns : Int32} {w : Bool} {Q : Option Value → am_S → Prop} (hEN : xp_EN ts) (h : yZR σ m ts S W ns w) (hk : k < 1000) (hb : S.2.1 = false) (ha : S.1 < ts.length) (hI : S.2.2.1.length + 1 ≤ S.1)
    (hQ : ∀ σ' W' ns' w', yZR σ' m ts (ys_term ts (ys_t4 k) counts S) W' ns' w' → ye_f m σ σ' → Q none σ') : am_C g l mX10_term 5 (am_tp σ, am_us σ) [.ref m, .int (nI k), .int (yb counts)] σ Q := by
  obtain ⟨a, b, o, T⟩ := S
  have hb : b = false := hb
  subst hb
  obtain ⟨h, hR⟩ := h
  have h : yZ σ m ts a false o W [] ns 0 w := h
  have hR : yR σ m T := hR
  have ha : a < ts.length := ha
  have hI : o.length + 1 ≤ a := hI
  have hi : ys_t4 k < 4 := by unfold ys_t4; split <;> omega
  have hH := h.1
  have o1 : ¬ (1 : Int32) = 0 := by decide
  have ewc : yw_f 99 111 117 110 116 0 = yw_c (xt_w 10) := by decide +kernel
  have ews : yw_f 115 117 109 0 0 0 = yw_c (xt_w 11) := by decide +kernel
  have p0 : ¬ (counts = true ∧ xp_hd ts a = 10) → ¬ (counts = true ∧ xp_hd ts a = 11) → ∀ σ1, yZ σ1 m ts a false o W [] ns 0 w → yb_f m σ σ1 → am_W g l mX10_term 5 (am_tp σ, am_us σ) Q 73 [some (.ref m), some (.int (nI k)), some (.int (yb counts)), some (.int (nI (ys_t4 k)))] [.int (nI 0), .int (nI (ys_t4 k)), .ref (m + 17)] σ1 := by
    intro c1 c2 σ1 k1 f1
    have et : ys_tm ts counts a o = ((yp_ex ts 0 a o).1, (yp_ex ts 0 a o).2.1, (yp_ex ts 0 a o).2.2, 0) := by
      unfold ys_tm
      rw [if_neg c1, if_neg c2]
    unfold ys_term at hQ
    dsimp only at hQ
    rw [et] at hQ
    have := yte_73 (g := g) (l := l) (d := 5) (s := 0) (k := k) (z2 := yb counts) (Q := Q) hEN (by decide) hi (by decide) k1 (hR.f f1) ha hI (fun _ => rfl) (fun z => by cases z) (fun z => by cases z) (fun z => by cases z) (fun σ' W' ns' w' k f => hQ σ' W' ns' w' k ((ye_f.of f1).tr f))
    rw [f1.tp, f1.us] at this
    exact this
  have p1 : counts = true ∧ xp_hd ts a = 10 → ∀ σ1, yZ σ1 m ts (a + 1) false o W [] ns 0 w → yb_f m σ σ1 → am_W g l mX10_term 5 (am_tp σ, am_us σ) Q 73 [some (.ref m), some (.int (nI k)), some (.int (yb counts)), some (.int (nI (ys_t4 k)))] [.int (nI 1), .int (nI (ys_t4 k)), .ref (m + 17)] σ1 := by
    intro c1 σ1 k1 f1
    have et : ys_tm ts counts a o = (a + 1, false, o, 1) := by
      unfold ys_tm
      rw [if_pos c1]
    unfold ys_term at hQ
    dsimp only at hQ
    rw [et] at hQ
    have hlt := hEN.lt (a := a) (by rw [c1.2]; decide)
    have := yte_73 (g := g) (l := l) (d := 5) (s := 1) (k := k) (z2 := yb counts) (Q := Q) hEN (by decide) hi (by decide) k1 (hR.f f1) hlt (by omega) (fun z => by cases z) (fun _ => rfl) (fun z => by cases z) (fun z => by cases z) (fun σ' W' ns' w' k f => hQ σ' W' ns' w' k ((ye_f.of f1).tr f))
    rw [f1.tp, f1.us] at this
    exact this
  have p2 : ¬ (counts = true ∧ xp_hd ts a = 10) → counts = true ∧ xp_hd ts a = 11 → ∀ σ1, yZ σ1 m ts (a + 1) false o W [] ns 0 w → yb_f m σ σ1 → am_W g l mX10_term 5 (am_tp σ, am_us σ) Q 73 [some (.ref m), some (.int (nI k)), some (.int (yb counts)), some (.int (nI (ys_t4 k)))] [.int (nI 2), .int (nI (ys_t4 k)), .ref (m + 17)] σ1 := by
    intro c1 c2 σ1 k1 f1
    have hlt := hEN.lt (a := a) (by rw [c2.2]; decide)
    have et : ys_tm ts counts a o = if xp_hd ts (a + 1) = 23 then (if (yp_ex ts 0 (a + 2) o).2.1 = true then ((yp_ex ts 0 (a + 2) o).1, true, (yp_ex ts 0 (a + 2) o).2.2, 2) else if xp_hd ts (yp_ex ts 0 (a + 2) o).1 = 24 then ((yp_ex ts 0 (a + 2) o).1 + 1, false, (yp_ex ts 0 (a + 2) o).2.2, 2) else ((yp_ex ts 0 (a + 2) o).1, true, (yp_ex ts 0 (a + 2) o).2.2, 2)) else (a + 1, true, o, 2) := by
      unfold ys_tm
      rw [if_neg c1, if_pos c2]
    unfold ys_term at hQ
    dsimp only at hQ
    have := yte_73 (g := g) (l := l) (d := 5) (s := 2) (k := k) (z2 := yb counts) (Q := Q) hEN (by decide) hi (by decide) k1 (hR.f f1) hlt (by omega) (fun z => by cases z) (fun z => by cases z) (fun _ c => by
      rw [et, if_pos c]
      rw [show a + 1 + 1 = a + 2 from rfl]
      cases hb2 : (yp_ex ts 0 (a + 2) o).2.1 with
      | true => simp
      | false =>
        by_cases c24 : xp_hd ts (yp_ex ts 0 (a + 2) o).1 = 24
        · simp [c24]
        · simp [c24]) (fun _ c => by
      rw [et, if_neg c]) (fun σ' W' ns' w' k f => hQ σ' W' ns' w' k ((ye_f.of f1).tr f))
    rw [f1.tp, f1.us] at this
    exact this
  have l10 : am_W g l mX10_term 5 (am_tp σ, am_us σ) Q 10 [some (.ref m), some (.int (nI k)), some (.int (yb counts)), none] [.int (nI (ys_t4 k))] σ := by
    refine kX10_term_10 ?_
    cases counts with
    | false =>
      have e0 : yb false = 0 := rfl
      rw [e0] at p0 ⊢
      simp (disch := omega) only [ax_const, ax_iload, ax_lload, ax_aload, ax_istore, ax_astore, ax_iinc, ax_i2, ax_i2n, ax_l2, ax_lsh, ax_ii, ax_il, ax_li, ax_pop, ax_dup, ax_dup2, ax_if, ax_cmp, ax_acmp, ax_goto, ax_getI, ax_getR, ax_putI, ax_putR, ax_gets, ax_getsT, ax_aldI, ax_aldR, ax_astI, ax_astR, ax_alen, ax_ret, ax_aret, ax_vret, am_st, am_kl, List.getElem?_cons_zero, List.getElem?_cons_succ, List.set_cons_zero, List.set_cons_succ, Value.category, true_and, and_true, if_true, if_false, reduceCtorEq, Bool.false_eq_true, false_implies, forall_const, Option.some.injEq, exists_eq_left', exists_eq_left, Sum.inl.injEq, Sum.inr.injEq, Prod.mk.injEq, hH.1, hH.r29, hH.s29]
      refine ⟨kX10_term_45 ?_, fun z => absurd trivial z⟩
      simp (disch := omega) only [ax_const, ax_iload, ax_lload, ax_aload, ax_istore, ax_astore, ax_iinc, ax_i2, ax_i2n, ax_l2, ax_lsh, ax_ii, ax_il, ax_li, ax_pop, ax_dup, ax_dup2, ax_if, ax_cmp, ax_acmp, ax_goto, ax_getI, ax_getR, ax_putI, ax_putR, ax_gets, ax_getsT, ax_aldI, ax_aldR, ax_astI, ax_astR, ax_alen, ax_ret, ax_aret, ax_vret, am_st, am_kl, List.getElem?_cons_zero, List.getElem?_cons_succ, List.set_cons_zero, List.set_cons_succ, Value.category, true_and, and_true, if_true, if_false, reduceCtorEq, Bool.false_eq_true, false_implies, forall_const, Option.some.injEq, exists_eq_left', exists_eq_left, Sum.inl.injEq, Sum.inr.injEq, Prod.mk.injEq]
      exact ⟨p0 (fun z => absurd z.1 (by decide)) (fun z => absurd z.1 (by decide)) σ h .rf, fun z => absurd trivial z⟩
    | true =>
      have e1 : yb true = 1 := rfl
      rw [e1] at p0 p1 p2 ⊢
      simp (disch := omega) only [ax_const, ax_iload, ax_lload, ax_aload, ax_istore, ax_astore, ax_iinc, ax_i2, ax_i2n, ax_l2, ax_lsh, ax_ii, ax_il, ax_li, ax_pop, ax_dup, ax_dup2, ax_if, ax_cmp, ax_acmp, ax_goto, ax_getI, ax_getR, ax_putI, ax_putR, ax_gets, ax_getsT, ax_aldI, ax_aldR, ax_astI, ax_astR, ax_alen, ax_ret, ax_aret, ax_vret, am_st, am_kl, List.getElem?_cons_zero, List.getElem?_cons_succ, List.set_cons_zero, List.set_cons_succ, Value.category, true_and, and_true, if_true, if_false, reduceCtorEq, Bool.false_eq_true, false_implies, forall_const, Option.some.injEq, exists_eq_left', exists_eq_left, Sum.inl.injEq, Sum.inr.injEq, Prod.mk.injEq, hH.1, hH.r29, hH.s29, o1]
      intro _
      refine am_callK [.int 99, .int 111, .int 117, .int 110, .int 116, .int 0] [.ref m, .int (nI (ys_t4 k)), .ref (m + 17)] (d' := 0) (lim' := (am_tp σ, am_us σ)) rfl (by decide) (Nat.le_refl _) (Nat.le_refl _) rfl (Nat.le_of_ble_eq_true rfl) am_stat ?_
      refine c_yword (fun _ _ => ?_)
      rw [ewc]
      simp (disch := omega) only [Option.toList_some, Option.toList_none, List.cons_append, List.nil_append, List.append_nil]
      refine am_callK [.ref m, .int (yw_c (xt_w 10))] [.int (nI (ys_t4 k)), .ref (m + 17)] (d' := 0) (lim' := (am_tp σ, am_us σ)) rfl (by decide) (Nat.le_refl _) (Nat.le_refl _) rfl (Nat.le_of_ble_eq_true rfl) (am_recv hH.1) ?_
      refine c_ytword h ha (by decide) (fun c σ1 k1 f1 t1 u1 => ?_) (fun c σ1 k1 f1 t1 u1 => ?_)
      · simp (disch := omega) only [ax_const, ax_iload, ax_lload, ax_aload, ax_istore, ax_astore, ax_iinc, ax_i2, ax_i2n, ax_l2, ax_lsh, ax_ii, ax_il, ax_li, ax_pop, ax_dup, ax_dup2, ax_if, ax_cmp, ax_acmp, ax_goto, ax_getI, ax_getR, ax_putI, ax_putR, ax_gets, ax_getsT, ax_aldI, ax_aldR, ax_astI, ax_astR, ax_alen, ax_ret, ax_aret, ax_vret, am_st, am_kl, List.getElem?_cons_zero, List.getElem?_cons_succ, List.set_cons_zero, List.set_cons_succ, Value.category, true_and, and_true, if_true, if_false, reduceCtorEq, Bool.false_eq_true, false_implies, forall_const, Option.some.injEq, exists_eq_left', exists_eq_left, Sum.inl.injEq, Sum.inr.injEq, Prod.mk.injEq, Option.toList_some, Option.toList_none, List.cons_append, List.nil_append, List.append_nil, o1]
        exact fun _ => p1 ⟨rfl, c⟩ σ1 k1 f1
      · simp (disch := omega) only [ax_const, ax_iload, ax_lload, ax_aload, ax_istore, ax_astore, ax_iinc, ax_i2, ax_i2n, ax_l2, ax_lsh, ax_ii, ax_il, ax_li, ax_pop, ax_dup, ax_dup2, ax_if, ax_cmp, ax_acmp, ax_goto, ax_getI, ax_getR, ax_putI, ax_putR, ax_gets, ax_getsT, ax_aldI, ax_aldR, ax_astI, ax_astR, ax_alen, ax_ret, ax_aret, ax_vret, am_st, am_kl, List.getElem?_cons_zero, List.getElem?_cons_succ, List.set_cons_zero, List.set_cons_succ, Value.category, true_and, and_true, if_true, if_false, reduceCtorEq, Bool.false_eq_true, false_implies, forall_const, Option.some.injEq, exists_eq_left', exists_eq_left, Sum.inl.injEq, Sum.inr.injEq, Prod.mk.injEq, Option.toList_some, Option.toList_none, List.cons_append, List.nil_append, List.append_nil]
        refine ⟨kX10_term_45 ?_, fun z => absurd trivial z⟩
        simp (disch := omega) only [ax_const, ax_iload, ax_lload, ax_aload, ax_istore, ax_astore, ax_iinc, ax_i2, ax_i2n, ax_l2, ax_lsh, ax_ii, ax_il, ax_li, ax_pop, ax_dup, ax_dup2, ax_if, ax_cmp, ax_acmp, ax_goto, ax_getI, ax_getR, ax_putI, ax_putR, ax_gets, ax_getsT, ax_aldI, ax_aldR, ax_astI, ax_astR, ax_alen, ax_ret, ax_aret, ax_vret, am_st, am_kl, List.getElem?_cons_zero, List.getElem?_cons_succ, List.set_cons_zero, List.set_cons_succ, Value.category, true_and, and_true, if_true, if_false, reduceCtorEq, Bool.false_eq_true, false_implies, forall_const, Option.some.injEq, exists_eq_left', exists_eq_left, Sum.inl.injEq, Sum.inr.injEq, Prod.mk.injEq, o1]
        intro _
        refine am_callK [.int 115, .int 117, .int 109, .int 0, .int 0, .int 0] [.ref m, .int (nI (ys_t4 k)), .ref (m + 17)] (d' := 0) (lim' := (am_tp σ1, am_us σ1)) rfl (by decide) (by rw [t1]; exact Nat.le_refl _) (by rw [u1]; exact Nat.le_refl _) rfl (Nat.le_of_ble_eq_true rfl) am_stat ?_
        refine c_yword (fun _ _ => ?_)
        rw [ews]
        simp (disch := omega) only [Option.toList_some, Option.toList_none, List.cons_append, List.nil_append, List.append_nil]
        refine am_callK [.ref m, .int (yw_c (xt_w 11))] [.int (nI (ys_t4 k)), .ref (m + 17)] (d' := 0) (lim' := (am_tp σ1, am_us σ1)) rfl (by decide) (by rw [t1]; exact Nat.le_refl _) (by rw [u1]; exact Nat.le_refl _) rfl (Nat.le_of_ble_eq_true rfl) (am_recv k1.1.1) ?_
        refine c_ytword k1 ha (by decide) (fun c2 σ2 k2 f2 t2 u2 => ?_) (fun c2 σ2 k2 f2 t2 u2 => ?_)
        · simp (disch := omega) only [ax_const, ax_iload, ax_lload, ax_aload, ax_istore, ax_astore, ax_iinc, ax_i2, ax_i2n, ax_l2, ax_lsh, ax_ii, ax_il, ax_li, ax_pop, ax_dup, ax_dup2, ax_if, ax_cmp, ax_acmp, ax_goto, ax_getI, ax_getR, ax_putI, ax_putR, ax_gets, ax_getsT, ax_aldI, ax_aldR, ax_astI, ax_astR, ax_alen, ax_ret, ax_aret, ax_vret, am_st, am_kl, List.getElem?_cons_zero, List.getElem?_cons_succ, List.set_cons_zero, List.set_cons_succ, Value.category, true_and, and_true, if_true, if_false, reduceCtorEq, Bool.false_eq_true, false_implies, forall_const, Option.some.injEq, exists_eq_left', exists_eq_left, Sum.inl.injEq, Sum.inr.injEq, Prod.mk.injEq, Option.toList_some, Option.toList_none, List.cons_append, List.nil_append, List.append_nil, o1]
          exact fun _ => p2 (fun z => c z.2) ⟨rfl, c2⟩ σ2 k2 (f1.tr f2)
        · simp (disch := omega) only [ax_const, ax_iload, ax_lload, ax_aload, ax_istore, ax_astore, ax_iinc, ax_i2, ax_i2n, ax_l2, ax_lsh, ax_ii, ax_il, ax_li, ax_pop, ax_dup, ax_dup2, ax_if, ax_cmp, ax_acmp, ax_goto, ax_getI, ax_getR, ax_putI, ax_putR, ax_gets, ax_getsT, ax_aldI, ax_aldR, ax_astI, ax_astR, ax_alen, ax_ret, ax_aret, ax_vret, am_st, am_kl, List.getElem?_cons_zero, List.getElem?_cons_succ, List.set_cons_zero, List.set_cons_succ, Value.category, true_and, and_true, if_true, if_false, reduceCtorEq, Bool.false_eq_true, false_implies, forall_const, Option.some.injEq, exists_eq_left', exists_eq_left, Sum.inl.injEq, Sum.inr.injEq, Prod.mk.injEq, Option.toList_some, Option.toList_none, List.cons_append, List.nil_append, List.append_nil]
          exact ⟨p0 (fun z => c z.2) (fun z => c2 z.2) σ2 k2 (f1.tr f2), fun z => absurd trivial z⟩
  refine am_C.go [some (.ref m), some (.int (nI k)), some (.int (yb counts)), none] (by decide +kernel) (Nat.le_of_ble_eq_true rfl) rfl (kX10_term_0 ?_)
  simp (disch := omega) only [ax_const, ax_iload, ax_lload, ax_aload, ax_istore, ax_astore, ax_iinc, ax_i2, ax_i2n, ax_l2, ax_lsh, ax_ii, ax_il, ax_li, ax_pop, ax_dup, ax_dup2, ax_if, ax_cmp, ax_acmp, ax_goto, ax_getI, ax_getR, ax_putI, ax_putR, ax_gets, ax_getsT, ax_aldI, ax_aldR, ax_astI, ax_astR, ax_alen, ax_ret, ax_aret, ax_vret, am_st, am_kl, List.getElem?_cons_zero, List.getElem?_cons_succ, List.set_cons_zero, List.set_cons_succ, Value.category, true_and, and_true, if_true, if_false, reduceCtorEq, Bool.false_eq_true, false_implies, forall_const, Option.some.injEq, exists_eq_left', exists_eq_left, Sum.inl.injEq, Sum.inr.injEq, Prod.mk.injEq, yl_4, yl_lt]
  unfold ys_t4 at l10
  refine ⟨fun c => ?_, fun c => ?_⟩
  · rw [if_pos c] at l10
    exact l10
  · rw [if_neg c] at l10
    exact l10
theorem c_ypw {g : am_G} {l : Launch} {σ : am_S} {m : Nat} {ts : List (Nat × Int32)} {S : ys_S} {W : List Nat} {ns : Int32} {w : Bool} {Q : Option Value → am_S → Prop} (hEN : xp_EN ts) (h : yZR σ m ts S W ns w) (ha : S.2.1 = false → S.1 < ts.length) (hI : S.2.1 = false → S.2.2.1.length + 1 ≤ S.1)
    (hQ : ∀ σ' W' ns' w', yZR σ' m ts (ys_where ts S) W' ns' w' → ye_f m σ σ' → Q none σ') : am_C g l mX10_perhapsWhere 7 (am_tp σ, am_us σ) [.ref m] σ Q := by
  obtain ⟨a, b, o, T⟩ := S
  obtain ⟨h, hR⟩ := h
  have h : yZ σ m ts a b o W [] ns 0 w := h
  have hR : yR σ m T := hR
  have ha : b = false → a < ts.length := ha
  have hI : b = false → o.length + 1 ≤ a := hI
  have hH := h.1
  have hP := h.2.2.1
  have o1 : ¬ (1 : Int32) = 0 := by decide
  have eww : yw_f 119 104 101 114 101 0 = yw_c (xt_w 6) := by decide +kernel
  unfold ys_where at hQ
  dsimp only at hQ
  refine am_C.go [some (.ref m)] (by decide +kernel) (Nat.le_of_ble_eq_true rfl) rfl (kX10_perhapsWhere_0 ?_)
  cases b with
  | true =>
    have e13 : am_i σ m 13 = 1 := hP.2.1
    rw [if_neg (fun z => absurd z.1 (by decide))] at hQ
    simp (disch := omega) only [ax_const, ax_iload, ax_lload, ax_aload, ax_istore, ax_astore, ax_iinc, ax_i2, ax_i2n, ax_l2, ax_lsh, ax_ii, ax_il, ax_li, ax_pop, ax_dup, ax_dup2, ax_if, ax_cmp, ax_acmp, ax_goto, ax_getI, ax_getR, ax_putI, ax_putR, ax_gets, ax_getsT, ax_aldI, ax_aldR, ax_astI, ax_astR, ax_alen, ax_ret, ax_aret, ax_vret, am_st, am_kl, List.getElem?_cons_zero, List.getElem?_cons_succ, List.set_cons_zero, List.set_cons_succ, Value.category, true_and, and_true, if_true, if_false, reduceCtorEq, Bool.false_eq_true, false_implies, forall_const, Option.some.injEq, exists_eq_left', exists_eq_left, Sum.inl.injEq, Sum.inr.injEq, Prod.mk.injEq, hH.1, e13, o1]
    exact fun _ => hQ σ W ns w ⟨h, hR⟩ .rf
  | false =>
    have e13 : am_i σ m 13 = 0 := hP.2.1
    have ha := ha rfl
    have hI := hI rfl
    simp (disch := omega) only [ax_const, ax_iload, ax_lload, ax_aload, ax_istore, ax_astore, ax_iinc, ax_i2, ax_i2n, ax_l2, ax_lsh, ax_ii, ax_il, ax_li, ax_pop, ax_dup, ax_dup2, ax_if, ax_cmp, ax_acmp, ax_goto, ax_getI, ax_getR, ax_putI, ax_putR, ax_gets, ax_getsT, ax_aldI, ax_aldR, ax_astI, ax_astR, ax_alen, ax_ret, ax_aret, ax_vret, am_st, am_kl, List.getElem?_cons_zero, List.getElem?_cons_succ, List.set_cons_zero, List.set_cons_succ, Value.category, true_and, and_true, if_true, if_false, reduceCtorEq, Bool.false_eq_true, false_implies, forall_const, Option.some.injEq, exists_eq_left', exists_eq_left, Sum.inl.injEq, Sum.inr.injEq, Prod.mk.injEq, hH.1, e13]
    refine ⟨?_, fun z => absurd trivial z⟩
    refine am_callK [.int 119, .int 104, .int 101, .int 114, .int 101, .int 0] [.ref m] (d' := 0) (lim' := (am_tp σ, am_us σ)) rfl (by decide) (Nat.le_refl _) (Nat.le_refl _) rfl (Nat.le_of_ble_eq_true rfl) am_stat ?_
    refine c_yword (fun _ _ => ?_)
    rw [eww]
    simp (disch := omega) only [Option.toList_some, Option.toList_none, List.cons_append, List.nil_append, List.append_nil]
    refine am_callK [.ref m, .int (yw_c (xt_w 6))] [] (d' := 0) (lim' := (am_tp σ, am_us σ)) rfl (by decide) (Nat.le_refl _) (Nat.le_refl _) rfl (Nat.le_of_ble_eq_true rfl) (am_recv hH.1) ?_
    refine c_ytword h ha (by decide) (fun c σ1 k1 f1 t1 u1 => ?_) (fun c σ1 k1 f1 t1 u1 => ?_)
    · rw [if_pos ⟨rfl, c⟩] at hQ
      have hlt := hEN.lt (a := a) (by rw [c]; decide)
      simp (disch := omega) only [ax_const, ax_iload, ax_lload, ax_aload, ax_istore, ax_astore, ax_iinc, ax_i2, ax_i2n, ax_l2, ax_lsh, ax_ii, ax_il, ax_li, ax_pop, ax_dup, ax_dup2, ax_if, ax_cmp, ax_acmp, ax_goto, ax_getI, ax_getR, ax_putI, ax_putR, ax_gets, ax_getsT, ax_aldI, ax_aldR, ax_astI, ax_astR, ax_alen, ax_ret, ax_aret, ax_vret, am_st, am_kl, List.getElem?_cons_zero, List.getElem?_cons_succ, List.set_cons_zero, List.set_cons_succ, Value.category, true_and, and_true, if_true, if_false, reduceCtorEq, Bool.false_eq_true, false_implies, forall_const, Option.some.injEq, exists_eq_left', exists_eq_left, Sum.inl.injEq, Sum.inr.injEq, Prod.mk.injEq, Option.toList_some, Option.toList_none, List.cons_append, List.nil_append, List.append_nil, o1]
      intro _
      refine am_callK [.ref m] [] (d' := 6) (lim' := (am_tp σ1, am_us σ1)) rfl (by decide) (by rw [t1]; exact Nat.le_refl _) (by rw [u1]; exact Nat.le_refl _) rfl (by decide) (am_recv k1.1.1) ?_
      refine c_ycond hEN k1 (hR.f f1) hlt (by omega) (fun σ2 W2 ns2 w2 k2 r2 f2 t2 u2 => ?_)
      simp (disch := omega) only [ax_const, ax_iload, ax_lload, ax_aload, ax_istore, ax_astore, ax_iinc, ax_i2, ax_i2n, ax_l2, ax_lsh, ax_ii, ax_il, ax_li, ax_pop, ax_dup, ax_dup2, ax_if, ax_cmp, ax_acmp, ax_goto, ax_getI, ax_getR, ax_putI, ax_putR, ax_gets, ax_getsT, ax_aldI, ax_aldR, ax_astI, ax_astR, ax_alen, ax_ret, ax_aret, ax_vret, am_st, am_kl, List.getElem?_cons_zero, List.getElem?_cons_succ, List.set_cons_zero, List.set_cons_succ, Value.category, true_and, and_true, if_true, if_false, reduceCtorEq, Bool.false_eq_true, false_implies, forall_const, Option.some.injEq, exists_eq_left', exists_eq_left, Sum.inl.injEq, Sum.inr.injEq, Prod.mk.injEq, Option.toList_some, Option.toList_none, List.cons_append, List.nil_append, List.append_nil]
      exact ⟨t2.trans t1, u2.trans u1, hQ σ2 W2 ns2 w2 ⟨k2, r2⟩ ((ye_f.of f1).tr f2)⟩
    · rw [if_neg (fun z => c z.2)] at hQ
      simp (disch := omega) only [ax_const, ax_iload, ax_lload, ax_aload, ax_istore, ax_astore, ax_iinc, ax_i2, ax_i2n, ax_l2, ax_lsh, ax_ii, ax_il, ax_li, ax_pop, ax_dup, ax_dup2, ax_if, ax_cmp, ax_acmp, ax_goto, ax_getI, ax_getR, ax_putI, ax_putR, ax_gets, ax_getsT, ax_aldI, ax_aldR, ax_astI, ax_astR, ax_alen, ax_ret, ax_aret, ax_vret, am_st, am_kl, List.getElem?_cons_zero, List.getElem?_cons_succ, List.set_cons_zero, List.set_cons_succ, Value.category, true_and, and_true, if_true, if_false, reduceCtorEq, Bool.false_eq_true, false_implies, forall_const, Option.some.injEq, exists_eq_left', exists_eq_left, Sum.inl.injEq, Sum.inr.injEq, Prod.mk.injEq, Option.toList_some, Option.toList_none, List.cons_append, List.nil_append, List.append_nil]
      exact ⟨⟨t1, u1, hQ σ1 W ns w ⟨k1, hR.f f1⟩ (ye_f.of f1)⟩, fun z => absurd trivial z⟩
