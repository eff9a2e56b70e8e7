/-! split: the loop -/
theorem xn_tk_kd0 {c : Nat} {r : List Nat} (h : xn_kd c = 0) : xn_tk c r = (xt_of [c], 0) ∧ xn_run c r = 0 := by
  have h1 : xn_run c r = 0 := by unfold xn_run; rw [if_pos h]
  refine ⟨?_, h1⟩
  unfold xn_tk
  rw [if_neg (by omega), h1]
  rfl
theorem ysP.eq {b : Bool} {ts ts' : List (Nat × Int32)} (h : ysP b ts) (e : ts = ts') : ysP b ts' := e ▸ h
theorem ysp_14 {g : am_G} {l : Launch} {σ0 : am_S} {m i d : Nat} {dr : List Nat} {F : List (Nat × Int32)} {Q : Option Value → am_S → Prop} (hd : 1 ≤ d) (hH : ym_H σ0 m) (hD : ysD σ0 m i dr)
    (hQ : ∀ σ' b cnt, am_i σ' m 11 = nI cnt → am_i σ' m 13 = yb b → (b = false → cnt = F.length ∧ F.length ≤ 80 ∧ yb_T σ' m (F ++ [(36, 0)])) → ysP b F → ysF m σ0 σ' → Q none σ') :
    ∀ (n : Nat) (T pre : List Nat) (ts : List (Nat × Int32)) (b : Bool) (cnt : Nat) (σ : am_S) (z4 z5 z6 z7 : Option Value), T.length < n → dr = pre ++ T → F = ts ++ xn_sc T 0 → cnt ≤ pre.length → ysK σ m b ts cnt → ysP b ts → ysF m σ0 σ → am_W g l mX10_split d (am_tp σ0, am_us σ0) Q 14 [some (.ref m), some (.int (nI i)), some (.int (nI (80 * i + pre.length))), some (.int (nI (80 * i + dr.length))), z4, z5, z6, z7] [] σ := by
  intro n
  induction n with
  | zero => intro T pre ts b cnt σ z4 z5 z6 z7 h; omega
  | succ n ih =>
    intro T pre ts b cnt σ z4 z5 z6 z7 hn hdr hF hcnt hK hP hf
    have hH := hH.f hf.1
    have hD := hD.F hf
    have hl80 := hD.2.1
    have hi4 := hD.1
    have tp := hf.1.tp
    have us := hf.1.us
    cases T with
    | nil =>
      have hl : dr.length = pre.length := by rw [hdr]; simp
      rw [xn_sc, List.append_nil] at hF
      subst hF
      have e11 := hK.1
      refine kX10_split_14 ?_
      simp (disch := omega) only [ax_const, ax_iload, ax_lload, ax_aload, ax_istore, ax_astore, ax_iinc, ax_i2, ax_i2n, ax_l2, ax_lsh, ax_ii, ax_il, ax_li, ax_pop, ax_dup, ax_dup2, ax_if, ax_cmp, ax_acmp, ax_goto, ax_getI, ax_getR, ax_putI, ax_putR, ax_gets, ax_getsT, ax_aldI, ax_aldR, ax_astI, ax_astR, ax_alen, ax_ret, ax_aret, ax_vret, am_st, am_kl, List.getElem?_cons_zero, List.getElem?_cons_succ, List.set_cons_zero, List.set_cons_succ, Value.category, true_and, and_true, if_true, if_false, reduceCtorEq, Bool.false_eq_true, false_implies, forall_const, Option.some.injEq, exists_eq_left', exists_eq_left, Sum.inl.injEq, Sum.inr.injEq, Prod.mk.injEq, nI_toInt, nI_clamp, am_ix_nI, am_ix_0, am_ix_1, am_ix_2, am_ix_3, am_n0, am_n1, am_n2, am_n3, am_n4, am_t0, am_t1, am_t2, am_t3, am_t4, am_tm1, am_nS, am_nP, am_nM, Int.ofNat_lt, Int.ofNat_le, hH.1, hH.r9, hH.s9, e11]
      refine ⟨fun z => by omega, fun _ => ⟨by omega, hf.1.tp, hf.1.us, hQ _ b cnt (by rw [ym_io (by omega)]; exact hK.1) (by rw [ym_io (by omega)]; exact hK.2.1) (fun q => ?_) hP (hf.wa (Or.inl rfl))⟩⟩
      obtain ⟨g1, g2⟩ := hK.2.2 q
      refine ⟨g1, by omega, ?_, fun j hj => ?_⟩
      · rw [List.length_append, List.length_cons, List.length_nil]; omega
      · rw [List.length_append, List.length_cons, List.length_nil] at hj
        rw [xe_hd, xe_nm, ym_io (a := m + 10) (b := m + 11) (by omega)]
        by_cases c : j < F.length
        · have e : F[j]? = some (xp_hd F j, xp_nm F j) := by
            unfold xp_hd xp_nm
            rw [List.getD_eq_getElem?_getD, List.getElem?_eq_getElem c]
            rfl
          rw [ym_ij (by omega)]
          exact g2 j _ _ e
        · have e : j = F.length := by omega
          rw [e, ← g1, ym_is, g1]
          exact Or.inl ⟨xp_end (Nat.le_refl _), rfl⟩
    | cons c r =>
      obtain ⟨x1, x2, x3, x4⟩ := hD.get hdr
      have o1 : ¬ (1 : Int32) = 0 := by decide
      have o4 : ¬ (4 : Int32) = 0 := by decide
      have y65 : (65 : Int32) = nI 65 := rfl
      have y66 : (66 : Int32) = nI 66 := rfl
      rw [List.length_cons] at hn
      -- single characters
      have l276 : ∀ (k : Nat) v7, v7 = nI k → k < 5 → k ≠ 1 → k ≠ 3 → xn_kd c = 0 → (ysg c = true ↔ k = 4) → ((c = 65 ∨ c = 66) ↔ k = 2) → am_W g l mX10_split d (am_tp σ, am_us σ) Q 276 [some (.ref m), some (.int (nI i)), some (.int (nI (80 * i + pre.length))), some (.int (nI (80 * i + dr.length))), some (.int (nI c)), some (.int (nI 1)), some (.int (nI c)), some (.int v7)] [] σ := by
        intro k v7 ev hk k1 k3 h0 h4 h2
        subst ev
        obtain ⟨etk, erun⟩ := xn_tk_kd0 (r := r) h0
        refine ysp_276 (t := xt_of [c]) (o := 0) (ts := ts) (b := b) hH (by omega) hk x1 hK (fun _ _ => hP) (fun k0 c32 => ?_) (fun k0 => ⟨fun q => ?_, ?_⟩) (fun σ' b' cnt' g1 g2 g3 g4 => ?_)
        · have n4 : ysg c = false := bnt (fun z => by have := h4.mp z; omega)
          exact ytk_oth c x1 n4 (fun z => by have := h2.mp (Or.inl z); omega) (fun z => by have := h2.mp (Or.inr z); omega) h0
        · by_cases c4 : k = 4
          · obtain ⟨s1, s2, s3, s4⟩ := ytk_sign c x1 (h4.mpr c4)
            rw [if_neg (by omega), c4]
            exact Or.inr (Or.inr (Or.inr (Or.inl ⟨s1, s2, rfl, by rw [← s3]⟩)))
          · have c2 : k = 2 := by omega
            rw [if_pos c2, c2]
            refine Or.inr (Or.inr (Or.inl ?_))
            rcases h2.mpr c2 with e | e
            · rw [e, ytk_AB.1]; exact ⟨Or.inl rfl, rfl, rfl⟩
            · rw [e, ytk_AB.2.1]; exact ⟨Or.inr rfl, rfl, rfl⟩
        · exact hP.app
        · have hF2 : F = (if k = 0 ∧ c = 32 then ts else ts ++ [(xt_of [c], 0)]) ++ xn_sc r 0 := by
            rw [hF, xn_sc]
            by_cases c32 : c = 32
            · have k0 : k = 0 := by
                by_cases c4 : k = 4
                · have := h4.mpr c4
                  rw [c32, ytk_AB.2.2.2.2.2.2.2] at this
                  cases this
                · by_cases c2 : k = 2
                  · have := h2.mpr c2
                    omega
                  · omega
              rw [if_pos c32, if_pos ⟨k0, c32⟩]
            · rw [if_neg c32, if_neg (fun z => c32 z.2), etk, erun, List.append_assoc]
              rfl
          have nx := ih r (pre ++ [c]) _ b' cnt' σ' (some (.int (nI c))) (some (.int (nI 1))) (some (.int (nI c))) (some (.int (nI k))) (by omega) (by rw [hdr]; simp) hF2 (by rw [List.length_append, List.length_cons, List.length_nil]; omega) g1 g2 ⟨hf.1.tr g4.1, fun q q1 q2 => (g4.2 q q1 q2).trans (hf.2 q q1 q2)⟩
          rw [List.length_append, List.length_cons, List.length_nil] at nx
          rw [tp, us]
          exact nx
      -- runs
      have l83 : ∀ v7, xn_kd c ≠ 0 → am_W g l mX10_split d (am_tp σ, am_us σ) Q 83 [some (.ref m), some (.int (nI i)), some (.int (nI (80 * i + pre.length))), some (.int (nI (80 * i + dr.length))), some (.int (nI c)), some (.int (nI 1)), some (.int (nI c)), some (.int v7)] [] σ := by
        intro v7 hk
        have hkl := xn_kd_lt c
        have hrun := xn_run_le c r
        have htw := xn_tw c r hk
        have hwl : (c :: r.take (xn_run c r)).length = 1 + xn_run c r := by rw [List.length_cons, List.length_take]; omega
        have hall : ∀ x, x ∈ c :: r.take (xn_run c r) → xn_kd x = xn_kd c := fun x hx => by
          rw [htw] at hx
          have := List.all_takeWhile (l := c :: r) (p := fun x => xn_kd x == xn_kd c)
          rw [List.all_eq_true] at this
          simpa using this x hx
        have n32 := (ytk_ls c x1 hk).2.2.2
        have main : ∀ k κ : Nat, κ = xn_kd c → (κ = 1 ∧ k = 1) ∨ (κ = 2 ∧ k = 3) → am_W g l mX10_split d (am_tp σ, am_us σ) Q 96 [some (.ref m), some (.int (nI i)), some (.int (nI (80 * i + pre.length))), some (.int (nI (80 * i + dr.length))), some (.int (nI c)), some (.int (nI 1)), some (.int (nI c)), some (.int v7)] [.int (nI k)] σ := by
          intro k κ eκ hκ
          have hκ' : (κ = 1 ∧ nI k = 1) ∨ (κ = 2 ∧ nI k = 3) := by
            rcases hκ with ⟨a1, a2⟩ | ⟨a1, a2⟩
            · exact Or.inl ⟨a1, by rw [a2]; rfl⟩
            · exact Or.inr ⟨a1, by rw [a2]; rfl⟩
          have ev0 : ysv κ [] = 0 := by
            rcases hκ with ⟨a1, a2⟩ | ⟨a1, a2⟩ <;> rw [a1] <;> rfl
          refine kX10_split_96 ?_
          simp (disch := omega) only [ax_const, ax_iload, ax_lload, ax_aload, ax_istore, ax_astore, ax_iinc, ax_i2, ax_i2n, ax_l2, ax_lsh, ax_ii, ax_il, ax_li, ax_pop, ax_dup, ax_dup2, ax_if, ax_cmp, ax_acmp, ax_goto, ax_getI, ax_getR, ax_putI, ax_putR, ax_gets, ax_getsT, ax_aldI, ax_aldR, ax_astI, ax_astR, ax_alen, ax_ret, ax_aret, ax_vret, am_st, am_kl, List.getElem?_cons_zero, List.getElem?_cons_succ, List.set_cons_zero, List.set_cons_succ, Value.category, true_and, and_true, if_true, if_false, reduceCtorEq, Bool.false_eq_true, false_implies, forall_const, Option.some.injEq, exists_eq_left', exists_eq_left, Sum.inl.injEq, Sum.inr.injEq, Prod.mk.injEq]
          have h104 := ysp_104 (g := g) (l := l) (σ := σ) (Q := Q) (c4 := nI c) (w := c :: r.take (xn_run c r)) (pre := pre) (κ := κ) hH hD hκ' hd ?_ (c :: r) [] (by rw [hdr]; simp) (by rw [htw, eκ]; rfl)
          · rw [ev0] at h104
            exact h104
          · refine ysp_226 (t := (xn_tk c r).1) (o := (xn_tk c r).2) (ts := ts) (b := b) hH (by omega) x1 (by rw [hwl]; omega) hκ hK hP (fun q => ?_) (fun q1 q2 => ?_) (fun σ' b' cnt' g1 g2 g3 g4 => ?_)
            · unfold xn_tk
              rcases hκ with ⟨a1, a2⟩ | ⟨a1, a2⟩
              · rw [if_neg (by omega), a2, a1]
                refine ytk_word (fun x hx => ?_) (by simp)
                have e := hall x hx
                rw [← eκ, a1] at e
                unfold xn_kd at e
                unfold yla
                by_cases q : 97 ≤ x ∧ x ≤ 122
                · exact q
                · rw [if_neg q] at e
                  split at e <;> omega
              · have q : (c :: r.take (xn_run c r)).length ≤ 9 := q.resolve_left (by omega)
                rw [if_pos (by omega), if_neg (by omega), a2, a1]
                refine Or.inr (Or.inl ⟨rfl, rfl, ?_⟩)
                show ysv 2 _ = xn_num _
                rw [yd_num]
                unfold ysv
                rw [if_neg (show ¬ (2 : Nat) = 1 by decide), if_pos q]
            · unfold xn_tk
              rw [if_pos (by omega), if_pos (by omega)]
            · have hF2 : F = (ts ++ [((xn_tk c r).1, (xn_tk c r).2)]) ++ xn_sc (r.drop (xn_run c r)) 0 := by
                rw [hF, xn_sc, if_neg n32, xn_sc_drop r (xn_run c r), List.append_assoc]
                rfl
              have hdl : (r.drop (xn_run c r)).length = r.length - xn_run c r := List.length_drop
              have nx := ih (r.drop (xn_run c r)) (pre ++ c :: r.take (xn_run c r)) _ b' cnt' σ' (some (.int (nI c))) (some (.int (nI (c :: r.take (xn_run c r)).length))) (some (.int (ysv κ (c :: r.take (xn_run c r))))) (some (.int (nI k))) (by omega) (by rw [hdr]; simp) hF2 (by rw [List.length_append, hwl]; omega) g1 g2 ⟨hf.1.tr g4.1, fun q q1 q2 => (g4.2 q q1 q2).trans (hf.2 q q1 q2)⟩
              rw [List.length_append, ← Nat.add_assoc] at nx
              rw [tp, us]
              exact nx
        refine kX10_split_83 ?_
        simp (disch := omega) only [ax_const, ax_iload, ax_lload, ax_aload, ax_istore, ax_astore, ax_iinc, ax_i2, ax_i2n, ax_l2, ax_lsh, ax_ii, ax_il, ax_li, ax_pop, ax_dup, ax_dup2, ax_if, ax_cmp, ax_acmp, ax_goto, ax_getI, ax_getR, ax_putI, ax_putR, ax_gets, ax_getsT, ax_aldI, ax_aldR, ax_astI, ax_astR, ax_alen, ax_ret, ax_aret, ax_vret, am_st, am_kl, List.getElem?_cons_zero, List.getElem?_cons_succ, List.set_cons_zero, List.set_cons_succ, Value.category, true_and, and_true, if_true, if_false, reduceCtorEq, Bool.false_eq_true, false_implies, forall_const, Option.some.injEq, exists_eq_left', exists_eq_left, Sum.inl.injEq, Sum.inr.injEq, Prod.mk.injEq]
        refine am_callK [.int (nI c)] [] (d' := 0) (lim' := (am_tp σ, am_us σ)) rfl (by omega) (Nat.le_refl _) (Nat.le_refl _) rfl (Nat.le_of_ble_eq_true rfl) am_stat ?_
        refine c_ylet x1 (fun e _ _ => ?_) (fun e _ _ => ?_)
        · simp (disch := omega) only [ax_const, ax_iload, ax_lload, ax_aload, ax_istore, ax_astore, ax_iinc, ax_i2, ax_i2n, ax_l2, ax_lsh, ax_ii, ax_il, ax_li, ax_pop, ax_dup, ax_dup2, ax_if, ax_cmp, ax_acmp, ax_goto, ax_getI, ax_getR, ax_putI, ax_putR, ax_gets, ax_getsT, ax_aldI, ax_aldR, ax_astI, ax_astR, ax_alen, ax_ret, ax_aret, ax_vret, am_st, am_kl, List.getElem?_cons_zero, List.getElem?_cons_succ, List.set_cons_zero, List.set_cons_succ, Value.category, true_and, and_true, if_true, if_false, reduceCtorEq, Bool.false_eq_true, false_implies, forall_const, Option.some.injEq, exists_eq_left', exists_eq_left, Sum.inl.injEq, Sum.inr.injEq, Prod.mk.injEq, Option.toList_some, Option.toList_none, List.cons_append, List.nil_append, List.append_nil, o1]
          exact fun _ => main 1 1 e.symm (Or.inl ⟨rfl, rfl⟩)
        · simp (disch := omega) only [ax_const, ax_iload, ax_lload, ax_aload, ax_istore, ax_astore, ax_iinc, ax_i2, ax_i2n, ax_l2, ax_lsh, ax_ii, ax_il, ax_li, ax_pop, ax_dup, ax_dup2, ax_if, ax_cmp, ax_acmp, ax_goto, ax_getI, ax_getR, ax_putI, ax_putR, ax_gets, ax_getsT, ax_aldI, ax_aldR, ax_astI, ax_astR, ax_alen, ax_ret, ax_aret, ax_vret, am_st, am_kl, List.getElem?_cons_zero, List.getElem?_cons_succ, List.set_cons_zero, List.set_cons_succ, Value.category, true_and, and_true, if_true, if_false, reduceCtorEq, Bool.false_eq_true, false_implies, forall_const, Option.some.injEq, exists_eq_left', exists_eq_left, Sum.inl.injEq, Sum.inr.injEq, Prod.mk.injEq, Option.toList_some, Option.toList_none, List.cons_append, List.nil_append, List.append_nil]
          exact ⟨main 3 2 (by omega) (Or.inr ⟨rfl, rfl⟩), fun z => absurd trivial z⟩
      have l65 : ∀ (k : Nat) v7, v7 = nI k → k < 5 → k ≠ 1 → k ≠ 3 → (ysg c = true ↔ k = 4) → ((c = 65 ∨ c = 66) ↔ k = 2) → am_W g l mX10_split d (am_tp σ, am_us σ) Q 65 [some (.ref m), some (.int (nI i)), some (.int (nI (80 * i + pre.length))), some (.int (nI (80 * i + dr.length))), some (.int (nI c)), some (.int (nI 1)), some (.int (nI c)), z7] [.int v7] σ := by
        intro k v7 ev hk k1 k3 h4 h2
        refine kX10_split_65 ?_
        simp (disch := omega) only [ax_const, ax_iload, ax_lload, ax_aload, ax_istore, ax_astore, ax_iinc, ax_i2, ax_i2n, ax_l2, ax_lsh, ax_ii, ax_il, ax_li, ax_pop, ax_dup, ax_dup2, ax_if, ax_cmp, ax_acmp, ax_goto, ax_getI, ax_getR, ax_putI, ax_putR, ax_gets, ax_getsT, ax_aldI, ax_aldR, ax_astI, ax_astR, ax_alen, ax_ret, ax_aret, ax_vret, am_st, am_kl, List.getElem?_cons_zero, List.getElem?_cons_succ, List.set_cons_zero, List.set_cons_succ, Value.category, true_and, and_true, if_true, if_false, reduceCtorEq, Bool.false_eq_true, false_implies, forall_const, Option.some.injEq, exists_eq_left', exists_eq_left, Sum.inl.injEq, Sum.inr.injEq, Prod.mk.injEq]
        refine am_callK [.int (nI c)] [] (d' := 0) (lim' := (am_tp σ, am_us σ)) rfl (by omega) (Nat.le_refl _) (Nat.le_refl _) rfl (Nat.le_of_ble_eq_true rfl) am_stat ?_
        refine c_ylet x1 (fun e _ _ => ?_) (fun e _ _ => ?_)
        · simp (disch := omega) only [ax_const, ax_iload, ax_lload, ax_aload, ax_istore, ax_astore, ax_iinc, ax_i2, ax_i2n, ax_l2, ax_lsh, ax_ii, ax_il, ax_li, ax_pop, ax_dup, ax_dup2, ax_if, ax_cmp, ax_acmp, ax_goto, ax_getI, ax_getR, ax_putI, ax_putR, ax_gets, ax_getsT, ax_aldI, ax_aldR, ax_astI, ax_astR, ax_alen, ax_ret, ax_aret, ax_vret, am_st, am_kl, List.getElem?_cons_zero, List.getElem?_cons_succ, List.set_cons_zero, List.set_cons_succ, Value.category, true_and, and_true, if_true, if_false, reduceCtorEq, Bool.false_eq_true, false_implies, forall_const, Option.some.injEq, exists_eq_left', exists_eq_left, Sum.inl.injEq, Sum.inr.injEq, Prod.mk.injEq, Option.toList_some, Option.toList_none, List.cons_append, List.nil_append, List.append_nil, o1]
          exact fun _ => l83 _ (by omega)
        · simp (disch := omega) only [ax_const, ax_iload, ax_lload, ax_aload, ax_istore, ax_astore, ax_iinc, ax_i2, ax_i2n, ax_l2, ax_lsh, ax_ii, ax_il, ax_li, ax_pop, ax_dup, ax_dup2, ax_if, ax_cmp, ax_acmp, ax_goto, ax_getI, ax_getR, ax_putI, ax_putR, ax_gets, ax_getsT, ax_aldI, ax_aldR, ax_astI, ax_astR, ax_alen, ax_ret, ax_aret, ax_vret, am_st, am_kl, List.getElem?_cons_zero, List.getElem?_cons_succ, List.set_cons_zero, List.set_cons_succ, Value.category, true_and, and_true, if_true, if_false, reduceCtorEq, Bool.false_eq_true, false_implies, forall_const, Option.some.injEq, exists_eq_left', exists_eq_left, Sum.inl.injEq, Sum.inr.injEq, Prod.mk.injEq, Option.toList_some, Option.toList_none, List.cons_append, List.nil_append, List.append_nil]
          refine ⟨?_, fun z => absurd trivial z⟩
          refine am_callK [.int (nI c)] [] (d' := 0) (lim' := (am_tp σ, am_us σ)) rfl (by omega) (Nat.le_refl _) (Nat.le_refl _) rfl (Nat.le_of_ble_eq_true rfl) am_stat ?_
          refine c_ydig x1 (fun e2 _ _ => ?_) (fun e2 _ _ => ?_)
          · simp (disch := omega) only [ax_const, ax_iload, ax_lload, ax_aload, ax_istore, ax_astore, ax_iinc, ax_i2, ax_i2n, ax_l2, ax_lsh, ax_ii, ax_il, ax_li, ax_pop, ax_dup, ax_dup2, ax_if, ax_cmp, ax_acmp, ax_goto, ax_getI, ax_getR, ax_putI, ax_putR, ax_gets, ax_getsT, ax_aldI, ax_aldR, ax_astI, ax_astR, ax_alen, ax_ret, ax_aret, ax_vret, am_st, am_kl, List.getElem?_cons_zero, List.getElem?_cons_succ, List.set_cons_zero, List.set_cons_succ, Value.category, true_and, and_true, if_true, if_false, reduceCtorEq, Bool.false_eq_true, false_implies, forall_const, Option.some.injEq, exists_eq_left', exists_eq_left, Sum.inl.injEq, Sum.inr.injEq, Prod.mk.injEq, Option.toList_some, Option.toList_none, List.cons_append, List.nil_append, List.append_nil, o1]
            exact fun _ => l83 _ (by omega)
          · simp (disch := omega) only [ax_const, ax_iload, ax_lload, ax_aload, ax_istore, ax_astore, ax_iinc, ax_i2, ax_i2n, ax_l2, ax_lsh, ax_ii, ax_il, ax_li, ax_pop, ax_dup, ax_dup2, ax_if, ax_cmp, ax_acmp, ax_goto, ax_getI, ax_getR, ax_putI, ax_putR, ax_gets, ax_getsT, ax_aldI, ax_aldR, ax_astI, ax_astR, ax_alen, ax_ret, ax_aret, ax_vret, am_st, am_kl, List.getElem?_cons_zero, List.getElem?_cons_succ, List.set_cons_zero, List.set_cons_succ, Value.category, true_and, and_true, if_true, if_false, reduceCtorEq, Bool.false_eq_true, false_implies, forall_const, Option.some.injEq, exists_eq_left', exists_eq_left, Sum.inl.injEq, Sum.inr.injEq, Prod.mk.injEq, Option.toList_some, Option.toList_none, List.cons_append, List.nil_append, List.append_nil]
            exact ⟨l276 k v7 ev hk k1 k3 (by have := xn_kd_lt c; omega) h4 h2, fun z => absurd trivial z⟩
      rw [← tp, ← us]
      refine kX10_split_14 ?_
      simp (disch := omega) only [ax_const, ax_iload, ax_lload, ax_aload, ax_istore, ax_astore, ax_iinc, ax_i2, ax_i2n, ax_l2, ax_lsh, ax_ii, ax_il, ax_li, ax_pop, ax_dup, ax_dup2, ax_if, ax_cmp, ax_acmp, ax_goto, ax_getI, ax_getR, ax_putI, ax_putR, ax_gets, ax_getsT, ax_aldI, ax_aldR, ax_astI, ax_astR, ax_alen, ax_ret, ax_aret, ax_vret, am_st, am_kl, List.getElem?_cons_zero, List.getElem?_cons_succ, List.set_cons_zero, List.set_cons_succ, Value.category, true_and, and_true, if_true, if_false, reduceCtorEq, Bool.false_eq_true, false_implies, forall_const, Option.some.injEq, exists_eq_left', exists_eq_left, Sum.inl.injEq, Sum.inr.injEq, Prod.mk.injEq, nI_toInt, nI_clamp, am_ix_nI, am_ix_0, am_ix_1, am_ix_2, am_ix_3, am_n0, am_n1, am_n2, am_n3, am_n4, am_t0, am_t1, am_t2, am_t3, am_t4, am_tm1, am_nS, am_nP, am_nM, Int.ofNat_lt, Int.ofNat_le, hH.1, hH.r7, hH.s7, x2, yl_lt]
      refine ⟨fun _ => ⟨x4, ?_⟩, fun z => by omega⟩
      refine am_callK [.int (nI c)] [] (d' := 0) (lim' := (am_tp σ, am_us σ)) rfl (by omega) (Nat.le_refl _) (Nat.le_refl _) rfl (Nat.le_of_ble_eq_true rfl) am_stat ?_
      refine c_ysg x1 (fun _ _ => ?_)
      cases es : ysg c with
      | true =>
        obtain ⟨s1, s2, s3, s4, s5, s6⟩ := ytk_sign c x1 es
        have ey : yb true = 1 := rfl
        rw [ey]
        simp (disch := omega) only [ax_const, ax_iload, ax_lload, ax_aload, ax_istore, ax_astore, ax_iinc, ax_i2, ax_i2n, ax_l2, ax_lsh, ax_ii, ax_il, ax_li, ax_pop, ax_dup, ax_dup2, ax_if, ax_cmp, ax_acmp, ax_goto, ax_getI, ax_getR, ax_putI, ax_putR, ax_gets, ax_getsT, ax_aldI, ax_aldR, ax_astI, ax_astR, ax_alen, ax_ret, ax_aret, ax_vret, am_st, am_kl, List.getElem?_cons_zero, List.getElem?_cons_succ, List.set_cons_zero, List.set_cons_succ, Value.category, true_and, and_true, if_true, if_false, reduceCtorEq, Bool.false_eq_true, false_implies, forall_const, Option.some.injEq, exists_eq_left', exists_eq_left, Sum.inl.injEq, Sum.inr.injEq, Prod.mk.injEq, Option.toList_some, Option.toList_none, List.cons_append, List.nil_append, List.append_nil, o1]
        exact fun _ => l65 4 4 rfl (by decide) (by decide) (by decide) (by rw [es]; decide) ⟨fun z => by omega, fun z => by omega⟩
      | false =>
        have ey : yb false = 0 := rfl
        rw [ey]
        simp (disch := omega) only [ax_const, ax_iload, ax_lload, ax_aload, ax_istore, ax_astore, ax_iinc, ax_i2, ax_i2n, ax_l2, ax_lsh, ax_ii, ax_il, ax_li, ax_pop, ax_dup, ax_dup2, ax_if, ax_cmp, ax_acmp, ax_goto, ax_getI, ax_getR, ax_putI, ax_putR, ax_gets, ax_getsT, ax_aldI, ax_aldR, ax_astI, ax_astR, ax_alen, ax_ret, ax_aret, ax_vret, am_st, am_kl, List.getElem?_cons_zero, List.getElem?_cons_succ, List.set_cons_zero, List.set_cons_succ, Value.category, true_and, and_true, if_true, if_false, reduceCtorEq, Bool.false_eq_true, false_implies, forall_const, Option.some.injEq, exists_eq_left', exists_eq_left, Sum.inl.injEq, Sum.inr.injEq, Prod.mk.injEq, Option.toList_some, Option.toList_none, List.cons_append, List.nil_append, List.append_nil, y65, y66, yl_eq]
        refine ⟨⟨fun z => l65 2 2 rfl (by decide) (by decide) (by decide) (by rw [es]; decide) ⟨fun _ => rfl, fun _ => Or.inl z⟩, fun z => ⟨fun z2 => l65 2 2 rfl (by decide) (by decide) (by decide) (by rw [es]; decide) ⟨fun _ => rfl, fun _ => Or.inr z2⟩, fun z2 => l65 0 0 rfl (by decide) (by decide) (by decide) (by rw [es]; decide) ⟨fun z3 => z3.elim (fun e => absurd e z) (fun e => absurd e z2), fun z3 => by omega⟩⟩⟩, fun z => absurd trivial z⟩
