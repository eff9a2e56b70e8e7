theorem xl_pt_len {kd : Nat} {tg : Bool} {mk : Nat → Int32} : ∀ n i GO gr, (xl_pt kd tg mk n i GO gr).1.length = n + GO.length ∧ (xl_pt kd tg mk n i GO gr).2 ≤ n + gr
  | 0, i, GO, gr => ⟨(Nat.zero_add _).symm, Nat.le_add_left _ _⟩
  | n + 1, i, GO, gr => by
    rw [xl_pt]
    cases xl_lk kd tg mk i with
    | none =>
      obtain ⟨h1, h2⟩ := xl_pt_len (kd := kd) (tg := tg) (mk := mk) n (i + 1) (GO ++ [gr]) (gr + 1)
      rw [List.length_append] at h1
      refine ⟨?_, ?_⟩
      · show (xl_pt kd tg mk n (i + 1) (GO ++ [gr]) (gr + 1)).1.length = _
        rw [h1]
        show n + (GO.length + 1) = n + 1 + GO.length
        omega
      · show (xl_pt kd tg mk n (i + 1) (GO ++ [gr]) (gr + 1)).2 ≤ _
        omega
    | some b =>
      obtain ⟨h1, h2⟩ := xl_pt_len (kd := kd) (tg := tg) (mk := mk) n (i + 1) (GO ++ [GO.getD b 0]) gr
      rw [List.length_append] at h1
      refine ⟨?_, ?_⟩
      · show (xl_pt kd tg mk n (i + 1) (GO ++ [GO.getD b 0]) gr).1.length = _
        rw [h1]
        show n + (GO.length + 1) = n + 1 + GO.length
        omega
      · show (xl_pt kd tg mk n (i + 1) (GO ++ [GO.getD b 0]) gr).2 ≤ _
        omega
theorem xl_in_ok {P : Nat → Nat → Bool} {V : Nat × Nat → Prop} {i : Nat} : ∀ n j acc FL, xl_in P i n j acc = some FL → (∀ x, x ∈ acc → V x) → (∀ j', j' < j + n → V (i, j')) → ∀ x, x ∈ FL → V x
  | 0, j, acc, FL, h, ha, _ => by
    rw [xl_in, Option.some.injEq] at h
    rw [← h]
    exact ha
  | n + 1, j, acc, FL, h, ha, hv => by
    rw [xl_in] at h
    split at h
    · split at h
      · cases h
      · refine xl_in_ok n (j + 1) _ FL h (fun x hx => ?_) (fun j' hj => hv j' (by omega))
        rcases List.mem_append.mp hx with hx | hx
        · exact ha x hx
        · rw [List.mem_singleton.mp hx]
          exact hv j (by omega)
    · exact xl_in_ok n (j + 1) _ FL h ha (fun j' hj => hv j' (by omega))
theorem xl_out_ok {P : Nat → Nat → Bool} {V : Nat × Nat → Prop} {n2 : Nat} : ∀ n i acc FL, xl_out P n2 n i acc = some FL → (∀ x, x ∈ acc → V x) → (∀ i' j', i' < i + n → j' < n2 → V (i', j')) → ∀ x, x ∈ FL → V x
  | 0, i, acc, FL, h, ha, _ => by
    rw [xl_out, Option.some.injEq] at h
    rw [← h]
    exact ha
  | n + 1, i, acc, FL, h, ha, hv => by
    rw [xl_out] at h
    cases e : xl_in P i n2 0 acc with
    | none => rw [e] at h; cases h
    | some acc' =>
      rw [e] at h
      exact xl_out_ok n (i + 1) acc' FL h (xl_in_ok n2 0 acc acc' e ha (fun j' hj => hv i j' (by omega) (by omega))) (fun i' j' a b => hv i' j' (by omega) b)
def xl_GR (k : Nat → Nat) (n0 : Nat) (val : Nat → xr_E → xr_E → Int32) (L1 L2 : List xr_E) (FL : List (Nat × Nat)) : List Nat × Nat := xl_pt (k 4) (xl_tg k n0) (xl_at (val 4) L1 L2 FL) FL.length 0 [] 0
def xl_SR (desc : Bool) (k : Nat → Nat) (n0 : Nat) (val : Nat → xr_E → xr_E → Int32) (L1 L2 : List xr_E) (FL : List (Nat × Nat)) : List Nat := xl_so (xl_lt desc (xl_rk k (val 5) L1 L2 FL (xl_GR k n0 val L1 L2 FL).1)) (xl_GR k n0 val L1 L2 FL).2 0 []
/-- Selection.select -/
theorem c_lselect {g : am_G} {l : Launch} {σ : am_S} {e S se st f s n0 rr rc : Nat} {dr : List Nat} {rv0 : Nat → Nat → Int32} {k : Nat → Nat} {ss : Nat → List (Nat × Int32)} {two top : Bool} {L1 L2 : List xr_E} {Wh : xr_E → xr_E → Bool} {val : Nat → xr_E → xr_E → Int32} {Q : Option Value → am_S → Prop} (hJ : xl_J g σ e S k ss f s two top L1 L2) (hE : xe_S σ se st dr rr rc rv0) (hse : e + 107 ≤ se) (hx : am_i σ S 6 = nI n0) (hn3 : n0 ≤ 3) (hW : xl_W Wh f s two k ss L1 L2) (hV4 : k 4 ≠ 0 → xl_V 4 (val 4) f s two ss L1 L2) (hV5 : k 5 ≠ 0 → k 5 ≠ 2 → xl_V 5 (val 5) f s two ss L1 L2) (hV : ∀ c, c < n0 → k c ≠ 2 → xl_V c (val c) f s two ss L1 L2)
    (hQ0 : xl_out (xl_fd Wh two top L1 L2) (xl_n2 two L2) L1.length 0 [] = none → ∀ σ', xl_J g σ' e S k ss f s two top L1 L2 → am_fm (xl_P S e) σ σ' → Q (some (.int (-7))) σ')
    (hQ1 : ∀ FL, xl_out (xl_fd Wh two top L1 L2) (xl_n2 two L2) L1.length 0 [] = some FL → ∀ σ', xl_J g σ' e S k ss f s two top L1 L2 → xe_S σ' se st dr (xl_GR k n0 val L1 L2 FL).2 n0 (xl_rv k val L1 L2 FL (xl_GR k n0 val L1 L2 FL).1 (xl_SR (decide (am_i σ S 2 ≠ 0)) k n0 val L1 L2 FL)) → am_fm (xl_Ps S e se) σ σ' → Q (some (.int (nI (xl_GR k n0 val L1 L2 FL).2))) σ') :
    am_C g l mX4_select 5 (am_tp σ, am_us σ) [.ref e, .ref se] σ Q := by
  have hSe := hJ.2.2.2.2.2.2.2.2.2.2.2.2.2
  have o1 : ¬ (1 : Int32) = 0 := by decide
  have nPS : ¬ xl_P S e S := by unfold xl_P; omega
  obtain ⟨q1, q2, q3, q4, q5, q6, q7, q8, q9, q10, q11, q12, q13, q14, q15⟩ := hE
  have hEQ : xe_Q σ se st dr := ⟨q1, q2, q3, q4, q5, q6, q7, q8, q9, q10⟩
  refine am_C.go [some (.ref e), some (.ref se), none, none] (by decide +kernel) (Nat.le_of_ble_eq_true rfl) rfl (kX4_select_0 ?_)
  simp (disch := omega) only [ax_const, ax_iload, ax_lload, ax_aload, ax_istore, ax_astore, ax_iinc, ax_i2, ax_i2n, ax_l2, ax_lsh, ax_ii, ax_il, ax_li, ax_pop, ax_dup, ax_dup2, ax_if, ax_cmp, ax_acmp, ax_goto, ax_getI, ax_getR, ax_putI, ax_putR, ax_gets, ax_getsT, ax_aldI, ax_aldR, ax_astI, ax_astR, ax_alen, ax_ret, ax_aret, ax_vret, am_st, am_kl, List.getElem?_cons_zero, List.getElem?_cons_succ, List.set_cons_zero, List.set_cons_succ, Value.category, true_and, and_true, if_true, if_false, reduceCtorEq, Bool.false_eq_true, false_implies, forall_const, Option.some.injEq, exists_eq_left', exists_eq_left, Sum.inl.injEq, Sum.inr.injEq, Prod.mk.injEq, nI_toInt, nI_clamp, am_ix_nI, am_ix_0, am_ix_1, am_ix_2, am_ix_3, am_n0, am_n1, am_n2, am_n3, am_n4, am_t0, am_t1, am_t2, am_t3, am_t4, am_tm1, am_nS, am_nP, am_nM, Int.ofNat_lt, Int.ofNat_le]
  refine am_callK [.ref e] [] (d' := 4) (lim' := (am_tp σ, am_us σ)) rfl (by decide) (Nat.le_refl _) (Nat.le_refl _) rfl (Nat.le_of_ble_eq_true rfl) (am_recv hJ.2.1.1) ?_
  refine c_lfind hJ hW (fun hno σ1 hJ1 hf1 t1 u1 => ?_) (fun σ1 FL hFL hJ1 hf1 hF1 t1 u1 => ?_)
  · simp (disch := omega) only [ax_const, ax_iload, ax_lload, ax_aload, ax_istore, ax_astore, ax_iinc, ax_i2, ax_i2n, ax_l2, ax_lsh, ax_ii, ax_il, ax_li, ax_pop, ax_dup, ax_dup2, ax_if, ax_cmp, ax_acmp, ax_goto, ax_getI, ax_getR, ax_putI, ax_putR, ax_gets, ax_getsT, ax_aldI, ax_aldR, ax_astI, ax_astR, ax_alen, ax_ret, ax_aret, ax_vret, am_st, am_kl, List.getElem?_cons_zero, List.getElem?_cons_succ, List.set_cons_zero, List.set_cons_succ, Value.category, true_and, and_true, if_true, if_false, reduceCtorEq, Bool.false_eq_true, false_implies, forall_const, Option.some.injEq, exists_eq_left', exists_eq_left, Sum.inl.injEq, Sum.inr.injEq, Prod.mk.injEq, nI_toInt, nI_clamp, am_ix_nI, am_ix_0, am_ix_1, am_ix_2, am_ix_3, am_n0, am_n1, am_n2, am_n3, am_n4, am_t0, am_t1, am_t2, am_t3, am_t4, am_tm1, am_nS, am_nP, am_nM, Int.ofNat_lt, Int.ofNat_le, Option.toList_some, Option.toList_none, List.cons_append, List.nil_append, List.append_nil]
    exact ⟨⟨t1, u1, hQ0 hno σ1 hJ1 hf1⟩, fun z => absurd trivial z⟩
  · have hQ1 := hQ1 FL hFL
    have hok : xl_ok two L1 L2 FL := by
      intro q i j hq
      have hm : (i, j) ∈ FL := List.mem_iff_getElem?.mpr ⟨q, hq⟩
      have hl2 : xl_n2 two L2 ≤ 48 := by
        unfold xl_n2
        cases htw : two with
        | true =>
          obtain ⟨p, h⟩ := hJ.2.2.2.1 htw
          exact h.2.2.2.1
        | false => exact Nat.le_of_ble_eq_true rfl
      have := xl_out_ok (V := fun x => x.1 < L1.length ∧ x.2 < xl_n2 two L2) L1.length 0 [] FL hFL (fun x hx => by cases hx) (fun i' j' a b => ⟨by omega, b⟩) (i, j) hm
      exact ⟨this.1, fun z => by have h := this.2; unfold xl_n2 at h; rw [z, if_pos rfl] at h; exact h, by have h := this.2; show j < 2 ^ 31; have h : j < xl_n2 two L2 := h; omega⟩
    simp (disch := omega) only [ax_const, ax_iload, ax_lload, ax_aload, ax_istore, ax_astore, ax_iinc, ax_i2, ax_i2n, ax_l2, ax_lsh, ax_ii, ax_il, ax_li, ax_pop, ax_dup, ax_dup2, ax_if, ax_cmp, ax_acmp, ax_goto, ax_getI, ax_getR, ax_putI, ax_putR, ax_gets, ax_getsT, ax_aldI, ax_aldR, ax_astI, ax_astR, ax_alen, ax_ret, ax_aret, ax_vret, am_st, am_kl, List.getElem?_cons_zero, List.getElem?_cons_succ, List.set_cons_zero, List.set_cons_succ, Value.category, true_and, and_true, if_true, if_false, reduceCtorEq, Bool.false_eq_true, false_implies, forall_const, Option.some.injEq, exists_eq_left', exists_eq_left, Sum.inl.injEq, Sum.inr.injEq, Prod.mk.injEq, nI_toInt, nI_clamp, am_ix_nI, am_ix_0, am_ix_1, am_ix_2, am_ix_3, am_n0, am_n1, am_n2, am_n3, am_n4, am_t0, am_t1, am_t2, am_t3, am_t4, am_tm1, am_nS, am_nP, am_nM, Int.ofNat_lt, Int.ofNat_le, Option.toList_some, Option.toList_none, List.cons_append, List.nil_append, List.append_nil, o1]
    intro _
    refine am_callK [.ref e] [] (d' := 3) (lim' := (am_tp σ1, am_us σ1)) rfl (by decide) (by rw [t1]; exact Nat.le_refl _) (by rw [u1]; exact Nat.le_refl _) rfl (by decide) (am_recv hJ1.2.1.1) ?_
    refine c_lpart hV4 hok hJ1 hF1 (by rw [(hf1.2.2.2 S nPS).1]; exact hx) hn3 (fun σ2 hJ2 hf2 hF2 hG2 hg2 t2 u2 => ?_)
    have hp := xl_pt_len (kd := k 4) (tg := xl_tg k n0) (mk := xl_at (val 4) L1 L2 FL) FL.length 0 [] 0
    have h40 := hF1.2.1
    change xl_GO σ2 e (xl_GR k n0 val L1 L2 FL).1 at hG2
    change am_i σ2 e 6 = nI (xl_GR k n0 val L1 L2 FL).2 at hg2
    change (xl_GR k n0 val L1 L2 FL).1.length = _ ∧ (xl_GR k n0 val L1 L2 FL).2 ≤ _ at hp
    have hlen : (xl_GR k n0 val L1 L2 FL).1.length = FL.length := hp.1
    have hgr : (xl_GR k n0 val L1 L2 FL).2 ≤ 40 := by have := hp.2; omega
    have t2 := t2.trans t1
    have u2 := u2.trans u1
    have f02 := hf1.tr hf2
    simp (disch := omega) only [ax_const, ax_iload, ax_lload, ax_aload, ax_istore, ax_astore, ax_iinc, ax_i2, ax_i2n, ax_l2, ax_lsh, ax_ii, ax_il, ax_li, ax_pop, ax_dup, ax_dup2, ax_if, ax_cmp, ax_acmp, ax_goto, ax_getI, ax_getR, ax_putI, ax_putR, ax_gets, ax_getsT, ax_aldI, ax_aldR, ax_astI, ax_astR, ax_alen, ax_ret, ax_aret, ax_vret, am_st, am_kl, List.getElem?_cons_zero, List.getElem?_cons_succ, List.set_cons_zero, List.set_cons_succ, Value.category, true_and, and_true, if_true, if_false, reduceCtorEq, Bool.false_eq_true, false_implies, forall_const, Option.some.injEq, exists_eq_left', exists_eq_left, Sum.inl.injEq, Sum.inr.injEq, Prod.mk.injEq, nI_toInt, nI_clamp, am_ix_nI, am_ix_0, am_ix_1, am_ix_2, am_ix_3, am_n0, am_n1, am_n2, am_n3, am_n4, am_t0, am_t1, am_t2, am_t3, am_t4, am_tm1, am_nS, am_nP, am_nM, Int.ofNat_lt, Int.ofNat_le, Option.toList_some, Option.toList_none, List.cons_append, List.nil_append, List.append_nil]
    refine am_callK [.ref e] [] (d' := 4) (lim' := (am_tp σ2, am_us σ2)) rfl (by decide) (by rw [t2]; exact Nat.le_refl _) (by rw [u2]; exact Nat.le_refl _) rfl (by decide) (am_recv hJ2.2.1.1) ?_
    refine c_lsort (val := val 5) hgr hV5 hok hlen hJ2 hF2 hG2 hg2 (fun σ3 SO hSO hJ3 hf3 hF3 hG3 hg3 hs3 hl3 t3 u3 => ?_)
    have t3 := t3.trans t2
    have u3 := u3.trans u2
    have f03 := f02.tr hf3
    rw [(f02.2.2.2 S nPS).1] at hSO
    change SO = xl_SR (decide (am_i σ S 2 ≠ 0)) k n0 val L1 L2 FL at hSO
    rw [← hSO] at hQ1
    have hE3 : xe_Q σ3 se st dr := hEQ.fm f03 (fun b x => by unfold xl_P at x; omega)
    have hx3 : am_i σ3 S 6 = nI n0 := by rw [(f03.2.2.2 S nPS).1]; exact hx
    obtain ⟨y1, y2, y3, y4, y5, y6, y7, y8, y9, y10, y11⟩ := id hJ3.2.1
    simp (disch := omega) only [ax_const, ax_iload, ax_lload, ax_aload, ax_istore, ax_astore, ax_iinc, ax_i2, ax_i2n, ax_l2, ax_lsh, ax_ii, ax_il, ax_li, ax_pop, ax_dup, ax_dup2, ax_if, ax_cmp, ax_acmp, ax_goto, ax_getI, ax_getR, ax_putI, ax_putR, ax_gets, ax_getsT, ax_aldI, ax_aldR, ax_astI, ax_astR, ax_alen, ax_ret, ax_aret, ax_vret, am_st, am_kl, List.getElem?_cons_zero, List.getElem?_cons_succ, List.set_cons_zero, List.set_cons_succ, Value.category, true_and, and_true, if_true, if_false, reduceCtorEq, Bool.false_eq_true, false_implies, forall_const, Option.some.injEq, exists_eq_left', exists_eq_left, Sum.inl.injEq, Sum.inr.injEq, Prod.mk.injEq, nI_toInt, nI_clamp, am_ix_nI, am_ix_0, am_ix_1, am_ix_2, am_ix_3, am_n0, am_n1, am_n2, am_n3, am_n4, am_t0, am_t1, am_t2, am_t3, am_t4, am_tm1, am_nS, am_nP, am_nM, Int.ofNat_lt, Int.ofNat_le, Option.toList_some, Option.toList_none, List.cons_append, List.nil_append, List.append_nil, am_sh_wi, am_sh_wr, am_r_wi, am_i_wr, am_tp_wi, am_tp_wr, am_us_wi, am_us_wr, am_i_wi, am_r_wr, y1, y4, hg3, hE3.1, hJ3.2.2.2.2.1.1]
    rw [if_neg (show ¬ (S = se ∧ 6 = 4) by omega), hx3]
    have fw : am_fm (fun b => b = se) σ3 (am_wi (am_wi σ3 se 4 (nI (xl_GR k n0 val L1 L2 FL).2)) se 5 (nI n0)) := am_fm.wi (P := fun b => b = se) (am_fm.wi (P := fun b => b = se) .rf rfl) rfl
    have hJ4 : xl_J g (am_wi (am_wi σ3 se 4 (nI (xl_GR k n0 val L1 L2 FL).2)) se 5 (nI n0)) e S k ss f s two top L1 L2 := by
      obtain ⟨j1, j2, ⟨p, j3⟩, j4, j5, j6, j7, j8, j9, j10, j11, j12, j13, j14⟩ := hJ3
      refine ⟨j1.fm fw (fun b x => by omega), j2, ⟨p, j3.fm fw (fun b x y => by omega)⟩, fun q => ?_, j5.fm fw (by omega) (by omega) (by omega), j6.fm fw (fun b x y z => by omega), by rw [(fw.2.2.2 S (by omega)).1]; exact j7, by rw [(fw.2.2.2 S (by omega)).1]; exact j8, by rw [(fw.2.2.2 S (by omega)).1]; exact j9, j10, j11, j12, j13, j14⟩
      obtain ⟨p2, j4⟩ := j4 q
      exact ⟨p2, j4.fm fw (fun b x y => by omega)⟩
    refine xl_sel_out (by decide) hgr hn3 hse hl3 hV hok hlen hQ1 (xl_GR k n0 val L1 L2 FL).2 0 _ none (Nat.add_zero _) ⟨hJ4, hF3.fm fw (by omega) (by omega) (by omega), fun q x hq => by rw [(fw.2.2.2 (e + 103) (by omega)).1]; exact hG3 q x hq, by rw [(fw.2.2.2 e (by omega)).1]; exact hg3, fun q hq => by rw [(fw.2.2.2 (e + 106) (by omega)).1]; exact hs3 q hq, (hE3.wi (by decide)).wi (by decide), by rw [(fw.2.2.2 S (by omega)).1]; exact hx3, by rw [am_i_wi, if_neg (by omega), am_i_wi, if_pos ⟨rfl, rfl⟩], by rw [am_i_wi, if_pos ⟨rfl, rfl⟩]⟩ (fun r' c' a b => by omega) ((f03.mono (fun b x => Or.inl x)).tr (fw.mono (fun b x => Or.inr ⟨by omega, by omega⟩))) t3 u3
