/-! parse -/
def xp_W0 (f : Nat → Int32) : xp_W := (f, fun _ => 0, fun _ => [], (0, false, [], fun _ => false))
def xp_parse (ts : List (Nat × Int32)) (f : Nat → Int32) : xp_W :=
  if xp_hd ts 0 = 0 then xp_rI ts (xp_om xp_adv (xp_W0 f))
  else if xp_hd ts 0 = 1 then xp_oW ts (xp_rU ts (xp_om xp_adv (xp_W0 f)))
  else if xp_hd ts 0 = 2 then xp_oW ts (xp_oT ts 3 (xp_om xp_adv (xp_W0 f)))
  else if xp_hd ts 0 = 3 then xp_rA ts (xp_oW ts (xp_rS ts (xp_om xp_adv (xp_W0 f))))
  else xp_om xp_bad (xp_W0 f)
/-- the parser between the calls -/
def xp_P0 (g : am_G) (σ : am_S) (pa : Nat) : Prop := am_sh σ pa = some (.inl 1) ∧ am_r σ pa 0 = some (pa + 1) ∧ am_r σ pa 1 = some (pa + 32) ∧ xn_S σ (pa + 32) ∧ xs_S σ (pa + 1) ∧ (∃ k ss, xs_CS g σ (pa + 1) k ss) ∧ g.2.2.1.size ≤ pa
theorem xp_sl_ss {ts : List (Nat × Int32)} {j : Nat} (hj : 3 ≤ j) : ∀ n i (W : xp_W), n + i = 3 → (xp_sl ts n i W).2.2.1 j = W.2.2.1 j
  | 0, _, _, _ => rfl
  | n + 1, i, W, h => by
    rw [xp_sl]
    split
    · rw [xp_sl_ss hj n (i + 1) _ (by omega)]
      show (if j = i then _ else W.2.2.1 j) = W.2.2.1 j
      rw [if_neg (by omega)]
    · rfl
theorem xp_rS_ss {ts : List (Nat × Int32)} {j : Nat} {W : xp_W} (hj : 3 ≤ j) : (xp_rS ts W).2.2.1 j = W.2.2.1 j := by
  have e84 : ∀ V : xp_W, (xp_s84 ts V).2.2.1 = V.2.2.1 := by
    intro V
    unfold xp_s84
    split <;> rfl
  unfold xp_rS
  rw [e84, xp_sl_ss hj 2 1 _ rfl]
  show (if j = 0 then _ else (xp_s0 ts W).2.2.1 j) = W.2.2.1 j
  rw [if_neg (by omega)]
  unfold xp_s0
  split <;> rfl
theorem xp_oW_ss {ts : List (Nat × Int32)} {j : Nat} {W : xp_W} (hj : j ≠ 3) : (xp_oW ts W).2.2.1 j = W.2.2.1 j := by
  unfold xp_oW
  split
  · show (if j = 3 then _ else W.2.2.1 j) = W.2.2.1 j
    rw [if_neg hj]
  · rfl
theorem xp_rU_ss {ts : List (Nat × Int32)} {j : Nat} {W : xp_W} (hj : j ≠ 0) : (xp_rU ts W).2.2.1 j = W.2.2.1 j := by
  unfold xp_rU
  split
  · show (if j = 0 then _ else W.2.2.1 j) = W.2.2.1 j
    rw [if_neg hj]
  · show (if j = 0 then _ else W.2.2.1 j) = W.2.2.1 j
    rw [if_neg hj]
def xp_ok (ts : List (Nat × Int32)) (W : xp_W) : Bool := !W.2.2.2.2.1 && (xp_hd ts W.2.2.2.1 == 36)
theorem xp_par133 {g : am_G} {l : Launch} {σ : am_S} {pa v d tp us a : Nat} {n : Int32} {ts : List (Nat × Int32)} {W : xp_W} {Q : Option Value → am_S → Prop} (hd : 1 ≤ d) (h : xp_Z g σ pa ts W v) (h1 : am_tp σ = tp) (h2 : am_us σ = us)
    (hQ : Q (some (.int (if xp_ok ts W then 1 else 0))) σ) : am_W g l mX1_parse d (tp, us) Q 133 [some (.ref pa), some (.ref a), some (.int n)] [] σ := by
  have o1 : ¬ (1 : Int32) = 0 := by decide
  obtain ⟨g1, g2, g3, g4, g5, g6, g7, g8, g9, g10, g11, g12, g13⟩ := id h.1
  have hb := h.1.hd
  have j36 := g1.1.inj hb.1 (show 36 < 37 by decide)
  unfold xp_ok at hQ
  refine kX1_parse_133 ?_
  simp (disch := omega) only [ax_const, ax_iload, ax_lload, ax_aload, ax_istore, ax_astore, ax_iinc, ax_i2, ax_i2n, ax_l2, ax_lsh, ax_ii, ax_il, ax_li, ax_pop, ax_dup, ax_dup2, ax_if, ax_cmp, ax_acmp, ax_goto, ax_getI, ax_getR, ax_putI, ax_putR, ax_gets, ax_getsT, ax_aldI, ax_aldR, ax_astI, ax_astR, ax_alen, ax_ret, ax_aret, ax_vret, am_st, am_kl, List.getElem?_cons_zero, List.getElem?_cons_succ, List.set_cons_zero, List.set_cons_succ, Value.category, true_and, and_true, if_true, if_false, reduceCtorEq, Bool.false_eq_true, false_implies, forall_const, Option.some.injEq, exists_eq_left', exists_eq_left, Sum.inl.injEq, Sum.inr.injEq, Prod.mk.injEq, nI_toInt, nI_clamp, am_ix_nI, am_ix_0, am_ix_1, am_ix_2, am_ix_3, am_n0, am_n1, am_n2, am_n3, am_n4, am_t0, am_t1, am_t2, am_t3, am_t4, am_tm1, am_nS, am_nP, am_nM, Int.ofNat_lt, Int.ofNat_le, g2, g8]
  cases hw : W.2.2.2.2.1 with
  | true =>
    rw [hw] at hQ
    rw [if_pos rfl]
    exact ⟨fun z => absurd z o1, fun _ => ⟨by simp, h1, h2, hQ⟩⟩
  | false =>
    rw [hw] at hQ
    rw [if_neg (by decide)]
    refine ⟨fun _ => ?_, fun z => absurd rfl z⟩
    refine am_callK [.ref pa] [] (d' := 0) (lim' := (am_tp σ, am_us σ)) rfl (by omega) (by rw [h1]; exact Nat.le_refl _) (by rw [h2]; exact Nat.le_refl _) rfl (by decide) (am_recv g2) ?_
    refine c_pnext h.1 (fun _ _ => ?_)
    simp (disch := omega) only [ax_const, ax_iload, ax_lload, ax_aload, ax_istore, ax_astore, ax_iinc, ax_i2, ax_i2n, ax_l2, ax_lsh, ax_ii, ax_il, ax_li, ax_pop, ax_dup, ax_dup2, ax_if, ax_cmp, ax_acmp, ax_goto, ax_getI, ax_getR, ax_putI, ax_putR, ax_gets, ax_getsT, ax_aldI, ax_aldR, ax_astI, ax_astR, ax_alen, ax_ret, ax_aret, ax_vret, am_st, am_kl, List.getElem?_cons_zero, List.getElem?_cons_succ, List.set_cons_zero, List.set_cons_succ, Value.category, true_and, and_true, if_true, if_false, reduceCtorEq, Bool.false_eq_true, false_implies, forall_const, Option.some.injEq, exists_eq_left', exists_eq_left, Sum.inl.injEq, Sum.inr.injEq, Prod.mk.injEq, nI_toInt, nI_clamp, am_ix_nI, am_ix_0, am_ix_1, am_ix_2, am_ix_3, am_n0, am_n1, am_n2, am_n3, am_n4, am_t0, am_t1, am_t2, am_t3, am_t4, am_tm1, am_nS, am_nP, am_nM, Int.ofNat_lt, Int.ofNat_le, Option.toList_some, Option.toList_none, List.cons_append, List.nil_append, List.append_nil, j36]
    refine ⟨fun q => ⟨by simp, h1, h2, ?_⟩, fun q => ⟨by simp, h1, h2, ?_⟩⟩
    · rw [q] at hQ
      exact hQ
    · rw [show (xp_hd ts W.2.2.2.1 == 36) = false from beq_eq_false_iff_ne.mpr q] at hQ
      exact hQ
theorem xs_S.verb {σ : am_S} {S : Nat} {x : Option Nat} (h : xs_S σ S) : xs_S (am_wr σ S 0 x) S := by
  obtain ⟨a1, a2, a3, a4, a5, a6, a7, a8, a9, a10, a11, a12⟩ := h
  have e : ∀ j, j ≠ 0 → am_r (am_wr σ S 0 x) S j = am_r σ S j := fun j hj => by rw [am_r_wr, if_neg (fun z => hj z.2)]
  have e1 : ∀ b, b ≠ S → am_r (am_wr σ S 0 x) b = am_r σ b := fun b hb => funext fun j => by rw [am_r_wr, if_neg (fun z => hb z.1)]
  unfold xs_S
  rw [e 7 (by decide), e 8 (by decide), e 9 (by decide), e 10 (by decide), e 11 (by decide), e 12 (by decide), e1 (S + 1) (by omega), e1 (S + 15) (by omega)]
  exact ⟨a1, a2, a3, a4, a5, a6, a7, a8, a9, a10, a11, a12⟩
theorem xp_J.verb {g : am_G} {σ : am_S} {pa j : Nat} {x : Option Nat} {ts : List (Nat × Int32)} {k : Nat → Nat} {ss : Nat → List (Nat × Int32)} {m : xp_M} (h : xp_J g σ pa ts k ss j m) : xp_J g (am_wr σ (pa + 1) 0 x) pa ts k ss j m := by
  have hf : am_fm (fun b => b = pa + 1) σ (am_wr σ (pa + 1) 0 x) := am_fm.rf.wr rfl
  obtain ⟨g1, g2, g3, g4, g5, g6, g7, g8, g9, g10, g11, g12, g13⟩ := h
  exact ⟨g1.fm hf (fun b x => by omega), g2, by rw [am_r_wr, if_neg (by omega)]; exact g3, by rw [am_r_wr, if_neg (by omega)]; exact g4, g5.fm hf (by omega), g6.fm hf (by omega) (by omega), g7, g8, g9.verb, g10.fm hf (fun b x y z => by omega), g11, g12, g13⟩
theorem c_pparse {g : am_G} {l : Launch} {σ : am_S} {pa a : Nat} {dr : List Nat} {Q : Option Value → am_S → Prop} (hT : xt_T g σ) (h : xp_P0 g σ pa) (hX : xn_X σ a dr) (ha : a < pa ∨ pa + 35 ≤ a)
    (hQ : ∀ σ' f, f 4 = -1 → xp_Z g σ' pa (xn_sc dr 0) (xp_parse (xn_sc dr 0) f) (xp_hd (xn_sc dr 0) 0) → xp_fr pa σ σ' → Q (some (.int (if xp_ok (xn_sc dr 0) (xp_parse (xn_sc dr 0) f) then 1 else 0))) σ') : am_C g l mX1_parse 28 (am_tp σ, am_us σ) [.ref pa, .ref a, .int (nI dr.length)] σ Q := by
  obtain ⟨g2, g3, g4, g5, g6, ⟨k, ss, g7⟩, g8⟩ := h
  have o1 : ¬ (1 : Int32) = 0 := by decide
  refine am_C.go [some (.ref pa), some (.ref a), some (.int (nI dr.length))] (by decide +kernel) (Nat.le_of_ble_eq_true rfl) rfl (kX1_parse_0 ?_)
  simp (disch := omega) only [ax_const, ax_iload, ax_lload, ax_aload, ax_istore, ax_astore, ax_iinc, ax_i2, ax_i2n, ax_l2, ax_lsh, ax_ii, ax_il, ax_li, ax_pop, ax_dup, ax_dup2, ax_if, ax_cmp, ax_acmp, ax_goto, ax_getI, ax_getR, ax_putI, ax_putR, ax_gets, ax_getsT, ax_aldI, ax_aldR, ax_astI, ax_astR, ax_alen, ax_ret, ax_aret, ax_vret, am_st, am_kl, List.getElem?_cons_zero, List.getElem?_cons_succ, List.set_cons_zero, List.set_cons_succ, Value.category, true_and, and_true, if_true, if_false, reduceCtorEq, Bool.false_eq_true, false_implies, forall_const, Option.some.injEq, exists_eq_left', exists_eq_left, Sum.inl.injEq, Sum.inr.injEq, Prod.mk.injEq, nI_toInt, nI_clamp, am_ix_nI, am_ix_0, am_ix_1, am_ix_2, am_ix_3, am_n0, am_n1, am_n2, am_n3, am_n4, am_t0, am_t1, am_t2, am_t3, am_t4, am_tm1, am_nS, am_nP, am_nM, Int.ofNat_lt, Int.ofNat_le, g2, g4]
  refine am_callK [.ref (pa + 32), .ref a, .int (nI dr.length)] [] (d' := 6) (lim' := (am_tp σ, am_us σ)) rfl (by decide) (Nat.le_refl _) (Nat.le_refl _) rfl (Nat.le_of_ble_eq_true rfl) (am_recv g5.1) ?_
  refine c_nscan hT hX g5 (by omega) (by omega) (fun σ1 s1 s2 s3 t1 u1 => ?_)
  have s3p : xp_fr pa σ σ1 := s3.mono (fun b x => ⟨by omega, by omega⟩)
  have b2 : am_sh σ1 pa = some (.inl 1) := by rw [s3.1]; exact g2
  have b3 : am_r σ1 pa 0 = some (pa + 1) := by rw [(s3.2.2.2 pa (by omega)).2]; exact g3
  have b4 : am_r σ1 pa 1 = some (pa + 32) := by rw [(s3.2.2.2 pa (by omega)).2]; exact g4
  simp (disch := omega) only [ax_const, ax_iload, ax_lload, ax_aload, ax_istore, ax_astore, ax_iinc, ax_i2, ax_i2n, ax_l2, ax_lsh, ax_ii, ax_il, ax_li, ax_pop, ax_dup, ax_dup2, ax_if, ax_cmp, ax_acmp, ax_goto, ax_getI, ax_getR, ax_putI, ax_putR, ax_gets, ax_getsT, ax_aldI, ax_aldR, ax_astI, ax_astR, ax_alen, ax_ret, ax_aret, ax_vret, am_st, am_kl, List.getElem?_cons_zero, List.getElem?_cons_succ, List.set_cons_zero, List.set_cons_succ, Value.category, true_and, and_true, if_true, if_false, reduceCtorEq, Bool.false_eq_true, false_implies, forall_const, Option.some.injEq, exists_eq_left', exists_eq_left, Sum.inl.injEq, Sum.inr.injEq, Prod.mk.injEq, nI_toInt, nI_clamp, am_ix_nI, am_ix_0, am_ix_1, am_ix_2, am_ix_3, am_n0, am_n1, am_n2, am_n3, am_n4, am_t0, am_t1, am_t2, am_t3, am_t4, am_tm1, am_nS, am_nP, am_nM, Int.ofNat_lt, Int.ofNat_le, Option.toList_some, Option.toList_none, List.cons_append, List.nil_append, List.append_nil, am_sh_wi, am_sh_wr, am_r_wi, am_i_wr, am_tp_wi, am_tp_wr, am_us_wi, am_us_wr, am_i_wi, am_r_wr, b2, b3]
  refine ⟨by simp, ?_⟩
  have fw : am_fm (fun b => b = pa) σ1 (am_wi (am_wi σ1 pa 2 0) pa 3 0) := am_fm.wi (P := fun b => b = pa) (am_fm.wi (P := fun b => b = pa) .rf rfl) rfl
  have S2 := (g6.fm s3 (by omega) (by omega) (by omega)).fm fw (by omega) (by omega) (by omega)
  have C2 := (g7.fm s3 (fun b x y z => by omega)).fm fw (fun b x y z => by omega)
  refine am_callK [.ref (pa + 1)] [] (d' := 1) (lim' := (am_tp σ1, am_us σ1)) rfl (by decide) (by rw [t1]; exact Nat.le_refl _) (by rw [u1]; exact Nat.le_refl _) rfl (by decide) (am_recv S2.1) ?_
  refine c_sclear S2 C2 (fun σ2 e1 e2 e3 e4 e5 t2 u2 => ?_)
  have t2' : am_tp σ2 = am_tp σ := t2.trans t1
  have u2' : am_us σ2 = am_us σ := u2.trans u1
  have hT2 : xt_T g σ2 := ((hT.fm s3 (fun b x => by omega)).fm fw (fun b x => by omega)).fm e5 (fun b x => by omega)
  have a2 : am_i σ2 pa 2 = nI 0 := by rw [(e5.2.2.2 pa (by omega)).1, am_i_wi, if_neg (by omega), am_i_wi, if_pos ⟨rfl, rfl⟩]; rfl
  have a3 : am_i σ2 pa 3 = 0 := by rw [(e5.2.2.2 pa (by omega)).1, am_i_wi, if_pos ⟨rfl, rfl⟩]
  have hJ : xp_J g σ2 pa (xn_sc dr 0) (fun _ => 0) (fun _ => []) 9 (0, false, [], fun _ => false) := by
    refine ⟨hT2, by rw [e5.1]; exact b2, by rw [(e5.2.2.2 pa (by omega)).2]; exact b3, by rw [(e5.2.2.2 pa (by omega)).2]; exact b4, (s1.fm fw (by omega)).fm e5 (by omega), (s2.fm fw (by omega) (by omega)).fm e5 (by omega) (by omega), a2, a3, e1, ?_, fun t ht => e4 t ht, g8, Nat.zero_le _⟩
    intro i hi
    have := e2 i hi
    dsimp only at this ⊢
    split <;> exact this
  have fr2 : xp_fr pa σ σ2 := (s3p.tr (xp_fr.pa fw)).tr (e5.mono (fun b x => ⟨by omega, by omega⟩))
  have b32 : am_r σ2 pa 0 = some (pa + 1) := hJ.2.2.1
  simp (disch := omega) only [ax_const, ax_iload, ax_lload, ax_aload, ax_istore, ax_astore, ax_iinc, ax_i2, ax_i2n, ax_l2, ax_lsh, ax_ii, ax_il, ax_li, ax_pop, ax_dup, ax_dup2, ax_if, ax_cmp, ax_acmp, ax_goto, ax_getI, ax_getR, ax_putI, ax_putR, ax_gets, ax_getsT, ax_aldI, ax_aldR, ax_astI, ax_astR, ax_alen, ax_ret, ax_aret, ax_vret, am_st, am_kl, List.getElem?_cons_zero, List.getElem?_cons_succ, List.set_cons_zero, List.set_cons_succ, Value.category, true_and, and_true, if_true, if_false, reduceCtorEq, Bool.false_eq_true, false_implies, forall_const, Option.some.injEq, exists_eq_left', exists_eq_left, Sum.inl.injEq, Sum.inr.injEq, Prod.mk.injEq, nI_toInt, nI_clamp, am_ix_nI, am_ix_0, am_ix_1, am_ix_2, am_ix_3, am_n0, am_n1, am_n2, am_n3, am_n4, am_t0, am_t1, am_t2, am_t3, am_t4, am_tm1, am_nS, am_nP, am_nM, Int.ofNat_lt, Int.ofNat_le, Option.toList_some, Option.toList_none, List.cons_append, List.nil_append, List.append_nil, hJ.2.1, b32]
  refine am_callK [.ref pa] [.ref (pa + 1)] (d' := 0) (lim' := (am_tp σ2, am_us σ2)) rfl (by decide) (by rw [t2']; exact Nat.le_refl _) (by rw [u2']; exact Nat.le_refl _) rfl (Nat.le_of_ble_eq_true rfl) (am_recv hJ.2.1) ?_
  refine c_pnext hJ (fun _ _ => ?_)
  have hZ : xp_Z g (am_wr σ2 (pa + 1) 0 (some (am_tk g (xp_hd (xn_sc dr 0) 0)))) pa (xn_sc dr 0) (xp_W0 (am_i σ2 (pa + 1))) (xp_hd (xn_sc dr 0) 0) := ⟨hJ.verb, fun i _ _ => rfl, by rw [am_r_wr, if_pos ⟨rfl, rfl⟩]⟩
  have fr3 : xp_fr pa σ (am_wr σ2 (pa + 1) 0 (some (am_tk g (xp_hd (xn_sc dr 0) 0)))) := fr2.tr (am_fm.wr (P := fun b => pa ≤ b ∧ b < pa + 35) .rf ⟨by omega, by omega⟩)
  have hv37 := hJ.hd.1
  have htk := (hT2.1 _ hv37).1
  have hQ' := fun σ' => hQ σ' (am_i σ2 (pa + 1)) e3
  have Sp1 : am_sh σ2 (pa + 1) = some (.inl 6) := e1.1
  clear hQ e1 e2 e3 e4 e5 a2 a3 s1 s2 s3 s3p fw S2 C2 b2 b3 b4
  have t3 : am_tp (am_wr σ2 (pa + 1) 0 (some (am_tk g (xp_hd (xn_sc dr 0) 0)))) = am_tp σ := t2'
  have u3 : am_us (am_wr σ2 (pa + 1) 0 (some (am_tk g (xp_hd (xn_sc dr 0) 0)))) = am_us σ := u2'
  simp (disch := omega) only [ax_const, ax_iload, ax_lload, ax_aload, ax_istore, ax_astore, ax_iinc, ax_i2, ax_i2n, ax_l2, ax_lsh, ax_ii, ax_il, ax_li, ax_pop, ax_dup, ax_dup2, ax_if, ax_cmp, ax_acmp, ax_goto, ax_getI, ax_getR, ax_putI, ax_putR, ax_gets, ax_getsT, ax_aldI, ax_aldR, ax_astI, ax_astR, ax_alen, ax_ret, ax_aret, ax_vret, am_st, am_kl, List.getElem?_cons_zero, List.getElem?_cons_succ, List.set_cons_zero, List.set_cons_succ, Value.category, true_and, and_true, if_true, if_false, reduceCtorEq, Bool.false_eq_true, false_implies, forall_const, Option.some.injEq, exists_eq_left', exists_eq_left, Sum.inl.injEq, Sum.inr.injEq, Prod.mk.injEq, nI_toInt, nI_clamp, am_ix_nI, am_ix_0, am_ix_1, am_ix_2, am_ix_3, am_n0, am_n1, am_n2, am_n3, am_n4, am_t0, am_t1, am_t2, am_t3, am_t4, am_tm1, am_nS, am_nP, am_nM, Int.ofNat_lt, Int.ofNat_le, Option.toList_some, Option.toList_none, List.cons_append, List.nil_append, List.append_nil, am_sh_wi, am_sh_wr, am_r_wi, am_i_wr, am_tp_wi, am_tp_wr, am_us_wi, am_us_wr, am_i_wi, am_r_wr, Sp1, htk]
  generalize am_wr σ2 (pa + 1) 0 (some (am_tk g (xp_hd (xn_sc dr 0) 0))) = σ3 at hZ fr3 t3 u3 ⊢
  generalize am_i σ2 (pa + 1) = f at hZ hQ'
  clear hJ hT2 t2' u2' b32 fr2 htk Sp1
  generalize xn_sc dr 0 = ts at *
  have fin : ∀ (σ' : am_S) (W : xp_W), W = xp_parse ts f → xp_Z g σ' pa ts W (xp_hd ts 0) → xp_fr pa σ σ' → am_tp σ' = am_tp σ → am_us σ' = am_us σ → am_W g l mX1_parse 28 (am_tp σ, am_us σ) Q 133 [some (.ref pa), some (.ref a), some (.int (nI dr.length))] [] σ' := by
    intro σ' W eW hz fr t u
    subst eW
    exact xp_par133 (by decide) hz t u (hQ' σ' hz fr)
  clear hQ'
  unfold xp_parse at fin
  refine z_take hZ (by decide) (by decide) t3 u3 (by decide) (fun q σ4 k4 fr4 t4 u4 => ?_) (fun q => ?_)
  · have q : xp_hd ts 0 = 0 := q
    rw [if_pos q] at fin
    simp (disch := omega) only [ax_const, ax_iload, ax_lload, ax_aload, ax_istore, ax_astore, ax_iinc, ax_i2, ax_i2n, ax_l2, ax_lsh, ax_ii, ax_il, ax_li, ax_pop, ax_dup, ax_dup2, ax_if, ax_cmp, ax_acmp, ax_goto, ax_getI, ax_getR, ax_putI, ax_putR, ax_gets, ax_getsT, ax_aldI, ax_aldR, ax_astI, ax_astR, ax_alen, ax_ret, ax_aret, ax_vret, am_st, am_kl, List.getElem?_cons_zero, List.getElem?_cons_succ, List.set_cons_zero, List.set_cons_succ, Value.category, true_and, and_true, if_true, if_false, reduceCtorEq, Bool.false_eq_true, false_implies, forall_const, Option.some.injEq, exists_eq_left', exists_eq_left, Sum.inl.injEq, Sum.inr.injEq, Prod.mk.injEq, nI_toInt, nI_clamp, am_ix_nI, am_ix_0, am_ix_1, am_ix_2, am_ix_3, am_n0, am_n1, am_n2, am_n3, am_n4, am_t0, am_t1, am_t2, am_t3, am_t4, am_tm1, am_nS, am_nP, am_nM, Int.ofNat_lt, Int.ofNat_le, o1]
    intro _
    refine am_callK [.ref pa] [] (d' := 24) (lim' := (am_tp σ4, am_us σ4)) rfl (by decide) (by rw [t4]; exact Nat.le_refl _) (by rw [u4]; exact Nat.le_refl _) rfl (by decide) (am_recv k4.1.2.1) ?_
    refine c_pinsert k4 (Nat.le_refl _) (fun _ _ => rfl) (fun σ5 k5 fr5 t5 u5 => ?_)
    simp (disch := omega) only [Option.toList_some, Option.toList_none, List.cons_append, List.nil_append, List.append_nil]
    exact fin σ5 _ rfl k5 ((fr3.tr fr4).tr fr5) (t5.trans t4) (u5.trans u4)
  · have q : ¬ xp_hd ts 0 = 0 := q
    rw [if_neg q] at fin
    simp (disch := omega) only [ax_const, ax_iload, ax_lload, ax_aload, ax_istore, ax_astore, ax_iinc, ax_i2, ax_i2n, ax_l2, ax_lsh, ax_ii, ax_il, ax_li, ax_pop, ax_dup, ax_dup2, ax_if, ax_cmp, ax_acmp, ax_goto, ax_getI, ax_getR, ax_putI, ax_putR, ax_gets, ax_getsT, ax_aldI, ax_aldR, ax_astI, ax_astR, ax_alen, ax_ret, ax_aret, ax_vret, am_st, am_kl, List.getElem?_cons_zero, List.getElem?_cons_succ, List.set_cons_zero, List.set_cons_succ, Value.category, true_and, and_true, if_true, if_false, reduceCtorEq, Bool.false_eq_true, false_implies, forall_const, Option.some.injEq, exists_eq_left', exists_eq_left, Sum.inl.injEq, Sum.inr.injEq, Prod.mk.injEq, nI_toInt, nI_clamp, am_ix_nI, am_ix_0, am_ix_1, am_ix_2, am_ix_3, am_n0, am_n1, am_n2, am_n3, am_n4, am_t0, am_t1, am_t2, am_t3, am_t4, am_tm1, am_nS, am_nP, am_nM, Int.ofNat_lt, Int.ofNat_le]
    refine ⟨?_, fun z => absurd trivial z⟩
    refine z_take hZ (by decide) (by decide) t3 u3 (by decide) (fun q σ4 k4 fr4 t4 u4 => ?_) (fun q => ?_)
    · have q : xp_hd ts 0 = 1 := q
      rw [if_pos q] at fin
      simp (disch := omega) only [ax_const, ax_iload, ax_lload, ax_aload, ax_istore, ax_astore, ax_iinc, ax_i2, ax_i2n, ax_l2, ax_lsh, ax_ii, ax_il, ax_li, ax_pop, ax_dup, ax_dup2, ax_if, ax_cmp, ax_acmp, ax_goto, ax_getI, ax_getR, ax_putI, ax_putR, ax_gets, ax_getsT, ax_aldI, ax_aldR, ax_astI, ax_astR, ax_alen, ax_ret, ax_aret, ax_vret, am_st, am_kl, List.getElem?_cons_zero, List.getElem?_cons_succ, List.set_cons_zero, List.set_cons_succ, Value.category, true_and, and_true, if_true, if_false, reduceCtorEq, Bool.false_eq_true, false_implies, forall_const, Option.some.injEq, exists_eq_left', exists_eq_left, Sum.inl.injEq, Sum.inr.injEq, Prod.mk.injEq, nI_toInt, nI_clamp, am_ix_nI, am_ix_0, am_ix_1, am_ix_2, am_ix_3, am_n0, am_n1, am_n2, am_n3, am_n4, am_t0, am_t1, am_t2, am_t3, am_t4, am_tm1, am_nS, am_nP, am_nM, Int.ofNat_lt, Int.ofNat_le, o1]
      intro _
      refine am_callK [.ref pa] [] (d' := 24) (lim' := (am_tp σ4, am_us σ4)) rfl (by decide) (by rw [t4]; exact Nat.le_refl _) (by rw [u4]; exact Nat.le_refl _) rfl (by decide) (am_recv k4.1.2.1) ?_
      refine c_pupdate k4 (Nat.le_refl _) (fun _ _ => rfl) (fun σ5 k5 fr5 t5 u5 => ?_)
      have t5 := t5.trans t4
      have u5 := u5.trans u4
      simp (disch := omega) only [ax_const, ax_iload, ax_lload, ax_aload, ax_istore, ax_astore, ax_iinc, ax_i2, ax_i2n, ax_l2, ax_lsh, ax_ii, ax_il, ax_li, ax_pop, ax_dup, ax_dup2, ax_if, ax_cmp, ax_acmp, ax_goto, ax_getI, ax_getR, ax_putI, ax_putR, ax_gets, ax_getsT, ax_aldI, ax_aldR, ax_astI, ax_astR, ax_alen, ax_ret, ax_aret, ax_vret, am_st, am_kl, List.getElem?_cons_zero, List.getElem?_cons_succ, List.set_cons_zero, List.set_cons_succ, Value.category, true_and, and_true, if_true, if_false, reduceCtorEq, Bool.false_eq_true, false_implies, forall_const, Option.some.injEq, exists_eq_left', exists_eq_left, Sum.inl.injEq, Sum.inr.injEq, Prod.mk.injEq, nI_toInt, nI_clamp, am_ix_nI, am_ix_0, am_ix_1, am_ix_2, am_ix_3, am_n0, am_n1, am_n2, am_n3, am_n4, am_t0, am_t1, am_t2, am_t3, am_t4, am_tm1, am_nS, am_nP, am_nM, Int.ofNat_lt, Int.ofNat_le, Option.toList_some, Option.toList_none, List.cons_append, List.nil_append, List.append_nil]
      refine am_callK [.ref pa] [] (d' := 27) (lim' := (am_tp σ5, am_us σ5)) rfl (by decide) (by rw [t5]; exact Nat.le_refl _) (by rw [u5]; exact Nat.le_refl _) rfl (by decide) (am_recv k5.1.2.1) ?_
      refine c_pwhere k5 (xp_rU_ss (by decide)) (fun σ6 k6 fr6 t6 u6 => ?_)
      simp (disch := omega) only [Option.toList_some, Option.toList_none, List.cons_append, List.nil_append, List.append_nil]
      exact fin σ6 _ rfl k6 (((fr3.tr fr4).tr fr5).tr fr6) (t6.trans t5) (u6.trans u5)
    · have q : ¬ xp_hd ts 0 = 1 := q
      rw [if_neg q] at fin
      simp (disch := omega) only [ax_const, ax_iload, ax_lload, ax_aload, ax_istore, ax_astore, ax_iinc, ax_i2, ax_i2n, ax_l2, ax_lsh, ax_ii, ax_il, ax_li, ax_pop, ax_dup, ax_dup2, ax_if, ax_cmp, ax_acmp, ax_goto, ax_getI, ax_getR, ax_putI, ax_putR, ax_gets, ax_getsT, ax_aldI, ax_aldR, ax_astI, ax_astR, ax_alen, ax_ret, ax_aret, ax_vret, am_st, am_kl, List.getElem?_cons_zero, List.getElem?_cons_succ, List.set_cons_zero, List.set_cons_succ, Value.category, true_and, and_true, if_true, if_false, reduceCtorEq, Bool.false_eq_true, false_implies, forall_const, Option.some.injEq, exists_eq_left', exists_eq_left, Sum.inl.injEq, Sum.inr.injEq, Prod.mk.injEq, nI_toInt, nI_clamp, am_ix_nI, am_ix_0, am_ix_1, am_ix_2, am_ix_3, am_n0, am_n1, am_n2, am_n3, am_n4, am_t0, am_t1, am_t2, am_t3, am_t4, am_tm1, am_nS, am_nP, am_nM, Int.ofNat_lt, Int.ofNat_le]
      refine ⟨?_, fun z => absurd trivial z⟩
      refine z_take hZ (by decide) (by decide) t3 u3 (by decide) (fun q σ4 k4 fr4 t4 u4 => ?_) (fun q => ?_)
      · have q : xp_hd ts 0 = 2 := q
        rw [if_pos q] at fin
        obtain ⟨p1, p2, p3, p4, p5, p6, p7, p8, p9, p10⟩ := k4.fc
        simp (disch := omega) only [ax_const, ax_iload, ax_lload, ax_aload, ax_istore, ax_astore, ax_iinc, ax_i2, ax_i2n, ax_l2, ax_lsh, ax_ii, ax_il, ax_li, ax_pop, ax_dup, ax_dup2, ax_if, ax_cmp, ax_acmp, ax_goto, ax_getI, ax_getR, ax_putI, ax_putR, ax_gets, ax_getsT, ax_aldI, ax_aldR, ax_astI, ax_astR, ax_alen, ax_ret, ax_aret, ax_vret, am_st, am_kl, List.getElem?_cons_zero, List.getElem?_cons_succ, List.set_cons_zero, List.set_cons_succ, Value.category, true_and, and_true, if_true, if_false, reduceCtorEq, Bool.false_eq_true, false_implies, forall_const, Option.some.injEq, exists_eq_left', exists_eq_left, Sum.inl.injEq, Sum.inr.injEq, Prod.mk.injEq, nI_toInt, nI_clamp, am_ix_nI, am_ix_0, am_ix_1, am_ix_2, am_ix_3, am_n0, am_n1, am_n2, am_n3, am_n4, am_t0, am_t1, am_t2, am_t3, am_t4, am_tm1, am_nS, am_nP, am_nM, Int.ofNat_lt, Int.ofNat_le, o1, p1, p2]
        intro _
        refine z_table k4 (by decide) t4 u4 (Nat.le_of_ble_eq_true rfl) (fun σ5 k5 fr5 t5 u5 => ?_)
        obtain ⟨p1, p2, p3, p4, p5, p6, p7, p8, p9, p10⟩ := k5.fc
        simp (disch := omega) only [ax_const, ax_iload, ax_lload, ax_aload, ax_istore, ax_astore, ax_iinc, ax_i2, ax_i2n, ax_l2, ax_lsh, ax_ii, ax_il, ax_li, ax_pop, ax_dup, ax_dup2, ax_if, ax_cmp, ax_acmp, ax_goto, ax_getI, ax_getR, ax_putI, ax_putR, ax_gets, ax_getsT, ax_aldI, ax_aldR, ax_astI, ax_astR, ax_alen, ax_ret, ax_aret, ax_vret, am_st, am_kl, List.getElem?_cons_zero, List.getElem?_cons_succ, List.set_cons_zero, List.set_cons_succ, Value.category, true_and, and_true, if_true, if_false, reduceCtorEq, Bool.false_eq_true, false_implies, forall_const, Option.some.injEq, exists_eq_left', exists_eq_left, Sum.inl.injEq, Sum.inr.injEq, Prod.mk.injEq, nI_toInt, nI_clamp, am_ix_nI, am_ix_0, am_ix_1, am_ix_2, am_ix_3, am_n0, am_n1, am_n2, am_n3, am_n4, am_t0, am_t1, am_t2, am_t3, am_t4, am_tm1, am_nS, am_nP, am_nM, Int.ofNat_lt, Int.ofNat_le, Option.toList_some, Option.toList_none, List.cons_append, List.nil_append, List.append_nil, am_sh_wi, am_sh_wr, am_r_wi, am_i_wr, am_tp_wi, am_tp_wr, am_us_wi, am_us_wr, am_i_wi, am_r_wr, p3]
        have k6 := k5.sf (i := 3) (x := nI (xp_tbl ts (xp_om xp_adv (xp_W0 f)).2.2.2).1)
        refine am_callK [.ref pa] [] (d' := 27) (lim' := (am_tp σ5, am_us σ5)) rfl (by decide) (by rw [t5]; exact Nat.le_refl _) (by rw [u5]; exact Nat.le_refl _) rfl (by decide) (am_recv k6.1.2.1) ?_
        refine c_pwhere (W := xp_oT ts 3 (xp_om xp_adv (xp_W0 f))) k6 rfl (fun σ6 k7 fr6 t6 u6 => ?_)
        simp (disch := omega) only [Option.toList_some, Option.toList_none, List.cons_append, List.nil_append, List.append_nil]
        exact fin σ6 _ rfl k7 ((xp_fr.wi ((fr3.tr fr4).tr fr5)).tr fr6) (t6.trans t5) (u6.trans u5)
      · have q : ¬ xp_hd ts 0 = 2 := q
        rw [if_neg q] at fin
        simp (disch := omega) only [ax_const, ax_iload, ax_lload, ax_aload, ax_istore, ax_astore, ax_iinc, ax_i2, ax_i2n, ax_l2, ax_lsh, ax_ii, ax_il, ax_li, ax_pop, ax_dup, ax_dup2, ax_if, ax_cmp, ax_acmp, ax_goto, ax_getI, ax_getR, ax_putI, ax_putR, ax_gets, ax_getsT, ax_aldI, ax_aldR, ax_astI, ax_astR, ax_alen, ax_ret, ax_aret, ax_vret, am_st, am_kl, List.getElem?_cons_zero, List.getElem?_cons_succ, List.set_cons_zero, List.set_cons_succ, Value.category, true_and, and_true, if_true, if_false, reduceCtorEq, Bool.false_eq_true, false_implies, forall_const, Option.some.injEq, exists_eq_left', exists_eq_left, Sum.inl.injEq, Sum.inr.injEq, Prod.mk.injEq, nI_toInt, nI_clamp, am_ix_nI, am_ix_0, am_ix_1, am_ix_2, am_ix_3, am_n0, am_n1, am_n2, am_n3, am_n4, am_t0, am_t1, am_t2, am_t3, am_t4, am_tm1, am_nS, am_nP, am_nM, Int.ofNat_lt, Int.ofNat_le]
        refine ⟨?_, fun z => absurd trivial z⟩
        refine z_take hZ (by decide) (by decide) t3 u3 (by decide) (fun q σ4 k4 fr4 t4 u4 => ?_) (fun q => ?_)
        · have q : xp_hd ts 0 = 3 := q
          rw [if_pos q] at fin
          simp (disch := omega) only [ax_const, ax_iload, ax_lload, ax_aload, ax_istore, ax_astore, ax_iinc, ax_i2, ax_i2n, ax_l2, ax_lsh, ax_ii, ax_il, ax_li, ax_pop, ax_dup, ax_dup2, ax_if, ax_cmp, ax_acmp, ax_goto, ax_getI, ax_getR, ax_putI, ax_putR, ax_gets, ax_getsT, ax_aldI, ax_aldR, ax_astI, ax_astR, ax_alen, ax_ret, ax_aret, ax_vret, am_st, am_kl, List.getElem?_cons_zero, List.getElem?_cons_succ, List.set_cons_zero, List.set_cons_succ, Value.category, true_and, and_true, if_true, if_false, reduceCtorEq, Bool.false_eq_true, false_implies, forall_const, Option.some.injEq, exists_eq_left', exists_eq_left, Sum.inl.injEq, Sum.inr.injEq, Prod.mk.injEq, nI_toInt, nI_clamp, am_ix_nI, am_ix_0, am_ix_1, am_ix_2, am_ix_3, am_n0, am_n1, am_n2, am_n3, am_n4, am_t0, am_t1, am_t2, am_t3, am_t4, am_tm1, am_nS, am_nP, am_nM, Int.ofNat_lt, Int.ofNat_le, o1]
          intro _
          refine am_callK [.ref pa] [] (d' := 25) (lim' := (am_tp σ4, am_us σ4)) rfl (by decide) (by rw [t4]; exact Nat.le_refl _) (by rw [u4]; exact Nat.le_refl _) rfl (by decide) (am_recv k4.1.2.1) ?_
          refine c_pselected k4 (Nat.le_refl _) (fun _ _ => rfl) (fun σ5 k5 fr5 t5 u5 => ?_)
          have t5 := t5.trans t4
          have u5 := u5.trans u4
          simp (disch := omega) only [ax_const, ax_iload, ax_lload, ax_aload, ax_istore, ax_astore, ax_iinc, ax_i2, ax_i2n, ax_l2, ax_lsh, ax_ii, ax_il, ax_li, ax_pop, ax_dup, ax_dup2, ax_if, ax_cmp, ax_acmp, ax_goto, ax_getI, ax_getR, ax_putI, ax_putR, ax_gets, ax_getsT, ax_aldI, ax_aldR, ax_astI, ax_astR, ax_alen, ax_ret, ax_aret, ax_vret, am_st, am_kl, List.getElem?_cons_zero, List.getElem?_cons_succ, List.set_cons_zero, List.set_cons_succ, Value.category, true_and, and_true, if_true, if_false, reduceCtorEq, Bool.false_eq_true, false_implies, forall_const, Option.some.injEq, exists_eq_left', exists_eq_left, Sum.inl.injEq, Sum.inr.injEq, Prod.mk.injEq, nI_toInt, nI_clamp, am_ix_nI, am_ix_0, am_ix_1, am_ix_2, am_ix_3, am_n0, am_n1, am_n2, am_n3, am_n4, am_t0, am_t1, am_t2, am_t3, am_t4, am_tm1, am_nS, am_nP, am_nM, Int.ofNat_lt, Int.ofNat_le, Option.toList_some, Option.toList_none, List.cons_append, List.nil_append, List.append_nil]
          refine am_callK [.ref pa] [] (d' := 27) (lim' := (am_tp σ5, am_us σ5)) rfl (by decide) (by rw [t5]; exact Nat.le_refl _) (by rw [u5]; exact Nat.le_refl _) rfl (by decide) (am_recv k5.1.2.1) ?_
          refine c_pwhere k5 (xp_rS_ss (by decide)) (fun σ6 k6 fr6 t6 u6 => ?_)
          have t6 := t6.trans t5
          have u6 := u6.trans u5
          simp (disch := omega) only [ax_const, ax_iload, ax_lload, ax_aload, ax_istore, ax_astore, ax_iinc, ax_i2, ax_i2n, ax_l2, ax_lsh, ax_ii, ax_il, ax_li, ax_pop, ax_dup, ax_dup2, ax_if, ax_cmp, ax_acmp, ax_goto, ax_getI, ax_getR, ax_putI, ax_putR, ax_gets, ax_getsT, ax_aldI, ax_aldR, ax_astI, ax_astR, ax_alen, ax_ret, ax_aret, ax_vret, am_st, am_kl, List.getElem?_cons_zero, List.getElem?_cons_succ, List.set_cons_zero, List.set_cons_succ, Value.category, true_and, and_true, if_true, if_false, reduceCtorEq, Bool.false_eq_true, false_implies, forall_const, Option.some.injEq, exists_eq_left', exists_eq_left, Sum.inl.injEq, Sum.inr.injEq, Prod.mk.injEq, nI_toInt, nI_clamp, am_ix_nI, am_ix_0, am_ix_1, am_ix_2, am_ix_3, am_n0, am_n1, am_n2, am_n3, am_n4, am_t0, am_t1, am_t2, am_t3, am_t4, am_tm1, am_nS, am_nP, am_nM, Int.ofNat_lt, Int.ofNat_le, Option.toList_some, Option.toList_none, List.cons_append, List.nil_append, List.append_nil]
          refine am_callK [.ref pa] [] (d' := 25) (lim' := (am_tp σ6, am_us σ6)) rfl (by decide) (by rw [t6]; exact Nat.le_refl _) (by rw [u6]; exact Nat.le_refl _) rfl (by decide) (am_recv k6.1.2.1) ?_
          refine c_parrange k6 ((xp_oW_ss (by decide)).trans (xp_rS_ss (by decide))) ((xp_oW_ss (by decide)).trans (xp_rS_ss (by decide))) (fun σ7 k7 fr7 t7 u7 => ?_)
          simp (disch := omega) only [Option.toList_some, Option.toList_none, List.cons_append, List.nil_append, List.append_nil]
          exact fin σ7 _ rfl k7 ((((fr3.tr fr4).tr fr5).tr fr6).tr fr7) (t7.trans t6) (u7.trans u6)
        · have q : ¬ xp_hd ts 0 = 3 := q
          rw [if_neg q] at fin
          obtain ⟨p1, p2, p3, p4, p5, p6, p7, p8, p9, p10⟩ := hZ.fc
          simp (disch := omega) only [ax_const, ax_iload, ax_lload, ax_aload, ax_istore, ax_astore, ax_iinc, ax_i2, ax_i2n, ax_l2, ax_lsh, ax_ii, ax_il, ax_li, ax_pop, ax_dup, ax_dup2, ax_if, ax_cmp, ax_acmp, ax_goto, ax_getI, ax_getR, ax_putI, ax_putR, ax_gets, ax_getsT, ax_aldI, ax_aldR, ax_astI, ax_astR, ax_alen, ax_ret, ax_aret, ax_vret, am_st, am_kl, List.getElem?_cons_zero, List.getElem?_cons_succ, List.set_cons_zero, List.set_cons_succ, Value.category, true_and, and_true, if_true, if_false, reduceCtorEq, Bool.false_eq_true, false_implies, forall_const, Option.some.injEq, exists_eq_left', exists_eq_left, Sum.inl.injEq, Sum.inr.injEq, Prod.mk.injEq, nI_toInt, nI_clamp, am_ix_nI, am_ix_0, am_ix_1, am_ix_2, am_ix_3, am_n0, am_n1, am_n2, am_n3, am_n4, am_t0, am_t1, am_t2, am_t3, am_t4, am_tm1, am_nS, am_nP, am_nM, Int.ofNat_lt, Int.ofNat_le, am_sh_wi, am_sh_wr, am_r_wi, am_i_wr, am_tp_wi, am_tp_wr, am_us_wi, am_us_wr, am_i_wi, am_r_wr, p1]
          have kb := hZ.om (f := xp_bad) (hZ.1.bad) (am_fm.rf.wi rfl)
          refine ⟨⟨by simp, fin _ _ rfl kb (fr3.tr (xp_fr.pa (am_fm.rf.wi rfl))) t3 u3⟩, fun z => absurd trivial z⟩
