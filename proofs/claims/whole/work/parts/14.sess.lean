/-! ===== Session ===== -/
/-- session e of store st: draft dr, rr results of rc values rv -/
def xe_S (σ : am_S) (e st : Nat) (dr : List Nat) (rr rc : Nat) (rv : Nat → Nat → Int32) : Prop :=
  am_sh σ e = some (.inl 5) ∧ am_r σ e 0 = some st ∧ am_r σ e 1 = some (e + 1) ∧ am_r σ e 3 = some (e + 2) ∧ am_sh σ (e + 1) = some (.inr (1, 80)) ∧ am_sh σ (e + 2) = some (.inr (3, 40)) ∧ (∀ i, i < 40 → am_r σ (e + 2) i = some (e + 3 + i) ∧ am_sh σ (e + 3 + i) = some (.inr (0, 3))) ∧
  am_i σ e 2 = nI dr.length ∧ dr.length ≤ 80 ∧ (∀ i c, dr[i]? = some c → am_i σ (e + 1) i = nI c) ∧ am_i σ e 4 = nI rr ∧ am_i σ e 5 = nI rc ∧ rr ≤ 40 ∧ rc ≤ 3 ∧ ∀ r c, r < rr → c < rc → am_i σ (e + 3 + r) c = rv r c
theorem xe_S.fm {P : Nat → Prop} {σ σ' : am_S} {e st : Nat} {dr : List Nat} {rr rc : Nat} {rv : Nat → Nat → Int32} (h : xe_S σ e st dr rr rc rv) (hf : am_fm P σ σ') (hd : ∀ b, e ≤ b → b < e + 43 → ¬ P b) : xe_S σ' e st dr rr rc rv := by
  obtain ⟨h1, h2, h3, h4, h5, h6, h7, h8, h9, h10, h11, h12, h13, h14, h15⟩ := h
  unfold xe_S
  rw [hf.1, (hf.2.2.2 e (hd e (by omega) (by omega))).1, (hf.2.2.2 e (hd e (by omega) (by omega))).2, (hf.2.2.2 (e + 1) (hd _ (by omega) (by omega))).1, (hf.2.2.2 (e + 2) (hd _ (by omega) (by omega))).2]
  refine ⟨h1, h2, h3, h4, h5, h6, h7, h8, h9, h10, h11, h12, h13, h14, fun r c hr hc => ?_⟩
  rw [(hf.2.2.2 (e + 3 + r) (hd _ (by omega) (by omega))).1]
  exact h15 r c hr hc
theorem c_eclear {g : am_G} {l : Launch} {σ : am_S} {e st : Nat} {dr : List Nat} {rr rc : Nat} {rv : Nat → Nat → Int32} {Q : Option Value → am_S → Prop} (h : xe_S σ e st dr rr rc rv) (hQ : ∀ σ', xe_S σ' e st [] 0 rc rv → am_fm (fun b => e ≤ b ∧ b < e + 43) σ σ' → Q none σ') : am_C g l mX5_clear 0 (am_tp σ, am_us σ) [.ref e] σ Q := by
  obtain ⟨h1, h2, h3, h4, h5, h6, h7, h8, h9, h10, h11, h12, h13, h14, h15⟩ := h
  refine am_C.go [some (.ref e)] (by decide +kernel) (Nat.le_of_ble_eq_true rfl) rfl (kX5_clear_0 ?_)
  simp (disch := omega) only [ax_const, ax_iload, ax_lload, ax_aload, ax_istore, ax_astore, ax_iinc, ax_i2, ax_i2n, ax_l2, ax_lsh, ax_ii, ax_il, ax_li, ax_pop, ax_dup, ax_dup2, ax_if, ax_cmp, ax_acmp, ax_goto, ax_getI, ax_getR, ax_putI, ax_putR, ax_gets, ax_getsT, ax_aldI, ax_aldR, ax_astI, ax_astR, ax_alen, ax_ret, ax_aret, ax_vret, am_st, am_kl, List.getElem?_cons_zero, List.getElem?_cons_succ, List.set_cons_zero, List.set_cons_succ, Value.category, true_and, and_true, if_true, if_false, reduceCtorEq, Bool.false_eq_true, false_implies, forall_const, Option.some.injEq, exists_eq_left', exists_eq_left, Sum.inl.injEq, Sum.inr.injEq, Prod.mk.injEq, nI_toInt, nI_clamp, am_ix_nI, am_ix_0, am_ix_1, am_ix_2, am_ix_3, am_n0, am_n1, am_n2, am_n3, am_n4, am_t0, am_t1, am_t2, am_t3, am_t4, am_tm1, am_nS, am_nP, am_nM, Int.ofNat_lt, Int.ofNat_le, am_sh_wi, am_sh_wr, am_r_wi, am_i_wr, am_tp_wi, am_tp_wr, am_us_wi, am_us_wr, am_i_wi, am_r_wr, h1]
  refine hQ _ ⟨h1, h2, h3, h4, h5, h6, h7, ?_, by decide, fun i c hi => by simp at hi, ?_, ?_, by decide, h14, fun r c hr => by omega⟩ ((am_fm.rf.wi ⟨by omega, by omega⟩).wi ⟨by omega, by omega⟩)
  · simp [am_i_wi]; rfl
  · simp [am_i_wi]; rfl
  · rw [am_i_wi, if_neg (by omega), am_i_wi, if_neg (by omega)]; exact h12
theorem c_eresultAt {g : am_G} {l : Launch} {σ : am_S} {e st : Nat} {dr : List Nat} {rr rc : Nat} {rv : Nat → Nat → Int32} {x y : Int32} {Q : Option Value → am_S → Prop} (h : xe_S σ e st dr rr rc rv)
    (hQ : Q (some (.int (if 0 ≤ x.toInt ∧ x.toInt < rr ∧ 0 ≤ y.toInt ∧ y.toInt < rc then rv x.toNatClampNeg y.toNatClampNeg else 0))) σ) : am_C g l mX5_resultAt 0 (am_tp σ, am_us σ) [.ref e, .int x, .int y] σ Q := by
  obtain ⟨h1, h2, h3, h4, h5, h6, h7, h8, h9, h10, h11, h12, h13, h14, h15⟩ := h
  refine am_C.go [some (.ref e), some (.int x), some (.int y)] (by decide +kernel) (Nat.le_of_ble_eq_true rfl) rfl (kX5_resultAt_0 ?_)
  simp (disch := omega) only [ax_const, ax_iload, ax_lload, ax_aload, ax_istore, ax_astore, ax_iinc, ax_i2, ax_i2n, ax_l2, ax_lsh, ax_ii, ax_il, ax_li, ax_pop, ax_dup, ax_dup2, ax_if, ax_cmp, ax_acmp, ax_goto, ax_getI, ax_getR, ax_putI, ax_putR, ax_gets, ax_getsT, ax_aldI, ax_aldR, ax_astI, ax_astR, ax_alen, ax_ret, ax_aret, ax_vret, am_st, am_kl, List.getElem?_cons_zero, List.getElem?_cons_succ, List.set_cons_zero, List.set_cons_succ, Value.category, true_and, and_true, if_true, if_false, reduceCtorEq, Bool.false_eq_true, false_implies, forall_const, Option.some.injEq, exists_eq_left', exists_eq_left, Sum.inl.injEq, Sum.inr.injEq, Prod.mk.injEq, nI_toInt, nI_clamp, am_ix_nI, am_ix_0, am_ix_1, am_ix_2, am_ix_3, am_n0, am_n1, am_n2, am_n3, am_n4, am_t0, am_t1, am_t2, am_t3, am_t4, am_tm1, am_nS, am_nP, am_nM, Int.ofNat_lt, Int.ofNat_le, h1, h4, h6, h11, h12]
  refine ⟨fun a => ?_, fun a => ⟨fun b => ⟨fun c => ?_, fun c => ⟨fun d => ?_, fun d => ?_⟩⟩, fun b => ?_⟩⟩
  · rwa [if_neg (by omega)] at hQ
  · rwa [if_neg (by omega)] at hQ
  · rw [if_pos (by omega)] at hQ
    have ex : x.toNatClampNeg = x.toInt.toNat := rfl
    have ey : y.toNatClampNeg = y.toInt.toNat := rfl
    obtain ⟨g1, g2⟩ := h7 x.toNatClampNeg (by omega)
    have g3 := h15 x.toNatClampNeg y.toNatClampNeg (by omega) (by omega)
    refine ⟨⟨by omega, by omega⟩, _, g1, 3, g2, ⟨by omega, by omega⟩, ?_⟩
    rw [g3]
    exact hQ
  · rwa [if_neg (by omega)] at hQ
  · rwa [if_neg (by omega)] at hQ
/-! append -/
/-- byte n of w (from the lowest on) -/
def xe_b (w : Int64) (n : Nat) : Nat := (((w.toUInt64 >>> ((nI (8 * n)).toInt64.toUInt64 &&& Int64.toUInt64 63)).toInt64).toInt32).toBitVec.toNat % 2 ^ 8
theorem xe_blt (w : Int64) (n : Nat) : xe_b w n < 256 := Nat.mod_lt _ (Nat.two_pow_pos 8)
theorem xe_b_eq (w : Int64) (n : Nat) : ((w.toUInt64 >>> ((nI (8 * n)).toInt64.toUInt64 &&& Int64.toUInt64 63)).toInt64).toInt32 &&& 255 = nI (xe_b w n) := pk_and _ 8 (by decide)
def xe_go (b : Nat → Nat) : Nat → List Nat → Option (List Nat)
  | 0, dr => some dr
  | n + 1, dr => if b n = 0 then xe_go b n dr else if b n < 32 ∨ 126 < b n ∨ dr.length = 80 then none else xe_go b n (dr ++ [b n])
/-- the draft's length is set -/
theorem xe_S.len {σ : am_S} {e st : Nat} {dr dx : List Nat} {rr rc : Nat} {rv : Nat → Nat → Int32} (h : xe_S σ e st dr rr rc rv) (hl : dx.length ≤ 80) (hc : ∀ i c, dx[i]? = some c → am_i σ (e + 1) i = nI c) : xe_S (am_wi σ e 2 (nI dx.length)) e st dx rr rc rv := by
  obtain ⟨h1, h2, h3, h4, h5, h6, h7, h8, h9, h10, h11, h12, h13, h14, h15⟩ := h
  refine ⟨h1, h2, h3, h4, h5, h6, h7, by rw [am_i_wi, if_pos ⟨rfl, rfl⟩], hl, fun i c hi => ?_, ?_, ?_, h13, h14, fun r c hr hc => ?_⟩
  · rw [am_i_wi, if_neg (by omega)]; exact hc i c hi
  · rw [am_i_wi, if_neg (by omega)]; exact h11
  · rw [am_i_wi, if_neg (by omega)]; exact h12
  · rw [am_i_wi, if_neg (by omega)]; exact h15 r c hr hc
theorem xe_char {n : Nat} (h : n < 256) : vp_nar .char (((nI n).toUInt32 % 65536).toInt32) = nI n := by
  rw [pk_vc, pk_char, pk_tn (by omega), Nat.mod_eq_of_lt (by omega)]
theorem xe_e0 (n : Nat) : nI (8 * (n + 1)) + (-8) = nI (8 * n) := by
  rw [show (-8 : Int32) = -(nI 8) from rfl, ← Int32.sub_eq_add_neg, pk_sub (by omega)]
  congr 1
theorem xe_app_loop {g : am_G} {l : Launch} {G : Option (List Nat)} {e st d tp us : Nat} {dr : List Nat} {rr rc : Nat} {rv : Nat → Nat → Int32} {w : Int64} {Q : Option Value → am_S → Prop} {σ0 : am_S}
    (hQ : ∀ σ' B dx, (G = none ∧ B = (0 : Int32) ∧ dx = dr ∨ G = some dx ∧ B = 1) → xe_S σ' e st dx rr rc rv → am_fm (fun b => e ≤ b ∧ b < e + 2) σ0 σ' → Q (some (.int B)) σ') :
    ∀ (n : Nat) (σ : am_S) (dx : List Nat) (z : Option Value), xe_S σ e st dr rr rc rv → n ≤ 8 → G = xe_go (xe_b w) n dx → dx.length ≤ 80 → (∃ t, dx = dr ++ t) → (∀ i c, dx[i]? = some c → am_i σ (e + 1) i = nI c) → am_fm (fun b => e ≤ b ∧ b < e + 2) σ0 σ → am_tp σ = tp → am_us σ = us →
      am_W g l mX5_append d (tp, us) Q 9 [some (.ref e), some (.long w), none, some (.int (nI dx.length)), some (.int (nI (8 * n) + (-8))), z] [] σ := by
  intro n
  induction n with
  | zero =>
    intro σ dx z h hn he hl hp hc hf h1 h2
    refine kX5_append_9 ?_
    have e0 : nI (8 * 0) + (-8) = -8 := by rw [Nat.mul_zero, show nI 0 = 0 from rfl, Int32.zero_add]
    have e1 : Int32.toInt (-8) = -8 := rfl
    rw [e0]
    simp (disch := omega) only [ax_const, ax_iload, ax_lload, ax_aload, ax_istore, ax_astore, ax_iinc, ax_i2, ax_i2n, ax_l2, ax_lsh, ax_ii, ax_il, ax_li, ax_pop, ax_dup, ax_dup2, ax_if, ax_cmp, ax_acmp, ax_goto, ax_getI, ax_getR, ax_putI, ax_putR, ax_gets, ax_getsT, ax_aldI, ax_aldR, ax_astI, ax_astR, ax_alen, ax_ret, ax_aret, ax_vret, am_st, am_kl, List.getElem?_cons_zero, List.getElem?_cons_succ, List.set_cons_zero, List.set_cons_succ, Value.category, true_and, and_true, if_true, if_false, reduceCtorEq, Bool.false_eq_true, false_implies, forall_const, Option.some.injEq, exists_eq_left', exists_eq_left, Sum.inl.injEq, Sum.inr.injEq, Prod.mk.injEq, nI_toInt, nI_clamp, am_ix_nI, am_ix_0, am_ix_1, am_ix_2, am_ix_3, am_n0, am_n1, am_n2, am_n3, am_n4, am_t0, am_t1, am_t2, am_t3, am_t4, am_tm1, am_nS, am_nP, am_nM, Int.ofNat_lt, Int.ofNat_le, am_sh_wi, am_sh_wr, am_r_wi, am_i_wr, am_tp_wi, am_tp_wr, am_us_wi, am_us_wr, am_i_wi, am_r_wr, h.1, e1]
    exact ⟨fun _ => ⟨by simp, h1, h2, hQ _ 1 dx (Or.inr ⟨he, rfl⟩) (h.len hl hc) (hf.wi ⟨by omega, by omega⟩)⟩, fun x => by omega⟩
  | succ n ih =>
    intro σ dx z h hn he hl hp hc hf h1 h2
    rw [xe_e0]
    have hb0 : xe_b w n < 256 := xe_blt w n
    rw [xe_go] at he
    refine kX5_append_9 ?_
    simp (disch := omega) only [ax_iload, ax_lload, ax_if, ax_lsh, ax_li, ax_const, ax_i2, ax_istore, List.getElem?_cons_zero, List.getElem?_cons_succ, List.set_cons_zero, List.set_cons_succ, nI_toInt, true_and, if_true, Option.some.injEq, exists_eq_left', exists_eq_left]
    rw [xe_b_eq w n]
    have key0 : ∀ bn : Nat, bn = xe_b w n → bn < 256 := fun bn h => h ▸ hb0
    generalize hbn : xe_b w n = bn at he ⊢
    have hb : bn < 256 := key0 bn hbn.symm
    clear key0 hb0 hbn
    have t32 : Int32.toInt 32 = 32 := by decide
    have t126 : Int32.toInt 126 = 126 := by decide
    have z0 : nI (bn) = 0 ↔ bn = 0 := nI_inj (b := 0) (by omega) (by omega)
    have z80 : nI dx.length = 80 ↔ dx.length = 80 := nI_inj (b := 80) (by omega) (by omega)
    simp (disch := omega) only [ax_const, ax_iload, ax_lload, ax_aload, ax_istore, ax_astore, ax_iinc, ax_i2, ax_i2n, ax_l2, ax_lsh, ax_ii, ax_il, ax_li, ax_pop, ax_dup, ax_dup2, ax_if, ax_cmp, ax_acmp, ax_goto, ax_getI, ax_getR, ax_putI, ax_putR, ax_gets, ax_getsT, ax_aldI, ax_aldR, ax_astI, ax_astR, ax_alen, ax_ret, ax_aret, ax_vret, am_st, am_kl, List.getElem?_cons_zero, List.getElem?_cons_succ, List.set_cons_zero, List.set_cons_succ, Value.category, true_and, and_true, if_true, if_false, reduceCtorEq, Bool.false_eq_true, false_implies, forall_const, Option.some.injEq, exists_eq_left', exists_eq_left, Sum.inl.injEq, Sum.inr.injEq, Prod.mk.injEq, nI_toInt, nI_clamp, am_ix_nI, am_ix_0, am_ix_1, am_ix_2, am_ix_3, am_n0, am_n1, am_n2, am_n3, am_n4, am_t0, am_t1, am_t2, am_t3, am_t4, am_tm1, am_nS, am_nP, am_nM, Int.ofNat_lt, Int.ofNat_le, z0, z80, t32, t126, h.1, h.2.2.1, h.2.2.2.2.1, xe_char]
    refine ⟨fun x => by omega, fun _ => ⟨fun x => ?_, fun x => ⟨fun y => ?_, fun y => ⟨fun q => ?_, fun q => ⟨fun r => ?_, fun r => ?_⟩⟩⟩⟩⟩
    · rw [if_pos x] at he
      exact ih σ dx _ h (by omega) he hl hp hc hf h1 h2
    · rw [if_neg x, if_pos (Or.inl (by omega))] at he
      exact ⟨by simp, h1, h2, hQ σ 0 dr (Or.inl ⟨he, rfl, rfl⟩) h hf⟩
    · rw [if_neg x, if_pos (Or.inr (Or.inl (by omega)))] at he
      exact ⟨by simp, h1, h2, hQ σ 0 dr (Or.inl ⟨he, rfl, rfl⟩) h hf⟩
    · rw [if_neg x, if_pos (Or.inr (Or.inr r))] at he
      exact ⟨by simp, h1, h2, hQ σ 0 dr (Or.inl ⟨he, rfl, rfl⟩) h hf⟩
    · rw [if_neg x, if_neg (by omega)] at he
      have hl2 : (dx ++ [bn]).length = dx.length + 1 := by simp
      have hf1 : am_fm (fun b => b = e + 1) σ (am_wi σ (e + 1) dx.length (nI (bn))) := am_fm.rf.wi rfl
      refine ⟨by omega, ?_⟩
      obtain ⟨t, ht⟩ := hp
      have key : ∀ i c, (dx ++ [bn])[i]? = some c → am_i (am_wi σ (e + 1) dx.length (nI (bn))) (e + 1) i = nI c := by
        intro i c hi
        rw [am_i_wi]
        by_cases q9 : i = dx.length
        · subst q9
          rw [if_pos ⟨rfl, rfl⟩]
          simp at hi
          rw [hi]
        · rw [if_neg (fun z => q9 z.2)]
          have := (List.getElem?_eq_some_iff.mp hi).1
          rw [List.getElem?_append_left (by omega)] at hi
          exact hc i c hi
      have hS : xe_S (am_wi σ (e + 1) dx.length (nI (bn))) e st dr rr rc rv := by
        obtain ⟨g1, g2, g3, g4, g5, g6, g7, g8, g9, g10, g11, g12, g13, g14, g15⟩ := h
        refine ⟨g1, g2, g3, g4, g5, g6, g7, ?_, g9, fun i c hi => ?_, ?_, ?_, g13, g14, fun r c hr hc => ?_⟩
        · rw [am_i_wi, if_neg (by omega)]; exact g8
        · refine key i c ?_
          have := (List.getElem?_eq_some_iff.mp hi).1
          rw [ht, List.append_assoc, List.getElem?_append_left this]
          exact hi
        · rw [am_i_wi, if_neg (by omega)]; exact g11
        · rw [am_i_wi, if_neg (by omega)]; exact g12
        · rw [am_i_wi, if_neg (by omega)]; exact g15 r c hr hc
      have := ih _ (dx ++ [bn]) (some (.int (nI (bn)))) hS (by omega) he (by omega) ⟨t ++ [bn], by rw [ht, List.append_assoc]⟩ key (hf.tr (hf1.mono (fun b hb => by omega))) h1 h2
      rw [hl2] at this
      exact this
theorem c_eappend {g : am_G} {l : Launch} {σ : am_S} {e st : Nat} {dr : List Nat} {rr rc : Nat} {rv : Nat → Nat → Int32} {w : Int64} {Q : Option Value → am_S → Prop} (h : xe_S σ e st dr rr rc rv)
    (hQ : ∀ σ' B dx, (xe_go (xe_b w) 8 dr = none ∧ B = (0 : Int32) ∧ dx = dr ∨ xe_go (xe_b w) 8 dr = some dx ∧ B = 1) → xe_S σ' e st dx rr rc rv → am_fm (fun b => e ≤ b ∧ b < e + 2) σ σ' → Q (some (.int B)) σ') : am_C g l mX5_append 0 (am_tp σ, am_us σ) [.ref e, .long w] σ Q := by
  have h0 := h
  obtain ⟨h1, h2, h3, h4, h5, h6, h7, h8, h9, h10, h11, h12, h13, h14, h15⟩ := h
  refine am_C.go [some (.ref e), some (.long w), none, none, none, none] (by decide +kernel) (Nat.le_of_ble_eq_true rfl) rfl (kX5_append_0 ?_)
  simp (disch := omega) only [ax_const, ax_iload, ax_lload, ax_aload, ax_istore, ax_astore, ax_iinc, ax_i2, ax_i2n, ax_l2, ax_lsh, ax_ii, ax_il, ax_li, ax_pop, ax_dup, ax_dup2, ax_if, ax_cmp, ax_acmp, ax_goto, ax_getI, ax_getR, ax_putI, ax_putR, ax_gets, ax_getsT, ax_aldI, ax_aldR, ax_astI, ax_astR, ax_alen, ax_ret, ax_aret, ax_vret, am_st, am_kl, List.getElem?_cons_zero, List.getElem?_cons_succ, List.set_cons_zero, List.set_cons_succ, Value.category, true_and, and_true, if_true, if_false, reduceCtorEq, Bool.false_eq_true, false_implies, forall_const, Option.some.injEq, exists_eq_left', exists_eq_left, Sum.inl.injEq, Sum.inr.injEq, Prod.mk.injEq, nI_toInt, nI_clamp, am_ix_nI, am_ix_0, am_ix_1, am_ix_2, am_ix_3, am_n0, am_n1, am_n2, am_n3, am_n4, am_t0, am_t1, am_t2, am_t3, am_t4, am_tm1, am_nS, am_nP, am_nM, Int.ofNat_lt, Int.ofNat_le, h1, h8]
  have := xe_app_loop (g := g) (l := l) (d := 0) (σ0 := σ) (G := xe_go (xe_b w) 8 dr) hQ 8 σ dr none h0 (Nat.le_refl _) rfl h9 ⟨[], by simp⟩ h10 .rf rfl rfl
  have e := xe_e0 7
  have e56 : nI (8 * 7) = 56 := rfl
  have e88 : nI (8 * 8) + (-8) = 56 := e.trans e56
  rw [e88] at this
  exact this
