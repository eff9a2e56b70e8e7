/-! ===== Store: insert, delete, update ===== -/
theorem xr_pos_gt (k : Int32) (L : List xr_E) : ∀ n, n ≤ L.length → ∀ i f, xr_pos k L n ≤ i → i < n → L[i]? = some f → k.toInt < f.1.toInt
  | 0, _, i, f, _, h, _ => by omega
  | n + 1, hn, i, f, h1, h2, h3 => by
    have hl : n < L.length := by omega
    have e1 : L.getD n (0, 0, 0, 0) = L[n] := by rw [List.getD_eq_getElem?_getD, List.getElem?_eq_getElem hl]; rfl
    rw [xr_pos, e1] at h1
    by_cases q : k.toInt < (L[n]).1.toInt
    · rw [if_pos q] at h1
      by_cases e : i = n
      · subst e
        rw [List.getElem?_eq_getElem hl, Option.some.injEq] at h3
        rw [← h3]
        exact q
      · exact xr_pos_gt k L n (by omega) i f h1 (by omega) h3
    · rw [if_neg q] at h1
      omega
theorem xr_pos_lt (k : Int32) (L : List xr_E) : ∀ n, n ≤ L.length → xr_pos k L n = 0 ∨ ∃ j f, xr_pos k L n = j + 1 ∧ L[j]? = some f ∧ f.1.toInt ≤ k.toInt
  | 0, _ => Or.inl rfl
  | n + 1, hn => by
    have hl : n < L.length := by omega
    have e1 : L.getD n (0, 0, 0, 0) = L[n] := by rw [List.getD_eq_getElem?_getD, List.getElem?_eq_getElem hl]; rfl
    rw [xr_pos, e1]
    by_cases q : k.toInt < (L[n]).1.toInt
    · rw [if_pos q]
      exact xr_pos_lt k L n (by omega)
    · rw [if_neg q]
      exact Or.inr ⟨n, L[n], rfl, List.getElem?_eq_getElem hl, by omega⟩
theorem xo_ss.get {L : List xr_E} (h : xo_ss L) {i j : Nat} {a b : xr_E} (hi : L[i]? = some a) (hj : L[j]? = some b) (hij : i < j) : a.1.toInt < b.1.toInt := by
  obtain ⟨h1, rfl⟩ := List.getElem?_eq_some_iff.mp hi
  obtain ⟨h2, rfl⟩ := List.getElem?_eq_some_iff.mp hj
  exact List.pairwise_iff_getElem.mp h i j h1 h2 hij
theorem xr_add_ss {L : List xr_E} {e : xr_E} (h : xo_ss L) (hn : ∀ f, f ∈ L → f.1 ≠ e.1) : xo_ss (xr_add L e) := by
  have hlt : ∀ f, f ∈ L.take (xr_pos e.1 L L.length) → f.1.toInt < e.1.toInt := by
    intro f hf
    have hne : f.1.toInt ≠ e.1.toInt := fun q => hn f (List.mem_of_mem_take hf) (Int32.toInt_inj.mp q)
    obtain ⟨i, hi⟩ := List.mem_iff_getElem?.mp hf
    rw [List.getElem?_take] at hi
    split at hi
    · rename_i q
      rcases xr_pos_lt e.1 L L.length (Nat.le_refl _) with h0 | ⟨j, f', e1, e2, e3⟩
      · omega
      · by_cases q2 : i = j
        · rw [q2, e2, Option.some.injEq] at hi
          rw [← hi]
          rw [← hi] at hne
          omega
        · have := h.get hi e2 (by omega)
          omega
    · cases hi
  have hgt : ∀ f, f ∈ L.drop (xr_pos e.1 L L.length) → e.1.toInt < f.1.toInt := by
    intro f hf
    obtain ⟨i, hi⟩ := List.mem_iff_getElem?.mp hf
    rw [List.getElem?_drop] at hi
    exact xr_pos_gt e.1 L L.length (Nat.le_refl _) _ f (by omega) (List.getElem?_eq_some_iff.mp hi).1 hi
  unfold xr_add xr_put xo_ss
  refine List.pairwise_append.mpr ⟨h.sublist (List.take_sublist _ _), List.pairwise_cons.mpr ⟨hgt, h.sublist (List.drop_sublist _ _)⟩, fun a ha b hb => ?_⟩
  have h1 := hlt a ha
  rcases List.mem_cons.mp hb with rfl | hb
  · exact h1
  · have := hgt b hb
    omega
theorem xo_S.made {P : Nat → Prop} {σ σ' : am_S} {s lab n : Nat} {C U : Nat → List xr_E} {hh : Int32} (h : xo_S σ s lab C U hh n) (hf : am_fm P σ σ') (hd : ∀ b, s ≤ b → b < s + 44 → P b → b = s + 11) : xo_S σ' s lab C U hh n := by
  have hd' : ∀ b, s ≤ b → b < s + 44 → b ≠ s + 11 → ¬ P b := fun b x y z w => z (hd b x y w)
  obtain ⟨h1, h2, h3, h4, h5, ⟨p, L, h6⟩, h7⟩ := h
  unfold xo_S
  rw [(hf.2.2.2 s (hd' s (by omega) (by omega) (by omega))).1]
  refine ⟨h1.fm hf (hd' _ (by omega) (by omega) (by omega)) (hd' _ (by omega) (by omega) (by omega)) (hd' _ (by omega) (by omega) (by omega)), h2, h3, h4, h5, ⟨p, L, h6.fm hf (fun b x y => hd' b (by omega) (by omega) (by omega))⟩, fun t ht => ?_⟩
  obtain ⟨⟨p1, g1⟩, ⟨p2, g2⟩, g3, g4⟩ := h7 t ht
  exact ⟨⟨p1, g1.fm hf (fun b x y => hd' b (by omega) (by omega) (by omega))⟩, ⟨p2, g2.fm hf (fun b x y => hd' b (by omega) (by omega) (by omega))⟩, g3, g4⟩
/-- where a change writes -/
def xo_P (S s : Nat) (b : Nat) : Prop := (S + 1 ≤ b ∧ b < S + 31) ∨ (s ≤ b ∧ b < s + 44)
/-! insert -/
def xo_ins (L : List xr_E) (e : xr_E) : Int32 × List xr_E := if (L.find? (fun f => f.1 == e.1)).isSome then (-4, L) else if L.length = 6 then (-5, L) else (1, xr_add L e)
theorem xr_nofind {L : List xr_E} {k : Int32} (h : L.find? (fun f => f.1 == k) = none) : ∀ f, f ∈ L → f.1 ≠ k := by
  intro f hf e
  have := List.find?_eq_none.mp h f hf
  simp [e] at this
theorem xo_ins_loop {g : am_G} {l : Launch} {s lab n S f d tp us : Nat} {C U : Nat → List xr_E} {hh : Int32} {k : Nat → Nat} {ss : Nat → List (Nat × Int32)} {v : Nat → Int32} {Q : Option Value → am_S → Prop} {σ0 : am_S} (hd : 3 ≤ d) (hB : g.2.2.1.size ≤ S) (hsep : S + 31 ≤ s) (hf2 : f < 2) (hr : ∀ j, j < 3 → ∀ env, xk_run env (ss j) [] = some [v j])
    (hQ : ∀ σ' B L', xo_ins (U f) (v 0, v 1, v 2, nI lab) = (B, L') → xo_S σ' s lab C (fun j => if j = f then L' else U j) hh n → xs_S σ' S → xs_CS g σ' S k ss → am_fm (xo_P S s) σ0 σ' → Q (some (.int B)) σ') :
    ∀ (m t : Nat) (σ : am_S), m + t = 3 → xt_K g σ → xo_S σ s lab C U hh n → xs_S σ S → xs_CS g σ S k ss → (∀ j, j < t → am_i σ (s + 11) j = v j) → am_fm (xo_P S s) σ0 σ → am_tp σ = tp → am_us σ = us →
      am_W g l mX7_insert d (tp, us) Q 2 [some (.ref s), some (.ref S), some (.ref (s + 20 + 16 * f)), some (.int (nI t))] [] σ := by
  intro m
  induction m with
  | zero =>
    intro t σ hm hK H h hc hv hf h1 h2
    obtain ⟨x1, x2, x3, x4, x5, x6, x7, x8, x9⟩ := H.1
    obtain ⟨⟨p1, g1⟩, ⟨p2, g2⟩, g3, g4⟩ := H.2.2.2.2.2.2 f hf2
    have f1 : am_fm (fun b => b = s + 11) σ (am_wi σ (s + 11) 3 (nI lab)) := am_fm.rf.wi rfl
    have hv0 : am_i (am_wi σ (s + 11) 3 (nI lab)) (s + 11) 0 = v 0 := by rw [am_i_wi, if_neg (by omega)]; exact hv 0 (by omega)
    have hv1 : am_i (am_wi σ (s + 11) 3 (nI lab)) (s + 11) 1 = v 1 := by rw [am_i_wi, if_neg (by omega)]; exact hv 1 (by omega)
    have hv2 : am_i (am_wi σ (s + 11) 3 (nI lab)) (s + 11) 2 = v 2 := by rw [am_i_wi, if_neg (by omega)]; exact hv 2 (by omega)
    have hv3 : am_i (am_wi σ (s + 11) 3 (nI lab)) (s + 11) 3 = nI lab := by rw [am_i_wi, if_pos ⟨rfl, rfl⟩]
    refine kX7_insert_2 ?_
    simp (disch := omega) only [ax_const, ax_iload, ax_lload, ax_aload, ax_istore, ax_astore, ax_iinc, ax_i2, ax_i2n, ax_l2, ax_lsh, ax_ii, ax_il, ax_li, ax_pop, ax_dup, ax_dup2, ax_if, ax_cmp, ax_acmp, ax_goto, ax_getI, ax_getR, ax_putI, ax_putR, ax_gets, ax_getsT, ax_aldI, ax_aldR, ax_astI, ax_astR, ax_alen, ax_ret, ax_aret, ax_vret, am_st, am_kl, List.getElem?_cons_zero, List.getElem?_cons_succ, List.set_cons_zero, List.set_cons_succ, Value.category, true_and, and_true, if_true, if_false, reduceCtorEq, Bool.false_eq_true, false_implies, forall_const, Option.some.injEq, exists_eq_left', exists_eq_left, Sum.inl.injEq, Sum.inr.injEq, Prod.mk.injEq, nI_toInt, nI_clamp, am_ix_nI, am_ix_0, am_ix_1, am_ix_2, am_ix_3, am_n0, am_n1, am_n2, am_n3, am_n4, am_t0, am_t1, am_t2, am_t3, am_t4, am_tm1, am_nS, am_nP, am_nM, Int.ofNat_lt, Int.ofNat_le, am_sh_wi, am_sh_wr, am_r_wi, am_i_wr, am_tp_wi, am_tp_wr, am_us_wi, am_us_wr, am_i_wi, am_r_wr, x1, x5, x8, H.2.1, hv 0 (show 0 < t by omega)]
    refine ⟨fun _ => ⟨by omega, by omega, ?_⟩, fun h => by omega⟩
    refine am_callK [.ref (s + 20 + 16 * f), .int (v 0)] [] (d' := 0) (lim' := (am_tp σ, am_us σ)) rfl (by omega) (by rw [h1]; exact Nat.le_refl _) (by rw [h2]; exact Nat.le_refl _) rfl (by decide) (am_recv (σ := am_wi σ (s + 11) 3 (nI lab)) g2.1) ?_
    have g2' := g2.fm f1 (fun b x y => by omega)
    have H' := H.made f1 (fun b _ _ z => z)
    refine c_find g2' (fun _ _ => ?_)
    have hlen := g2.2.2.2.1
    have fP : am_fm (xo_P S s) σ0 (am_wi σ (s + 11) 3 (nI lab)) := hf.tr (f1.mono (fun b x => Or.inr ⟨by omega, by omega⟩))
    have h' := h.fm f1 (by omega) (by omega) (by omega)
    have hc' := hc.fm f1 (fun b x y z => by omega)
    simp (disch := omega) only [ax_const, ax_iload, ax_lload, ax_aload, ax_istore, ax_astore, ax_iinc, ax_i2, ax_i2n, ax_l2, ax_lsh, ax_ii, ax_il, ax_li, ax_pop, ax_dup, ax_dup2, ax_if, ax_cmp, ax_acmp, ax_goto, ax_getI, ax_getR, ax_putI, ax_putR, ax_gets, ax_getsT, ax_aldI, ax_aldR, ax_astI, ax_astR, ax_alen, ax_ret, ax_aret, ax_vret, am_st, am_kl, List.getElem?_cons_zero, List.getElem?_cons_succ, List.set_cons_zero, List.set_cons_succ, Value.category, true_and, and_true, if_true, if_false, reduceCtorEq, Bool.false_eq_true, false_implies, forall_const, Option.some.injEq, exists_eq_left', exists_eq_left, Sum.inl.injEq, Sum.inr.injEq, Prod.mk.injEq, nI_toInt, nI_clamp, am_ix_nI, am_ix_0, am_ix_1, am_ix_2, am_ix_3, am_n0, am_n1, am_n2, am_n3, am_n4, am_t0, am_t1, am_t2, am_t3, am_t4, am_tm1, am_nS, am_nP, am_nM, Int.ofNat_lt, Int.ofNat_le, Option.toList_some, Option.toList_none, List.cons_append, List.nil_append, List.append_nil, am_sh_wi, am_sh_wr, am_r_wi, am_i_wr, am_tp_wi, am_tp_wr, am_us_wi, am_us_wr, am_i_wi, am_r_wr, x1, x5, x8]
    unfold xo_ins at hQ
    rcases xr_find_spec (v 0) (U f) 0 (by omega) with ⟨e1, e2⟩ | ⟨j, f', e0, e1, e2⟩
    · rw [e2]
      rw [e1] at hQ
      refine ⟨fun _ => ?_, fun z => absurd rfl z⟩
      refine am_callK [.ref (s + 20 + 16 * f), .ref (s + 11)] [] (d' := 1) (lim' := (am_tp σ, am_us σ)) rfl (by omega) (by rw [h1]; exact Nat.le_refl _) (by rw [h2]; exact Nat.le_refl _) rfl (by decide) (am_recv (σ := am_wi σ (s + 11) 3 (nI lab)) g2.1) ?_
      refine c_add (e := (v 0, v 1, v 2, nI lab)) g2' (by omega) x8 ⟨hv0, hv1, hv2, hv3⟩ (fun e6 _ _ => ?_) (fun e6 σ' q hR hf' h1' h2' => ?_)
      · simp (disch := omega) only [ax_const, ax_iload, ax_lload, ax_aload, ax_istore, ax_astore, ax_iinc, ax_i2, ax_i2n, ax_l2, ax_lsh, ax_ii, ax_il, ax_li, ax_pop, ax_dup, ax_dup2, ax_if, ax_cmp, ax_acmp, ax_goto, ax_getI, ax_getR, ax_putI, ax_putR, ax_gets, ax_getsT, ax_aldI, ax_aldR, ax_astI, ax_astR, ax_alen, ax_ret, ax_aret, ax_vret, am_st, am_kl, List.getElem?_cons_zero, List.getElem?_cons_succ, List.set_cons_zero, List.set_cons_succ, Value.category, true_and, and_true, if_true, if_false, reduceCtorEq, Bool.false_eq_true, false_implies, forall_const, Option.some.injEq, exists_eq_left', exists_eq_left, Sum.inl.injEq, Sum.inr.injEq, Prod.mk.injEq, nI_toInt, nI_clamp, am_ix_nI, am_ix_0, am_ix_1, am_ix_2, am_ix_3, am_n0, am_n1, am_n2, am_n3, am_n4, am_t0, am_t1, am_t2, am_t3, am_t4, am_tm1, am_nS, am_nP, am_nM, Int.ofNat_lt, Int.ofNat_le, Option.toList_some, Option.toList_none, List.cons_append, List.nil_append, List.append_nil, am_sh_wi, am_sh_wr, am_r_wi, am_i_wr, am_tp_wi, am_tp_wr, am_us_wi, am_us_wr, am_i_wi, am_r_wr]
        rw [if_neg (by simp), if_pos e6] at hQ
        exact ⟨⟨h1, h2, hQ _ _ _ rfl (H'.ext (fun _ _ => rfl) (fun j hj => by split <;> simp_all)) h' hc' fP⟩, fun z => absurd trivial z⟩
      · simp (disch := omega) only [ax_const, ax_iload, ax_lload, ax_aload, ax_istore, ax_astore, ax_iinc, ax_i2, ax_i2n, ax_l2, ax_lsh, ax_ii, ax_il, ax_li, ax_pop, ax_dup, ax_dup2, ax_if, ax_cmp, ax_acmp, ax_goto, ax_getI, ax_getR, ax_putI, ax_putR, ax_gets, ax_getsT, ax_aldI, ax_aldR, ax_astI, ax_astR, ax_alen, ax_ret, ax_aret, ax_vret, am_st, am_kl, List.getElem?_cons_zero, List.getElem?_cons_succ, List.set_cons_zero, List.set_cons_succ, Value.category, true_and, and_true, if_true, if_false, reduceCtorEq, Bool.false_eq_true, false_implies, forall_const, Option.some.injEq, exists_eq_left', exists_eq_left, Sum.inl.injEq, Sum.inr.injEq, Prod.mk.injEq, nI_toInt, nI_clamp, am_ix_nI, am_ix_0, am_ix_1, am_ix_2, am_ix_3, am_n0, am_n1, am_n2, am_n3, am_n4, am_t0, am_t1, am_t2, am_t3, am_t4, am_tm1, am_nS, am_nP, am_nM, Int.ofNat_lt, Int.ofNat_le, Option.toList_some, Option.toList_none, List.cons_append, List.nil_append, List.append_nil, am_sh_wi, am_sh_wr, am_r_wi, am_i_wr, am_tp_wi, am_tp_wr, am_us_wi, am_us_wr, am_i_wi, am_r_wr]
        rw [if_neg (by simp), if_neg (by omega)] at hQ
        refine ⟨(fun z => absurd z (by decide)), fun _ => ⟨h1'.trans h1, h2'.trans h2, hQ _ _ _ rfl (H'.setU hf2 ⟨q, hR⟩ (xr_add_ss g4 (xr_nofind e1)) hf') (h'.fm hf' (by omega) (by omega) (by omega)) (hc'.fm hf' (fun b x y z => by omega)) (fP.tr (hf'.mono (fun b x => Or.inr ⟨by omega, by omega⟩)))⟩⟩
    · rw [e2]
      rw [e1, if_pos (by simp)] at hQ
      have := (List.getElem?_eq_some_iff.mp e0).1
      exact ⟨fun z => absurd z (nI_m1 (by omega)), fun _ => ⟨h1, h2, hQ _ _ _ rfl (H'.ext (fun _ _ => rfl) (fun j hj => by split <;> simp_all)) h' hc' fP⟩⟩
  | succ m ih =>
    intro t σ hm hK H h hc hv hf h1 h2
    obtain ⟨x1, x2, x3, x4, x5, x6, x7, x8, x9⟩ := H.1
    have h0 := h
    obtain ⟨a1, a2, a3, a4, a5, a6, a7, a8, a9, a10, a11, a12⟩ := h
    have b9 := a9 t (by omega)
    have hca : xs_ca S t = S + 19 + 4 * t := by have := xs_ca_in S t (by omega); omega
    have hct := hc t (by omega)
    rw [hca] at hct
    refine kX7_insert_2 ?_
    simp (disch := omega) only [ax_const, ax_iload, ax_lload, ax_aload, ax_istore, ax_astore, ax_iinc, ax_i2, ax_i2n, ax_l2, ax_lsh, ax_ii, ax_il, ax_li, ax_pop, ax_dup, ax_dup2, ax_if, ax_cmp, ax_acmp, ax_goto, ax_getI, ax_getR, ax_putI, ax_putR, ax_gets, ax_getsT, ax_aldI, ax_aldR, ax_astI, ax_astR, ax_alen, ax_ret, ax_aret, ax_vret, am_st, am_kl, List.getElem?_cons_zero, List.getElem?_cons_succ, List.set_cons_zero, List.set_cons_succ, Value.category, true_and, and_true, if_true, if_false, reduceCtorEq, Bool.false_eq_true, false_implies, forall_const, Option.some.injEq, exists_eq_left', exists_eq_left, Sum.inl.injEq, Sum.inr.injEq, Prod.mk.injEq, nI_toInt, nI_clamp, am_ix_nI, am_ix_0, am_ix_1, am_ix_2, am_ix_3, am_n0, am_n1, am_n2, am_n3, am_n4, am_t0, am_t1, am_t2, am_t3, am_t4, am_tm1, am_nS, am_nP, am_nM, Int.ofNat_lt, Int.ofNat_le, am_sh_wi, am_sh_wr, am_r_wi, am_i_wr, am_tp_wi, am_tp_wr, am_us_wi, am_us_wr, am_i_wi, am_r_wr, x1, x5, x8, a1, a2, a8, b9]
    refine ⟨fun h => by omega, fun _ => ⟨by omega, ?_⟩⟩
    refine am_callK [.ref S, .ref (S + 19 + 4 * t)] [.int (nI t), .ref (s + 11)] (d' := 2) (lim' := (am_tp σ, am_us σ)) rfl (by omega) (by rw [h1]; exact Nat.le_refl _) (by rw [h2]; exact Nat.le_refl _) rfl (Nat.le_of_ble_eq_true rfl) (am_recv a1) ?_
    refine c_swork hK h0 (by omega) hct (hr t (by omega) _) (fun σ' hf' h1' h2' => ?_)
    have x8' : am_sh σ' (s + 11) = some (.inr (0, 4)) := by rw [hf'.1]; exact x8
    simp (disch := omega) only [ax_const, ax_iload, ax_lload, ax_aload, ax_istore, ax_astore, ax_iinc, ax_i2, ax_i2n, ax_l2, ax_lsh, ax_ii, ax_il, ax_li, ax_pop, ax_dup, ax_dup2, ax_if, ax_cmp, ax_acmp, ax_goto, ax_getI, ax_getR, ax_putI, ax_putR, ax_gets, ax_getsT, ax_aldI, ax_aldR, ax_astI, ax_astR, ax_alen, ax_ret, ax_aret, ax_vret, am_st, am_kl, List.getElem?_cons_zero, List.getElem?_cons_succ, List.set_cons_zero, List.set_cons_succ, Value.category, true_and, and_true, if_true, if_false, reduceCtorEq, Bool.false_eq_true, false_implies, forall_const, Option.some.injEq, exists_eq_left', exists_eq_left, Sum.inl.injEq, Sum.inr.injEq, Prod.mk.injEq, nI_toInt, nI_clamp, am_ix_nI, am_ix_0, am_ix_1, am_ix_2, am_ix_3, am_n0, am_n1, am_n2, am_n3, am_n4, am_t0, am_t1, am_t2, am_t3, am_t4, am_tm1, am_nS, am_nP, am_nM, Int.ofNat_lt, Int.ofNat_le, Option.toList_some, Option.toList_none, List.cons_append, List.nil_append, List.append_nil, am_sh_wi, am_sh_wr, am_r_wi, am_i_wr, am_tp_wi, am_tp_wr, am_us_wi, am_us_wr, am_i_wi, am_r_wr, x8']
    have f2 : am_fm (fun b => b = S + 19 + 4 * t + 3 ∨ b = s + 11) σ (am_wi σ' (s + 11) t (v t)) := (hf'.mono (fun b x => Or.inl x)).wi (Or.inr rfl)
    refine ⟨by omega, ?_⟩
    refine ih (t + 1) _ (by omega) (hK.fm f2 (fun a x => by omega)) (H.made f2 (fun b x y z => by omega)) (h0.fm f2 (by omega) (by omega) (by omega)) (hc.fm f2 (fun b x y z => by omega)) (fun j hj => ?_) (hf.tr (f2.mono (fun b x => by unfold xo_P; omega))) (h1'.trans h1) (h2'.trans h2)
    rw [am_i_wi]
    by_cases e : j = t
    · rw [if_pos ⟨rfl, e⟩, e]
    · rw [if_neg (fun z => e z.2), (hf'.2.2.2 (s + 11) (by omega)).1]
      exact hv j (by omega)
theorem c_oinsert {g : am_G} {l : Launch} {σ : am_S} {s lab n S f : Nat} {C U : Nat → List xr_E} {hh : Int32} {k : Nat → Nat} {ss : Nat → List (Nat × Int32)} {v : Nat → Int32} {Q : Option Value → am_S → Prop} (hK : xt_K g σ) (H : xo_S σ s lab C U hh n) (h : xs_S σ S) (hc : xs_CS g σ S k ss) (hB : g.2.2.1.size ≤ S) (hsep : S + 31 ≤ s) (hf2 : f < 2) (hr : ∀ j, j < 3 → ∀ env, xk_run env (ss j) [] = some [v j])
    (hQ : ∀ σ' B L', xo_ins (U f) (v 0, v 1, v 2, nI lab) = (B, L') → xo_S σ' s lab C (fun j => if j = f then L' else U j) hh n → xs_S σ' S → xs_CS g σ' S k ss → am_fm (xo_P S s) σ σ' → Q (some (.int B)) σ') : am_C g l mX7_insert 3 (am_tp σ, am_us σ) [.ref s, .ref S, .ref (s + 20 + 16 * f)] σ Q := by
  refine am_C.go [some (.ref s), some (.ref S), some (.ref (s + 20 + 16 * f)), none] (by decide +kernel) (Nat.le_of_ble_eq_true rfl) rfl (kX7_insert_0 ?_)
  simp (disch := omega) only [ax_const, ax_iload, ax_lload, ax_aload, ax_istore, ax_astore, ax_iinc, ax_i2, ax_i2n, ax_l2, ax_lsh, ax_ii, ax_il, ax_li, ax_pop, ax_dup, ax_dup2, ax_if, ax_cmp, ax_acmp, ax_goto, ax_getI, ax_getR, ax_putI, ax_putR, ax_gets, ax_getsT, ax_aldI, ax_aldR, ax_astI, ax_astR, ax_alen, ax_ret, ax_aret, ax_vret, am_st, am_kl, List.getElem?_cons_zero, List.getElem?_cons_succ, List.set_cons_zero, List.set_cons_succ, Value.category, true_and, and_true, if_true, if_false, reduceCtorEq, Bool.false_eq_true, false_implies, forall_const, Option.some.injEq, exists_eq_left', exists_eq_left, Sum.inl.injEq, Sum.inr.injEq, Prod.mk.injEq, nI_toInt, nI_clamp, am_ix_nI, am_ix_0, am_ix_1, am_ix_2, am_ix_3, am_n0, am_n1, am_n2, am_n3, am_n4, am_t0, am_t1, am_t2, am_t3, am_t4, am_tm1, am_nS, am_nP, am_nM, Int.ofNat_lt, Int.ofNat_le]
  exact xo_ins_loop (Nat.le_refl _) hB hsep hf2 hr hQ 3 0 σ rfl hK H h hc (fun j hj => by omega) .rf rfl rfl
