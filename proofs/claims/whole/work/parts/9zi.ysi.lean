theorem yse_49 {g : am_G} {l : Launch} {σ1 : am_S} {m i d : Nat} {D : xx_D} {W : xp_W} {S : ys_S} {V1 V2 : List xr_E} {z3 z4 z5 : Option Value} {Q : Option Value → am_S → Prop} (hd : 3 ≤ d) (hO : ym_O σ1 m D) (hi : i < 4) (hq : ym_q σ1 m) (hKn : yKn σ1 m S) (hQ3 : yQ3 W S) (hn : ykn S.2.2.2 false S.2.2.1 = false)
    (hV1 : V1 = xx_V D (D.1 i) (S.2.2.2 1)) (hV2 : V2 = if decide (S.2.2.2 0 = 2) = true then xx_V D (D.1 i) (if S.2.2.2 0 = 2 then S.2.2.2 2 else 0) else []) (hN1 : ym_N σ1 m 0 V1) (hN2 : S.2.2.2 0 = 2 → ym_N σ1 m 1 V2) (hn2 : am_i σ1 (m + 21) 1 = nI (xl_n2 (decide (S.2.2.2 0 = 2)) V2)) (hL1 : yLb V1) (hL2 : yLb V2)
    (hQ : ∀ a D' σ', ySel W D i a D' → ym_O σ' m D' → ym_q σ' m → yse m σ1 σ' → Q (some (.int a)) σ') :
    am_W g l mX10_select d (am_tp σ1, am_us σ1) Q 49 [some (.ref m), some (.int (nI i)), some (.int (nI (D.1 i))), z3, z4, z5] [] σ1 := by
  obtain ⟨k1, k2, k3, k4, k5⟩ := hKn
  obtain ⟨Wh, val, hSf, hWh, hTm, hTm3, hG4⟩ := hQ3.sel k4 hn
  obtain ⟨c1, hT1, c3, hT20, c5, h6, hw, hG, hOr⟩ := hQ3
  have hT0 : S.2.2.2 0 = 1 ∨ S.2.2.2 0 = 2 := by rcases c1 with ⟨x, _⟩ | ⟨x, _⟩ <;> omega
  have hSel : ∀ a D', ySl Wh val W.2.1 (S.2.2.2 4) (decide (S.2.2.2 0 = 2)) (decide (S.2.2.2 20 = 1)) (decide (W.1 2 ≠ 0)) V1 V2 D i a D' → ySel W D i a D' := fun a D' h => ⟨_, _, _, _, _, Wh, val, hSf, by rw [← hV1, ← hV2]; exact h⟩
  have hGR := fun FL => yg_GR (val := val) (V1 := V1) (V2 := V2) (FL := FL) h6 hG hOr
  have hRK := fun FL GO => ysQ_rk (val := val 5) (V1 := V1) (V2 := V2) (FL := FL) (GO := GO) hOr
  have hdn : S.2.2.2 22 = 1 → nI (S.2.2.2 23) = yb (decide (W.1 2 ≠ 0)) := by
    intro e
    rcases hOr with ⟨p, q⟩ | ⟨p, q, r, s⟩
    · omega
    · rw [s]
      have : S.2.2.2 23 = 0 ∨ S.2.2.2 23 = 1 := by omega
      rcases this with z | z <;> rw [z] <;> rfl
  have hT22 : S.2.2.2 22 ≤ 1 := by rcases hOr with ⟨p, q⟩ | ⟨p, q⟩ <;> omega
  have hT8 : S.2.2.2 22 = 1 → S.2.2.2 8 < 3 := fun e => by rcases hOr with ⟨p, q⟩ | ⟨p, ⟨x1, x2, x3, x4⟩, -⟩ <;> omega
  obtain ⟨t1, t2, t3, t4⟩ := h6
  have hT5 : ∀ c, c < S.2.2.2 4 → S.2.2.2 (5 + c) < 3 := fun c hc => by obtain ⟨x1, x2, x3, x4⟩ := t4 c hc; omega
  have hkc : ∀ c, c < S.2.2.2 4 → S.2.2.2 (5 + c) + 1 = W.2.1 c := fun c hc => (t4 c hc).2.2.1
  have hgb : S.2.2.2 21 = if decide (S.2.2.2 21 = 1) = true then 1 else 0 := by
    by_cases e : S.2.2.2 21 = 1
    · rw [decide_eq_true e, if_pos rfl, e]
    · rw [decide_eq_false e, if_neg Bool.false_ne_true]
      rcases hG with ⟨p, q⟩ | ⟨p, q, -⟩ <;> omega
  obtain ⟨cv, hcv⟩ : ∃ cv, decide (S.2.2.2 21 = 1) = true → yz S.2.2.1 (S.2.2.2 24) (S.2.2.2 24 + 1) cv ∧ ∀ a b, ym_run (yv2 S.2.2.2 a b) cv [] = some [val 4 a b] := by
    by_cases e : S.2.2.2 21 = 1
    · obtain ⟨cv, h⟩ := hG4 e
      exact ⟨cv, fun _ => h⟩
    · exact ⟨[], fun z => absurd (of_decide_eq_true z) e⟩
  have f0 : ysG m σ1 (am_wi σ1 m 44 0) := ⟨(ym_f.rf).wi (a := m) (by omega), fun k hk => by rw [ym_ij hk]⟩
  have hS3 : yS3 σ1 m S.2.2.2 S.2.2.1 V1 V2 := ⟨hO.1, k1, k2, hN1, hN2, ykn_two hn hT0, k3, k4, k5, hn2, hL1, hL2, hT20, by omega⟩
  have hH := hO.1
  have hF0 : yFd (am_wi σ1 m 44 0) m [] := ⟨ym_is, Nat.zero_le _, fun q p hq => by simp at hq⟩
  have hS30 := hS3.g f0
  refine kX10_select_49 ?_
  simp (disch := omega) only [ax_const, ax_iload, ax_lload, ax_aload, ax_istore, ax_astore, ax_iinc, ax_i2, ax_i2n, ax_l2, ax_lsh, ax_ii, ax_il, ax_li, ax_pop, ax_dup, ax_dup2, ax_if, ax_cmp, ax_acmp, ax_goto, ax_getI, ax_getR, ax_putI, ax_putR, ax_gets, ax_getsT, ax_aldI, ax_aldR, ax_astI, ax_astR, ax_alen, ax_ret, ax_aret, ax_vret, am_st, am_kl, List.getElem?_cons_zero, List.getElem?_cons_succ, List.set_cons_zero, List.set_cons_succ, Value.category, true_and, and_true, if_true, if_false, reduceCtorEq, Bool.false_eq_true, false_implies, forall_const, Option.some.injEq, exists_eq_left', exists_eq_left, Sum.inl.injEq, Sum.inr.injEq, Prod.mk.injEq, am_sh_wi, am_r_wi, am_tp_wi, am_us_wi, ym_is, ym_io, ym_ij, hH.1]
  refine ysf_56 (σ0 := am_wi σ1 m 44 0) (G := xl_out (xl_fd Wh (decide (S.2.2.2 0 = 2)) (decide (S.2.2.2 20 = 1)) V1 V2) (xl_n2 (decide (S.2.2.2 0 = 2)) V2) V1.length 0 []) (s := i) hd hWh (fun hno σ' _ hf => ?_) (fun FL hFL σ2 i' z4 z5 hS32 hFd hf => ?_) V1.length 0 [] _ z4 z5 (Nat.add_zero _) rfl hS30 hF0 ysG.rf
  · have hf1 := f0.tr hf
    exact hQ (-7) D σ' (hSel _ _ (Or.inl ⟨hno, rfl, rfl⟩)) (hO.sc (hf1.1.mono (fun b x => by unfold ym_sc; omega))) (hq.se hf1.se) hf1.se
  · have hf1 := f0.tr hf
    have hok := xl_out_ok (V := fun x => x.1 < V1.length ∧ x.2 < xl_n2 (decide (S.2.2.2 0 = 2)) V2) V1.length 0 [] FL hFL (fun x hx => by cases hx) (fun i' j' a b => ⟨by omega, b⟩)
    have h2 : yS2 σ2 m S.2.2.2 S.2.2.1 V1 V2 FL := by
      obtain ⟨a1, a2, a3, a4, a5, a6, a7, a8, a9, a10, a11⟩ := hS32
      refine ⟨a1, a2, a3, a4, fun z => a5 (a6 z), hFd, fun q p hp => ?_, a7, a8, a9⟩
      obtain ⟨b1, b2⟩ := hok p (List.mem_of_getElem? hp)
      refine ⟨b1, fun z => ?_⟩
      have e2 := a6 z
      unfold xl_n2 at b2
      rw [decide_eq_true e2, if_pos rfl] at b2
      exact b2
    have hSl := hSel (nI (xl_GR W.2.1 (S.2.2.2 4) val V1 V2 FL).2) _ (Or.inr ⟨FL, hFL, rfl, rfl⟩)
    obtain ⟨hGR1, hI⟩ := hGR FL
    have hrk := hRK FL (yg_r (decide (S.2.2.2 21 = 1)) (ygS S.2.2.2) (xl_at (val 4) V1 V2 FL) FL.length [] []).1
    have hlen := (xl_pt_len (kd := W.2.1 4) (tg := xl_tg W.2.1 (S.2.2.2 4)) (mk := xl_at (val 4) V1 V2 FL) FL.length 0 [] 0)
    change (xl_GR W.2.1 (S.2.2.2 4) val V1 V2 FL).1.length = _ ∧ (xl_GR W.2.1 (S.2.2.2 4) val V1 V2 FL).2 ≤ _ at hlen
    unfold xl_SR at hSl
    rw [hGR1] at hSl hlen
    refine am_callK [.ref m] [] (d' := 2) (lim' := (am_tp σ2, am_us σ2)) rfl (by omega) (Nat.le_of_eq hf1.1.tp) (Nat.le_of_eq hf1.1.us) rfl (Nat.le_of_ble_eq_true rfl) (am_recv h2.1.1) ?_
    refine c_ygather (cv := cv) (val := val 4) (gb := decide (S.2.2.2 21 = 1)) h2 hgb t2 hT22 hT5 hT8 hcv (fun σ3 h3 hGr hf3 t3' u3' => ?_)
    generalize (yg_r (decide (S.2.2.2 21 = 1)) (ygS S.2.2.2) (xl_at (val 4) V1 V2 FL) FL.length [] []).1 = GO at *
    generalize (yg_r (decide (S.2.2.2 21 = 1)) (ygS S.2.2.2) (xl_at (val 4) V1 V2 FL) FL.length [] []).2 = FS at *
    dsimp only at hSl hlen
    have hlen1 : GO.length = FL.length := hlen.1
    have h40 : FS.length ≤ 40 := by have := hFd.2.1; have := hlen.2; omega
    have h4 : yS4 σ3 m S.2.2.2 S.2.2.1 V1 V2 FL (decide (S.2.2.2 21 = 1)) (ygS S.2.2.2) (xl_at (val 4) V1 V2 FL) GO FS := ⟨h3, hGr, hI, hlen1, h40⟩
    have e3 : (am_tp (am_wi σ1 m 44 0), am_us (am_wi σ1 m 44 0)) = (am_tp σ3, am_us σ3) := by
      rw [hf3.1.tp, hf3.1.us, hf.1.tp, hf.1.us]
    have hf13 := hf1.se.tr hf3.se
    simp (disch := omega) only [ax_const, ax_iload, ax_lload, ax_aload, ax_istore, ax_astore, ax_iinc, ax_i2, ax_i2n, ax_l2, ax_lsh, ax_ii, ax_il, ax_li, ax_pop, ax_dup, ax_dup2, ax_if, ax_cmp, ax_acmp, ax_goto, ax_getI, ax_getR, ax_putI, ax_putR, ax_gets, ax_getsT, ax_aldI, ax_aldR, ax_astI, ax_astR, ax_alen, ax_ret, ax_aret, ax_vret, am_st, am_kl, List.getElem?_cons_zero, List.getElem?_cons_succ, List.set_cons_zero, List.set_cons_succ, Value.category, true_and, and_true, if_true, if_false, reduceCtorEq, Bool.false_eq_true, false_implies, forall_const, Option.some.injEq, exists_eq_left', exists_eq_left, Sum.inl.injEq, Sum.inr.injEq, Prod.mk.injEq, Option.toList_some, Option.toList_none, List.cons_append, List.nil_append, List.append_nil]
    rw [e3]
    refine ysq_209 (σ0 := σ3) (s := i) (val := val 5) hd hi hT22 h4 hT8 hTm3 (fun σ4 hf4 hk4 h30 h29 ho h31 => ?_) FS.length 0 σ3 (Nat.add_zero _) .rf (fun a' ha => absurd ha (Nat.not_lt_zero _)) ⟨rfl, rfl, rfl⟩
    have h44 := h4.k hf4
    have e4 : (am_tp σ3, am_us σ3) = (am_tp σ4, am_us σ4) := by rw [ym_f.tp hf4, ym_f.us hf4]
    rw [e4]
    have hSO : ysr (decide (W.1 2 ≠ 0)) (ysQ S.2.2.2 (val 5) V1 V2 FL GO) FS.length (xl_so (xl_lt (decide (W.1 2 ≠ 0)) (xl_rk W.2.1 (val 5) V1 V2 FL GO)) FS.length 0 []) := by
      rw [hrk]
      exact yrk_so
    have d36 : S.2.2.2 22 = 1 → am_i σ4 m 36 = yb (decide (W.1 2 ≠ 0)) := fun e => by
      rw [← hdn e]
      exact h44.1.2.1.2.2.2.2.2.2.2.2.2.2.2.1
    refine ysq_268 (σ0 := σ4) (s := i) (val := val) (K := ysQ S.2.2.2 (val 5) V1 V2 FL GO) hd hi t2 h44 hT5 hTm d36 hT22 (fun e a => by unfold ysQ; rw [if_pos e]) hk4 hSO (fun σ5 hf5 hv => ?_) FS.length 0 σ4 _ _ (Nat.add_zero _) yuR.rf (fun a' c' q1 q2 => by omega)
    have F := (hf13.tr (yKj.se hf4)).tr (yKj.se hf5.1)
    have nm : ∀ b, m + 1 ≤ b → b ≤ m + 19 → am_i σ5 b = am_i σ1 b := fun b x y => F.1.i (a := b) (by omega)
    have o31 : ∀ j, j < 120 * i ∨ 120 * i + 120 ≤ j → am_i σ5 (m + 31) j = am_i σ1 (m + 31) j := fun j hj => by
      rw [hf5.2.2.2.2 j hj, h31, hf3.1.i (a := m + 31) (by omega), hf1.1.i (a := m + 31) (by omega)]
    have o30 : ∀ j, j ≠ i → am_i σ5 (m + 30) j = am_i σ1 (m + 30) j ∧ am_i σ5 (m + 29) j = am_i σ1 (m + 29) j := fun j hj => by
      rw [hf5.2.2.1, hf5.2.2.2.1, (ho j hj).1, (ho j hj).2, hf3.1.i (a := m + 30) (by omega), hf1.1.i (a := m + 30) (by omega), hf3.1.i (a := m + 29) (by omega), hf1.1.i (a := m + 29) (by omega)]
      exact ⟨rfl, rfl⟩
    refine hQ _ _ σ5 hSl (hO.sel F.1 ?_ (fun j hj hne => ?_)) (hq.se F) F
    · obtain ⟨s1, s2, s3, -⟩ := hO.2.2.2.2 i hi
      refine ⟨by rw [nm (m + 9) (by omega) (by omega)]; exact s1, s2, by rw [nm (m + 8) (by omega) (by omega)]; exact s3, by rw [hf5.2.2.1]; exact h29, by rw [hf5.2.2.2.1]; exact h30, h40, t2, fun r c hr hc => ?_⟩
      rw [hv r c hr hc, hkc c hc]
      rfl
    · obtain ⟨s1, s2, s3, s4, s5, s6, s7, s8⟩ := hO.2.2.2.2 j hj
      refine ⟨by rw [nm (m + 9) (by omega) (by omega)]; exact s1, s2, by rw [nm (m + 8) (by omega) (by omega)]; exact s3, by rw [(o30 j hne).2]; exact s4, by rw [(o30 j hne).1]; exact s5, s6, s7, fun r c hr hc => ?_⟩
      rw [o31 _ (by omega)]
      exact s8 r c hr hc
