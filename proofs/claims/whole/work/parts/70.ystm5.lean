/-! statements: select -/
theorem ys_tm_ge (ts : List (Nat × Int32)) (c : Bool) (a : Nat) (o : yp_O) : a ≤ (ys_tm ts c a o).1 := by
  have h1 := yp_ex_ge ts 0 (a + 2) o
  have h2 := yp_ex_ge ts 0 a o
  unfold ys_tm
  split
  · exact Nat.le_succ _
  · split
    · split
      · split
        · show a ≤ (yp_ex ts 0 (a + 2) o).1
          omega
        · split
          · show a ≤ (yp_ex ts 0 (a + 2) o).1 + 1
            omega
          · show a ≤ (yp_ex ts 0 (a + 2) o).1
            omega
      · exact Nat.le_succ _
    · exact h2
theorem ys_tc_T4 (ts : List (Nat × Int32)) (S : ys_S) : (ys_tc ts S).2.2.2.2 4 = S.2.2.2 4 + 1 := yt_s (T := (ys_term ts (ys_t4 (S.2.2.2 4)) true S).2.2.2) (i := 4) (v := S.2.2.2 4 + 1)
theorem ys_terms_T4 (ts : List (Nat × Int32)) : ∀ n S, S.2.2.2 4 ≤ (ys_terms ts n S).2.2.2 4
  | 0, S => Nat.le_refl _
  | n + 1, S => by
    have h1 := ys_tc_T4 ts S
    rw [ys_terms]
    split
    · exact Nat.le_refl _
    · split
      · have := ys_terms_T4 ts n (ys_tc ts S).2
        omega
      · omega
def xq_t (ts : List (Nat × Int32)) (i : Nat) (W : xp_W) : xp_W := xp_sl ts (2 - i) (i + 1) (xp_sf 6 (nI (i + 1)) (xp_oX ts i W))
theorem xq_Mo.t (ts : List (Nat × Int32)) (i : Nat) : xq_Mo (xq_t ts i) := fun W h => xq_Mo.sl ts _ _ _ (xq_Mo.oX ts i W h)
theorem xq_t_eq {ts : List (Nat × Int32)} {i : Nat} {W : xp_W} (hi : i < 2) : xq_t ts i W = if xp_hd ts (xp_oX ts i W).2.2.2.1 = 22 then xq_t ts (i + 1) (xp_om xp_adv (xp_sf 6 (nI (i + 1)) (xp_oX ts i W))) else xp_sf 6 (nI (i + 1)) (xp_oX ts i W) := by
  unfold xq_t
  rw [show 2 - i = (2 - (i + 1)) + 1 by omega, xp_sl]
  rfl
theorem xq_t_2 {ts : List (Nat × Int32)} {W : xp_W} : xq_t ts 2 W = xp_sf 6 (nI 3) (xp_oX ts 2 W) := rfl
/-- what the terms leave as it was -/
def yk6 (W W' : xp_W) (S S' : ys_S) : Prop := (∀ q, q ≠ 6 → W'.1 q = W.1 q) ∧ (∀ q, 3 ≤ q → W'.2.1 q = W.2.1 q ∧ W'.2.2.1 q = W.2.2.1 q) ∧ ∀ q, (q < 4 ∨ 17 ≤ q) → S'.2.2.2 q = S.2.2.2 q
def yt6 (W : xp_W) (S : ys_S) : Prop := 1 ≤ S.2.2.2 4 ∧ S.2.2.2 4 ≤ 3 ∧ W.1 6 = nI (S.2.2.2 4) ∧ ∀ j, j < S.2.2.2 4 → yx W S j (9 + j) (13 + j) (5 + j)
theorem ys_from_good {ts : List (Nat × Int32)} {S : ys_S} (h2 : S.2.1 = false) (h3 : S.2.2.2 4 ≤ 3) : ys_from ts S = ys_need ts 5 S := by
  unfold ys_from
  rw [if_neg (fun z => z.elim (fun q => by rw [h2] at q; cases q) (fun q => by omega))]
theorem yr_terms {ts : List (Nat × Int32)} (hts : ts.length ≤ 81) (hEN : xp_EN ts) : ∀ (e i : Nat), i + e = 2 → ∀ (n : Nat) (W : xp_W) (S : ys_S), yg ts W S → S.2.2.2 4 = i → (∀ j, j < i → yx W S j (9 + j) (13 + j) (5 + j)) → (∀ j, i ≤ j → j < 6 → W.2.2.1 j = []) → ts.length ≤ n + S.1 →
    (yg ts (xp_om (xp_need ts 5) (xq_t ts i W)) (ys_from ts (ys_terms ts n S)) ∧ yt6 (xp_om (xp_need ts 5) (xq_t ts i W)) (ys_from ts (ys_terms ts n S)) ∧ yk6 W (xp_om (xp_need ts 5) (xq_t ts i W)) S (ys_from ts (ys_terms ts n S))) ∨ ybb (xp_om (xp_need ts 5) (xq_t ts i W)) (ys_from ts (ys_terms ts n S)) := by
  intro e
  induction e with
  | zero =>
    intro i hi n W S h h4 hx hs hn
    have ei : i = 2 := by omega
    subst ei
    have hlt := h.2.2.2.2.2.1
    obtain ⟨n, rfl⟩ : ∃ k, n = k + 1 := ⟨n - 1, by omega⟩
    have e4 : ys_t4 (S.2.2.2 4) = 2 := by rw [h4]; rfl
    have etc : ys_tc ts S = (decide (xp_hd ts (ys_term ts 2 true S).1 = 22), (if xp_hd ts (ys_term ts 2 true S).1 = 22 then (ys_term ts 2 true S).1 + 1 else (ys_term ts 2 true S).1, (ys_term ts 2 true S).2.1, (ys_term ts 2 true S).2.2.1, yt (ys_term ts 2 true S).2.2.2 4 3)) := by
      unfold ys_tc
      rw [e4, h4]
    rw [ys_terms, if_neg (by rw [h.2.1]; decide), xq_t_2]
    rcases yr_X (j := 2) (i := 2) hts hEN h (hs 2 (by decide) (by decide)) with ⟨k1, k2, x, k3⟩ | ⟨b1, b2⟩
    · have hge : S.1 ≤ (ys_term ts 2 true S).1 := ys_tm_ge ts true S.1 S.2.2.1
      have hT : ∀ q, q ≠ 7 → q ≠ 11 → q ≠ 15 → (ys_term ts 2 true S).2.2.2 q = S.2.2.2 q := fun q a b c => ys_term_T a b c
      have hx2 : ∀ j, j < 2 → yx (xp_oX ts 2 W) (ys_term ts 2 true S) j (9 + j) (13 + j) (5 + j) := fun j hj => (hx j hj).keep (xp_oX_k (by omega)) (xp_oX_ss (by omega)) k3 (hT _ (by omega) (by omega) (by omega)) (hT _ (by omega) (by omega) (by omega)) (hT _ (by omega) (by omega) (by omega))
      have hkk : ∀ q, 3 ≤ q → (xp_oX ts 2 W).2.1 q = W.2.1 q ∧ (xp_oX ts 2 W).2.2.1 q = W.2.2.1 q := fun q hq => ⟨xp_oX_k (by omega), xp_oX_ss (by omega)⟩
      have hff : (xp_oX ts 2 W).1 = W.1 := rfl
      generalize xp_oX ts 2 W = A at *
      generalize ys_term ts 2 true S = B at *
      have hA : A.2.2.2.1 = B.1 := k1.2.2.1
      by_cases hc : xp_hd ts B.1 = 22
      · rw [if_pos hc, decide_eq_true hc] at etc
        rw [etc, if_pos rfl]
        have hlt2 := hEN.lt (a := B.1) (by rw [hc]; decide)
        obtain ⟨n, rfl⟩ : ∃ k, n = k + 1 := ⟨n - 1, by omega⟩
        refine Or.inr ⟨?_, ?_⟩
        · show (xp_need ts 5 A.2.2.2).2.1 = true
          unfold xp_need
          rw [if_neg (by rw [hA, hc]; decide)]
          rfl
        · have h1 := ys_tc_T4 ts (B.1 + 1, B.2.1, B.2.2.1, yt B.2.2.2 4 3)
          have h0 : (B.1 + 1, B.2.1, B.2.2.1, yt B.2.2.2 4 3).2.2.2 4 = 3 := yt_s (T := B.2.2.2) (i := 4) (v := 3)
          have : 3 < (ys_terms ts (n + 1) (B.1 + 1, B.2.1, B.2.2.1, yt B.2.2.2 4 3)).2.2.2 4 := by
            rw [ys_terms, if_neg (by show ¬ B.2.1 = true; rw [k1.2.1]; decide)]
            split
            · have := ys_terms_T4 ts n (ys_tc ts (B.1 + 1, B.2.1, B.2.2.1, yt B.2.2.2 4 3)).2
              omega
            · omega
          unfold ys_from
          rw [if_pos (Or.inr this)]
      · rw [if_neg hc, decide_eq_false hc] at etc
        rw [etc]
        dsimp only
        rw [if_neg (by decide)]
        have hg : yg ts (xp_sf 6 (nI 3) A) (B.1, B.2.1, B.2.2.1, yt B.2.2.2 4 3) := yr_T (yr_sf k1 6 _) _
        have hT4 : (B.1, B.2.1, B.2.2.1, yt B.2.2.2 4 3).2.2.2 4 = 3 := yt_s (T := B.2.2.2) (i := 4) (v := 3)
        rw [ys_from_good hg.2.1 (by rw [hT4]; exact Nat.le_refl _)]
        rcases yr_need (t := 5) hEN hg (by decide) with ⟨g2, -, w2, s2⟩ | hb
        · rw [w2] at g2 ⊢
          rw [s2] at g2 ⊢
          refine Or.inl ⟨g2, ⟨?_, ?_, ?_, fun j hj => ?_⟩, fun q hq => ?_, fun q hq => hkk q hq, fun q hq => ?_⟩
          · rw [hT4]; decide
          · rw [hT4]; decide
          · rw [hT4]; rfl
          · rw [hT4] at hj
            by_cases ej : j = 2
            · subst ej
              exact k2.keep (x := []) rfl rfl (by rw [List.append_nil]) (show yt B.2.2.2 4 3 11 = B.2.2.2 11 from yt_o (by decide)) (show yt B.2.2.2 4 3 15 = B.2.2.2 15 from yt_o (by decide)) (show yt B.2.2.2 4 3 7 = B.2.2.2 7 from yt_o (by decide))
            · exact (hx2 j (by omega)).keep (x := []) rfl rfl (by rw [List.append_nil]) (yt_o (T := B.2.2.2) (by omega)) (yt_o (T := B.2.2.2) (by omega)) (yt_o (T := B.2.2.2) (by omega))
          · show (if q = 6 then nI 3 else A.1 q) = W.1 q
            rw [if_neg hq, hff]
          · show yt B.2.2.2 4 3 q = S.2.2.2 q
            rw [yt_o (by omega)]
            exact hT q (by omega) (by omega) (by omega)
        · exact Or.inr hb
    · refine Or.inr ⟨xq_Mo.om (xp_Mo.need ts 5) _ b1, ?_⟩
      have hb : (ys_tc ts S).2.2.1 = true := by
        rw [etc]
        exact b2
      have : ∀ R, R.2.1 = true → (ys_from ts R).2.1 = true := fun R hR => by
        unfold ys_from
        rw [if_pos (Or.inl hR)]
      refine this _ ?_
      split
      · cases n with
        | zero => exact hb
        | succ n => rw [ys_terms, if_pos hb]; exact hb
      · exact hb
  | succ e ih =>
    intro i hi n W S h h4 hx hs hn
    have hlt := h.2.2.2.2.2.1
    obtain ⟨n, rfl⟩ : ∃ k, n = k + 1 := ⟨n - 1, by omega⟩
    have e4 : ys_t4 (S.2.2.2 4) = i := by rw [h4]; unfold ys_t4; rw [if_pos (by omega)]
    have etc : ys_tc ts S = (decide (xp_hd ts (ys_term ts i true S).1 = 22), (if xp_hd ts (ys_term ts i true S).1 = 22 then (ys_term ts i true S).1 + 1 else (ys_term ts i true S).1, (ys_term ts i true S).2.1, (ys_term ts i true S).2.2.1, yt (ys_term ts i true S).2.2.2 4 (i + 1))) := by
      unfold ys_tc
      rw [e4, h4]
    rw [ys_terms, if_neg (by rw [h.2.1]; decide), xq_t_eq (by omega)]
    rcases yr_X (j := i) (i := i) hts hEN h (hs i (Nat.le_refl _) (by omega)) with ⟨k1, k2, x, k3⟩ | ⟨b1, b2⟩
    · have hge : S.1 ≤ (ys_term ts i true S).1 := ys_tm_ge ts true S.1 S.2.2.1
      have hT : ∀ q, q ≠ 5 + i → q ≠ 9 + i → q ≠ 13 + i → (ys_term ts i true S).2.2.2 q = S.2.2.2 q := fun q a b c => ys_term_T a b c
      have hx2 : ∀ j, j < i → yx (xp_oX ts i W) (ys_term ts i true S) j (9 + j) (13 + j) (5 + j) := fun j hj => (hx j hj).keep (xp_oX_k (by omega)) (xp_oX_ss (by omega)) k3 (hT _ (by omega) (by omega) (by omega)) (hT _ (by omega) (by omega) (by omega)) (hT _ (by omega) (by omega) (by omega))
      have hkk : ∀ q, 3 ≤ q → (xp_oX ts i W).2.1 q = W.2.1 q ∧ (xp_oX ts i W).2.2.1 q = W.2.2.1 q := fun q hq => ⟨xp_oX_k (by omega), xp_oX_ss (by omega)⟩
      have hss : ∀ q, i < q → q < 6 → (xp_oX ts i W).2.2.1 q = [] := fun q a b => (xp_oX_ss (by omega)).trans (hs q (by omega) b)
      have hff : (xp_oX ts i W).1 = W.1 := rfl
      generalize xp_oX ts i W = A at *
      generalize ys_term ts i true S = B at *
      have hA : A.2.2.2.1 = B.1 := k1.2.2.1
      rw [hA]
      have hg : yg ts (xp_sf 6 (nI (i + 1)) A) (B.1, B.2.1, B.2.2.1, yt B.2.2.2 4 (i + 1)) := yr_T (yr_sf k1 6 _) _
      have hx3 : ∀ a, ∀ j, j < i + 1 → yx (xp_sf 6 (nI (i + 1)) A) (a, B.2.1, B.2.2.1, yt B.2.2.2 4 (i + 1)) j (9 + j) (13 + j) (5 + j) := fun a j hj => by
        by_cases ej : j = i
        · subst ej
          exact k2.keep (x := []) rfl rfl (by rw [List.append_nil]) (yt_o (T := B.2.2.2) (by omega)) (yt_o (T := B.2.2.2) (by omega)) (yt_o (T := B.2.2.2) (by omega))
        · exact (hx2 j (by omega)).keep (x := []) rfl rfl (by rw [List.append_nil]) (yt_o (T := B.2.2.2) (by omega)) (yt_o (T := B.2.2.2) (by omega)) (yt_o (T := B.2.2.2) (by omega))
      by_cases hc : xp_hd ts B.1 = 22
      · rw [if_pos hc, decide_eq_true hc] at etc
        rw [etc, if_pos rfl, if_pos hc]
        have hlt2 := hEN.lt (a := B.1) (by rw [hc]; decide)
        have hg2 : yg ts (xp_om xp_adv (xp_sf 6 (nI (i + 1)) A)) (B.1 + 1, B.2.1, B.2.2.1, yt B.2.2.2 4 (i + 1)) := yr_adv hEN hg (by show xp_hd ts B.1 ≠ 36; rw [hc]; decide)
        rcases ih (i + 1) (by omega) n _ _ hg2 (yt_s (T := B.2.2.2) (i := 4) (v := i + 1)) (hx3 _) (fun j a b => hss j (by omega) b) (by show ts.length ≤ n + (B.1 + 1); omega) with ⟨m1, m2, m3, m4, m5⟩ | hb
        · refine Or.inl ⟨m1, m2, fun q hq => (m3 q hq).trans ?_, fun q hq => ⟨(m4 q hq).1.trans (hkk q hq).1, (m4 q hq).2.trans (hkk q hq).2⟩, fun q hq => (m5 q hq).trans ?_⟩
          · show (if q = 6 then nI (i + 1) else A.1 q) = W.1 q
            rw [if_neg hq, hff]
          · show yt B.2.2.2 4 (i + 1) q = S.2.2.2 q
            rw [yt_o (by omega)]
            exact hT q (by omega) (by omega) (by omega)
        · exact Or.inr hb
      · rw [if_neg hc, decide_eq_false hc] at etc
        rw [etc]
        dsimp only
        rw [if_neg hc, if_neg (show ¬ false = true by decide)]
        have hT4 : (B.1, B.2.1, B.2.2.1, yt B.2.2.2 4 (i + 1)).2.2.2 4 = i + 1 := yt_s (T := B.2.2.2) (i := 4) (v := i + 1)
        rw [ys_from_good hg.2.1 (by rw [hT4]; omega)]
        rcases yr_need (t := 5) hEN hg (by decide) with ⟨g2, -, w2, s2⟩ | hb
        · rw [w2] at g2 ⊢
          rw [s2] at g2 ⊢
          refine Or.inl ⟨g2, ⟨?_, ?_, ?_, fun j hj => ?_⟩, fun q hq => ?_, fun q hq => hkk q hq, fun q hq => ?_⟩
          · rw [hT4]; omega
          · rw [hT4]; omega
          · rw [hT4]; rfl
          · rw [hT4] at hj
            exact hx3 _ j hj
          · show (if q = 6 then nI (i + 1) else A.1 q) = W.1 q
            rw [if_neg hq, hff]
          · show yt B.2.2.2 4 (i + 1) q = S.2.2.2 q
            rw [yt_o (by omega)]
            exact hT q (by omega) (by omega) (by omega)
        · exact Or.inr hb
    · have hw : (if xp_hd ts (xp_oX ts i W).2.2.2.1 = 22 then xq_t ts (i + 1) (xp_om xp_adv (xp_sf 6 (nI (i + 1)) (xp_oX ts i W))) else xp_sf 6 (nI (i + 1)) (xp_oX ts i W)).2.2.2.2.1 = true := by
        split
        · exact xq_Mo.t ts (i + 1) _ b1
        · exact b1
      refine Or.inr ⟨xq_Mo.om (xp_Mo.need ts 5) _ hw, ?_⟩
      have hb : (ys_tc ts S).2.2.1 = true := by
        rw [etc]
        exact b2
      have : ∀ R, R.2.1 = true → (ys_from ts R).2.1 = true := fun R hR => by
        unfold ys_from
        rw [if_pos (Or.inl hR)]
      refine this _ ?_
      split
      · cases n with
        | zero => exact hb
        | succ n => rw [ys_terms, if_pos hb]; exact hb
      · exact hb
