/-! statements: select, and all of them -/
theorem yr_top {ts : List (Nat × Int32)} {W : xp_W} {S : ys_S} (hEN : xp_EN ts) (h : yg ts W S) : ∃ v, v ≤ 1 ∧ yg ts (xp_s0 ts W) (ys_top ts S) ∧ (xp_s0 ts W).1 = (fun q => if q = 1 then nI v else W.1 q) ∧ (xp_s0 ts W).2.1 = W.2.1 ∧ (xp_s0 ts W).2.2.1 = W.2.2.1 ∧ (ys_top ts S).2.2.1 = S.2.2.1 ∧ (ys_top ts S).2.2.2 = yt S.2.2.2 20 v := by
  have h0 := h
  obtain ⟨h1, h2, h3, h4, h5, h6, h7⟩ := h
  by_cases hh : xp_hd ts S.1 = 4
  · have e1 : xp_s0 ts W = xp_sf 1 1 (xp_om xp_adv W) := by
      unfold xp_s0
      rw [if_pos (by rw [h3]; exact hh)]
    have e2 : ys_top ts S = (S.1 + 1, S.2.1, S.2.2.1, yt S.2.2.2 20 1) := by
      unfold ys_top
      rw [if_pos hh]
    rw [e1, e2]
    exact ⟨1, Nat.le_refl _, yr_T (yr_sf (yr_adv hEN h0 (by rw [hh]; decide)) 1 1) _, rfl, rfl, rfl, rfl, rfl⟩
  · have e1 : xp_s0 ts W = xp_sf 1 0 W := by
      unfold xp_s0
      rw [if_neg (by rw [h3]; exact hh)]
    have e2 : ys_top ts S = (S.1, S.2.1, S.2.2.1, yt S.2.2.2 20 0) := by
      unfold ys_top
      rw [if_neg hh]
    rw [e1, e2]
    exact ⟨0, Nat.zero_le _, yr_T (yr_sf h0 1 0) _, rfl, rfl, rfl, rfl, rfl⟩
def yt2 (ts : List (Nat × Int32)) (W : xp_W) : xp_W := if xp_hd ts (xp_oT ts 3 W).2.2.2.1 = 22 then xp_oT ts 4 (xp_om xp_adv (xp_oT ts 3 W)) else xp_oT ts 3 W
theorem xp_s84_eq {ts : List (Nat × Int32)} {W : xp_W} : xp_s84 ts W = yt2 ts (xp_om (xp_need ts 5) W) := rfl
theorem xq_Mo.tb2 (ts : List (Nat × Int32)) : xq_Mo (yt2 ts) := fun W h => by
  have h1 := xq_Mo.oT ts 3 W h
  unfold yt2
  split
  · exact xq_Mo.oT ts 4 (xp_om xp_adv _) h1
  · exact h1
theorem yr_tabs {ts : List (Nat × Int32)} {W : xp_W} {S : ys_S} (hEN : xp_EN ts) (h : yg ts W S) (h0 : S.2.2.2 0 = 0) :
    (yg ts (yt2 ts W) (ys_tabs ts S) ∧ (((ys_tabs ts S).2.2.2 0 = 1 ∧ (yt2 ts W).1 4 = W.1 4) ∨ ((ys_tabs ts S).2.2.2 0 = 2 ∧ (yt2 ts W).1 4 = nI ((ys_tabs ts S).2.2.2 2) ∧ (ys_tabs ts S).2.2.2 2 < 2)) ∧ (ys_tabs ts S).2.2.2 1 < 2 ∧ (yt2 ts W).1 3 = nI ((ys_tabs ts S).2.2.2 1) ∧ (∀ q, q ≠ 3 → q ≠ 4 → (yt2 ts W).1 q = W.1 q) ∧ (yt2 ts W).2.1 = W.2.1 ∧ (yt2 ts W).2.2.1 = W.2.2.1 ∧ (ys_tabs ts S).2.2.1 = S.2.2.1 ∧ ∀ q, 3 ≤ q → (ys_tabs ts S).2.2.2 q = S.2.2.2 q) ∨ ybb (yt2 ts W) (ys_tabs ts S) := by
  rcases yr_name (i := 3) hEN h with ⟨g1, n1, n2, n3⟩ | ⟨b1, b2⟩
  · rw [h0] at n3
    have ef : ∀ q, (xp_oT ts 3 W).1 q = if q = 3 then nI (xp_hd ts S.1 - 19) else W.1 q := fun q => by rw [n2]; rfl
    have ek : (xp_oT ts 3 W).2.1 = W.2.1 ∧ (xp_oT ts 3 W).2.2.1 = W.2.2.1 := ⟨rfl, rfl⟩
    have eT : ∀ q, (ys_name ts S).2.2.2 q = if q = 0 then 1 else if q = 1 then xp_hd ts S.1 - 19 else S.2.2.2 q := fun q => by rw [n3]; rfl
    have eo : (ys_name ts S).2.2.1 = S.2.2.1 := by rw [n3]
    unfold yt2 ys_tabs
    generalize xp_oT ts 3 W = A at *
    generalize ys_name ts S = B at *
    have hA : A.2.2.2.1 = B.1 := g1.2.2.1
    rw [hA]
    by_cases hc : xp_hd ts B.1 = 22
    · rw [if_pos hc, if_pos hc]
      have g2 : yg ts (xp_om xp_adv A) (B.1 + 1, B.2) := yr_adv hEN g1 (by rw [hc]; decide)
      rcases yr_name (i := 4) hEN g2 with ⟨g3, m1, m2, m3⟩ | hb
      · have e0 : (B.1 + 1, B.2).2.2.2 0 = 1 := by
          show B.2.2.2 0 = 1
          rw [eT, if_pos rfl]
        rw [e0] at m3
        have fT : ∀ q, (ys_name ts (B.1 + 1, B.2)).2.2.2 q = if q = 0 then 2 else if q = 2 then xp_hd ts (B.1 + 1) - 19 else B.2.2.2 q := fun q => by rw [m3]; rfl
        have ff : ∀ q, (xp_oT ts 4 (xp_om xp_adv A)).1 q = if q = 4 then nI (xp_hd ts (B.1 + 1) - 19) else A.1 q := fun q => by rw [m2]; rfl
        refine Or.inl ⟨g3, Or.inr ⟨?_, ?_, ?_⟩, ?_, ?_, fun q a b => ?_, ek.1, ek.2, ?_, fun q hq => ?_⟩
        · rw [fT, if_pos rfl]
        · rw [fT, if_neg (by decide), if_pos rfl, ff, if_pos rfl]
        · rw [fT, if_neg (by decide), if_pos rfl]; exact m1
        · rw [fT, if_neg (by decide), if_neg (by decide), eT, if_neg (by decide), if_pos rfl]; exact n1
        · rw [fT, if_neg (by decide), if_neg (by decide), eT, if_neg (by decide), if_pos rfl, ff, if_neg (by decide), ef, if_pos rfl]
        · rw [ff, if_neg b, ef, if_neg a]
        · rw [m3]; exact eo
        · rw [fT, if_neg (by omega), if_neg (by omega), eT, if_neg (by omega), if_neg (by omega)]
      · exact Or.inr hb
    · rw [if_neg hc, if_neg hc]
      refine Or.inl ⟨g1, Or.inl ⟨?_, ?_⟩, ?_, ?_, fun q a b => ?_, ek.1, ek.2, eo, fun q hq => ?_⟩
      · rw [eT, if_pos rfl]
      · rw [ef, if_neg (by decide)]
      · rw [eT, if_neg (by decide), if_pos rfl]; exact n1
      · rw [eT, if_neg (by decide), if_pos rfl, ef, if_pos rfl]
      · rw [ef, if_neg a]
      · rw [eT, if_neg (by omega), if_neg (by omega)]
  · refine Or.inr ⟨?_, ?_⟩
    · unfold yt2
      split
      · exact xq_Mo.oT ts 4 (xp_om xp_adv _) b1
      · exact b1
    · unfold ys_tabs
      split
      · exact ys_name_b b2
      · exact b2
def yQ3 (W : xp_W) (S : ys_S) : Prop := ((S.2.2.2 0 = 1 ∧ W.1 4 = -1) ∨ (S.2.2.2 0 = 2 ∧ W.1 4 = nI (S.2.2.2 2) ∧ S.2.2.2 2 < 2)) ∧ S.2.2.2 1 < 2 ∧ W.1 3 = nI (S.2.2.2 1) ∧ S.2.2.2 20 ≤ 1 ∧ W.1 1 = nI (S.2.2.2 20) ∧ yt6 W S ∧ yw W S ∧ yG W S ∧ yO W S
theorem xp_a1_f {ts : List (Nat × Int32)} {W : xp_W} : (xp_a1 ts W).1 = W.1 := by
  unfold xp_a1
  split <;> rfl
theorem xp_a1_k {ts : List (Nat × Int32)} {W : xp_W} {q : Nat} (h : q ≠ 4) : (xp_a1 ts W).2.1 q = W.2.1 q ∧ (xp_a1 ts W).2.2.1 q = W.2.2.1 q := by
  unfold xp_a1
  split
  · exact ⟨if_neg h, if_neg h⟩
  · exact ⟨rfl, rfl⟩
theorem ys_group_T {ts : List (Nat × Int32)} {S : ys_S} {q : Nat} (h1 : q ≠ 21) (h2 : q ≠ 24) : (ys_group ts S).2.2.2 q = S.2.2.2 q := by
  unfold ys_group
  split
  · dsimp only
    rw [yt_o h2, yt_o h1]
  · dsimp only
    rw [yt_o h1]
theorem xp_a2_f {ts : List (Nat × Int32)} {W : xp_W} {q : Nat} (h : q ≠ 2) : (xp_a2 ts W).1 q = W.1 q := by
  unfold xp_a2
  split
  · split
    · exact if_neg h
    · exact if_neg h
  · rfl
theorem xp_a2_k {ts : List (Nat × Int32)} {W : xp_W} {q : Nat} (h : q ≠ 5) : (xp_a2 ts W).2.1 q = W.2.1 q ∧ (xp_a2 ts W).2.2.1 q = W.2.2.1 q := by
  unfold xp_a2
  split
  · split
    · exact ⟨if_neg h, if_neg h⟩
    · exact ⟨if_neg h, if_neg h⟩
  · exact ⟨rfl, rfl⟩
theorem ys_down_T {ts : List (Nat × Int32)} {S : ys_S} {q : Nat} (h1 : q ≠ 23) : (ys_down ts S).2.2.2 q = S.2.2.2 q := by
  unfold ys_down
  split
  · dsimp only
    rw [yt_o h1]
  · dsimp only
    rw [yt_o h1]
theorem ys_order_T {ts : List (Nat × Int32)} {S : ys_S} {q : Nat} (h1 : q ≠ 22) (h2 : q ≠ 8) (h3 : q ≠ 12) (h4 : q ≠ 16) : (ys_order ts S).2.2.2 q = S.2.2.2 q := by
  unfold ys_order
  split
  · rw [ys_term_T h2 h3 h4]
    dsimp only
    rw [yt_o h1]
  · dsimp only
    rw [yt_o h1]
theorem yt6.keep {W W' : xp_W} {S S' : ys_S} {x : yp_O} (h : yt6 W S) (hf : W'.1 6 = W.1 6) (hk : ∀ q, q < 3 → W'.2.1 q = W.2.1 q ∧ W'.2.2.1 q = W.2.2.1 q) (ho : S'.2.2.1 = S.2.2.1 ++ x) (hT : ∀ q, q = 4 ∨ (5 ≤ q ∧ q < 8) ∨ (9 ≤ q ∧ q < 12) ∨ (13 ≤ q ∧ q < 16) → S'.2.2.2 q = S.2.2.2 q) : yt6 W' S' := by
  obtain ⟨h1, h2, h3, h4⟩ := h
  unfold yt6
  rw [hT 4 (by omega), hf]
  exact ⟨h1, h2, h3, fun j hj => (h4 j hj).keep (hk j (by omega)).1 (hk j (by omega)).2 ho (hT _ (by omega)) (hT _ (by omega)) (hT _ (by omega))⟩
theorem stm_sel {ts : List (Nat × Int32)} {f : Nat → Int32} {T : Nat → Nat} (hts : ts.length ≤ 81) (hEN : xp_EN ts) (h0 : xp_hd ts 0 ≠ 36) (hT : T 0 = 0) (hT4 : T 4 = 0) (hT17 : T 17 = 0) (hf : f 4 = -1) :
    (yg ts (xp_rA ts (xp_oW ts (xp_rS ts (xp_om xp_adv (xp_W0 f))))) (ys_sel ts (1, false, [], T)) ∧ yQ3 (xp_rA ts (xp_oW ts (xp_rS ts (xp_om xp_adv (xp_W0 f))))) (ys_sel ts (1, false, [], T))) ∨ ybb (xp_rA ts (xp_oW ts (xp_rS ts (xp_om xp_adv (xp_W0 f))))) (ys_sel ts (1, false, [], T)) := by
  have eS : xp_rS ts (xp_om xp_adv (xp_W0 f)) = yt2 ts (xp_om (xp_need ts 5) (xq_t ts 0 (xp_s0 ts (xp_om xp_adv (xp_W0 f))))) := rfl
  rw [eS]
  unfold xp_rA ys_sel
  obtain ⟨v, hv, g1, t1, t2, t3, t4, t5⟩ := yr_top hEN (yg_0 (f := f) (T := T) hEN h0)
  have hk0 : ∀ q, (xp_s0 ts (xp_om xp_adv (xp_W0 f))).2.1 q = 0 ∧ (xp_s0 ts (xp_om xp_adv (xp_W0 f))).2.2.1 q = [] := fun q => by rw [t2, t3]; exact ⟨rfl, rfl⟩
  have hf0 : ∀ q, (xp_s0 ts (xp_om xp_adv (xp_W0 f))).1 q = if q = 1 then nI v else f q := fun q => by rw [t1]; rfl
  have hT0 : ∀ q, (ys_top ts (1, false, [], T)).2.2.2 q = if q = 20 then v else T q := fun q => by rw [t5]; rfl
  generalize xp_s0 ts (xp_om xp_adv (xp_W0 f)) = A0 at *
  generalize ys_top ts (1, false, [], T) = B0 at *
  rcases yr_terms hts hEN 2 0 rfl (ts.length + 1) A0 B0 g1 (by rw [hT0, if_neg (by decide)]; exact hT4) (fun j hj => by omega) (fun j _ _ => (hk0 j).2) (by omega) with ⟨g2, k6, p1, p2, p3⟩ | ⟨b1, b2⟩
  · generalize xp_om (xp_need ts 5) (xq_t ts 0 A0) = A1 at *
    generalize ys_from ts (ys_terms ts (ts.length + 1) B0) = B1 at *
    rw [if_neg (by rw [g2.2.1]; decide)]
    rcases yr_tabs hEN g2 (by rw [p3 0 (Or.inl (by decide)), hT0, if_neg (by decide)]; exact hT) with ⟨g3, q1, q2, q3, q4, q5, q6, q7, q8⟩ | ⟨b1, b2⟩
    · have kA : ∀ q, (yt2 ts A1).2.1 q = A1.2.1 q ∧ (yt2 ts A1).2.2.1 q = A1.2.2.1 q := fun q => by rw [q5, q6]; exact ⟨rfl, rfl⟩
      have k7 := k6.keep (W' := yt2 ts A1) (S' := ys_tabs ts B1) (x := []) (q4 6 (by decide) (by decide)) (fun q _ => kA q) (by rw [q7, List.append_nil]) (fun q hq => q8 q (by omega))
      have hk3 : ∀ q, 3 ≤ q → (yt2 ts A1).2.1 q = 0 ∧ (yt2 ts A1).2.2.1 q = [] := fun q hq => by
        rw [(kA q).1, (kA q).2, (p2 q hq).1, (p2 q hq).2]
        exact hk0 q
      have hfA : ∀ q, q ≠ 3 → q ≠ 4 → q ≠ 6 → (yt2 ts A1).1 q = if q = 1 then nI v else f q := fun q a b c => by rw [q4 q a b, p1 q c, hf0]
      have hf4A : A1.1 4 = -1 := by rw [p1 4 (by decide), hf0, if_neg (by decide)]; exact hf
      rw [hf4A] at q1
      have hTA : ∀ q, 17 ≤ q → (ys_tabs ts B1).2.2.2 q = if q = 20 then v else T q := fun q hq => by rw [q8 q (by omega), p3 q (Or.inr hq), hT0]
      generalize yt2 ts A1 = A2 at *
      generalize ys_tabs ts B1 = B2 at *
      rcases yr_W hts hEN g3 (hk3 3 (by decide)).2 (hk3 3 (by decide)).1 (by rw [hTA 17 (by decide), if_neg (by decide)]; exact hT17) with ⟨g4, kw, x4, o4⟩ | ⟨b1, b2⟩
      · have k8 := k7.keep (W' := xp_oW ts A2) (S' := ys_where ts B2) (by rw [xp_oW_f]) (fun q hq => ⟨xp_oW_k (by omega), xp_oW_ss (by omega)⟩) o4 (fun q hq => ys_where_T (by omega) (by omega) (by omega))
        have hk4 : ∀ q, 4 ≤ q → (xp_oW ts A2).2.1 q = 0 ∧ (xp_oW ts A2).2.2.1 q = [] := fun q hq => by
          rw [xp_oW_k (by omega), xp_oW_ss (by omega)]
          exact hk3 q (by omega)
        have hf8 : ∀ q, (xp_oW ts A2).1 q = A2.1 q := fun q => by rw [xp_oW_f]
        have hT8 : ∀ q, q < 17 ∨ 20 ≤ q → (ys_where ts B2).2.2.2 q = B2.2.2.2 q := fun q hq => ys_where_T (by omega) (by omega) (by omega)
        generalize xp_oW ts A2 = A3 at *
        generalize ys_where ts B2 = B3 at *
        rcases yr_G hEN g4 (hk4 4 (by decide)).2 (hk4 4 (by decide)).1 with ⟨g5, kg, x5, o5⟩ | ⟨b1, b2⟩
        · have k9 := k8.keep (W' := xp_a1 ts A3) (S' := ys_group ts B3) (by rw [xp_a1_f]) (fun q hq => xp_a1_k (by omega)) o5 (fun q hq => ys_group_T (by omega) (by omega))
          have kw9 := kw.keep (W' := xp_a1 ts A3) (S' := ys_group ts B3) (xp_a1_k (by decide)).1 (xp_a1_k (by decide)).2 o5 (ys_group_T (by decide) (by decide)) (ys_group_T (by decide) (by decide)) (ys_group_T (by decide) (by decide))
          have hk5 : (xp_a1 ts A3).2.1 5 = 0 ∧ (xp_a1 ts A3).2.2.1 5 = [] := by
            rw [(xp_a1_k (by decide)).1, (xp_a1_k (by decide)).2]
            exact hk4 5 (by decide)
          have hf9 : ∀ q, (xp_a1 ts A3).1 q = A2.1 q := fun q => by rw [xp_a1_f]; exact hf8 q
          have hT9 : ∀ q, q < 17 ∨ q = 20 → (ys_group ts B3).2.2.2 q = B2.2.2.2 q := fun q hq => (ys_group_T (by omega) (by omega)).trans (hT8 q (by omega))
          generalize xp_a1 ts A3 = A4 at *
          generalize ys_group ts B3 = B4 at *
          rcases yr_O hts hEN g5 hk5.2 hk5.1 with ⟨g6, ko, x6, o6⟩ | hb
          · have hTl : ∀ q, q ≠ 23 → q ≠ 22 → q ≠ 8 → q ≠ 12 → q ≠ 16 → (ys_down ts (ys_order ts B4)).2.2.2 q = B4.2.2.2 q := fun q a b c d e => (ys_down_T a).trans (ys_order_T b c d e)
            have hfl : ∀ q, q ≠ 2 → (xp_a2 ts A4).1 q = A2.1 q := fun q hq => (xp_a2_f hq).trans (hf9 q)
            refine Or.inl ⟨g6, ?_, ?_, ?_, ?_, ?_, ?_, ?_, ?_, ko⟩
            · rw [hTl 0 (by decide) (by decide) (by decide) (by decide) (by decide), hTl 2 (by decide) (by decide) (by decide) (by decide) (by decide), hT9 0 (by decide), hT9 2 (by decide), hfl 4 (by decide)]
              exact q1
            · rw [hTl 1 (by decide) (by decide) (by decide) (by decide) (by decide), hT9 1 (by decide)]
              exact q2
            · rw [hTl 1 (by decide) (by decide) (by decide) (by decide) (by decide), hT9 1 (by decide), hfl 3 (by decide)]
              exact q3
            · rw [hTl 20 (by decide) (by decide) (by decide) (by decide) (by decide), hT9 20 (by decide), hTA 20 (by decide), if_pos rfl]
              exact hv
            · rw [hTl 20 (by decide) (by decide) (by decide) (by decide) (by decide), hT9 20 (by decide), hTA 20 (by decide), if_pos rfl, hfl 1 (by decide), hfA 1 (by decide) (by decide) (by decide), if_pos rfl]
            · exact k9.keep (xp_a2_f (by decide)) (fun q hq => xp_a2_k (by omega)) o6 (fun q hq => hTl q (by omega) (by omega) (by omega) (by omega) (by omega))
            · exact kw9.keep (xp_a2_k (by decide)).1 (xp_a2_k (by decide)).2 o6 (hTl 17 (by decide) (by decide) (by decide) (by decide) (by decide)) (hTl 18 (by decide) (by decide) (by decide) (by decide) (by decide)) (hTl 19 (by decide) (by decide) (by decide) (by decide) (by decide))
            · exact kg.keep (xp_a2_k (by decide)).1 (xp_a2_k (by decide)).2 o6 (hTl 21 (by decide) (by decide) (by decide) (by decide) (by decide)) (hTl 24 (by decide) (by decide) (by decide) (by decide) (by decide))
          · exact Or.inr hb
        · exact Or.inr ⟨xq_Mo.a2 ts _ b1, ys_down_b (ys_order_b b2)⟩
      · exact Or.inr ⟨xq_Mo.a2 ts _ (xq_Mo.a1 ts _ b1), ys_down_b (ys_order_b (ys_group_b b2))⟩
    · exact Or.inr ⟨xq_Mo.a2 ts _ (xq_Mo.a1 ts _ (xq_Mo.oW ts _ b1)), ys_down_b (ys_order_b (ys_group_b (ys_where_b b2)))⟩
  · refine Or.inr ⟨xq_Mo.a2 ts _ (xq_Mo.a1 ts _ (xq_Mo.oW ts _ (xq_Mo.tb2 ts _ b1))), ?_⟩
    rw [if_pos b2]
    exact b2
/-- the two readings of a statement -/
theorem stm_all {ts : List (Nat × Int32)} {f : Nat → Int32} {T : Nat → Nat} (hts : ts.length ≤ 81) (hEN : xp_EN ts) (hE2 : ∀ a, a + 1 < ts.length → xp_hd ts a ≠ 36) (hT : T 0 = 0) (hT4 : T 4 = 0) (hT17 : T 17 = 0) (hf : f 4 = -1) :
    (xp_ok ts (xp_parse ts f) = false ∧ (ys_stm ts T).2.1 = true) ∨ (xp_ok ts (xp_parse ts f) = true ∧ (ys_stm ts T).2.1 = false ∧ (∀ t, (xp_parse ts f).2.2.2.2.2.2 t = yc (ys_stm ts T).2.2.1 t) ∧ yk (ys_stm ts T).2.2.1 ∧ ((xp_hd ts 0 = 0 ∧ yQ0 (xp_parse ts f) (ys_stm ts T)) ∨ (xp_hd ts 0 = 1 ∧ yQ1 (xp_parse ts f) (ys_stm ts T)) ∨ (xp_hd ts 0 = 2 ∧ yQ2 (xp_parse ts f) (ys_stm ts T)) ∨ (xp_hd ts 0 = 3 ∧ yQ3 (xp_parse ts f) (ys_stm ts T)))) := by
  have fin : ∀ (W : xp_W) (B : ys_S) (P : Prop), (yg ts W B ∧ P) ∨ ybb W B → (xp_ok ts W = false ∧ (B.2.1 || !decide (B.1 + 1 = ts.length)) = true) ∨ (xp_ok ts W = true ∧ (B.2.1 || !decide (B.1 + 1 = ts.length)) = false ∧ (∀ t, W.2.2.2.2.2.2 t = yc B.2.2.1 t) ∧ yk B.2.2.1 ∧ P) := by
    intro W B P h
    rcases h with ⟨⟨a1, a2, a3, a4, a5, a6, a7⟩, hP⟩ | ⟨b1, b2⟩
    · unfold xp_ok
      rw [a1, a2, a3]
      by_cases e : B.1 + 1 = ts.length
      · have := hEN B.1 e
        rw [this, decide_eq_true e]
        exact Or.inr ⟨rfl, rfl, a4, a5, hP⟩
      · have : xp_hd ts B.1 ≠ 36 := hE2 B.1 (by omega)
        rw [decide_eq_false e, beq_eq_false_iff_ne.mpr this]
        exact Or.inl ⟨rfl, rfl⟩
    · unfold xp_ok
      rw [b1, b2]
      exact Or.inl ⟨rfl, rfl⟩
  have e1 : (ys_stm ts T).2.1 = ((ys_body ts (1, false, [], T)).2.1 || !decide ((ys_body ts (1, false, [], T)).1 + 1 = ts.length)) := rfl
  have e2 : (ys_stm ts T).2.2 = (ys_body ts (1, false, [], T)).2.2 := rfl
  have key : ∀ (W W' : xp_W) (B B' : ys_S), B'.2.2 = B.2.2 → (yQ0 W B → yQ0 W B') ∧ (yQ1 W B → yQ1 W B') ∧ (yQ2 W B → yQ2 W B') ∧ (yQ3 W B → yQ3 W B') := by
    intro W W' B B' e
    have e1 : B'.2.2.1 = B.2.2.1 := by rw [e]
    have e2 : B'.2.2.2 = B.2.2.2 := by rw [e]
    unfold yQ0 yQ1 yQ2 yQ3 yt6 yx ye yw yG yO yx ye
    rw [e1, e2]
    exact ⟨id, id, id, id⟩
  obtain ⟨q0, q1, q2, q3⟩ := key (xp_parse ts f) (xp_parse ts f) (ys_body ts (1, false, [], T)) (ys_stm ts T) e2
  rw [e1, show (ys_stm ts T).2.2.1 = (ys_body ts (1, false, [], T)).2.2.1 from rfl]
  by_cases h0 : xp_hd ts 0 = 0
  · have ep : xp_parse ts f = xp_rI ts (xp_om xp_adv (xp_W0 f)) := by unfold xp_parse; rw [if_pos h0]
    have eb : ys_body ts (1, false, [], T) = ys_ins ts 3 0 (ys_name ts (1, false, [], T)) := by unfold ys_body; rw [if_pos h0]
    have := stm_ins (f := f) hts hEN (by rw [h0]; decide) hT hf
    rw [← ep, ← eb] at this
    rcases fin _ _ _ this with h | ⟨h1, h2, h3, h4, h5⟩
    · exact Or.inl h
    · exact Or.inr ⟨h1, h2, h3, h4, Or.inl ⟨h0, q0 h5⟩⟩
  · by_cases h1 : xp_hd ts 0 = 1
    · have ep : xp_parse ts f = xp_oW ts (xp_rU ts (xp_om xp_adv (xp_W0 f))) := by unfold xp_parse; rw [if_neg h0, if_pos h1]
      have eb : ys_body ts (1, false, [], T) = ys_where ts (ys_upd ts (1, false, [], T)) := by unfold ys_body; rw [if_neg h0, if_pos h1]
      have := stm_upd (f := f) hts hEN (by rw [h1]; decide) hT hT17 hf
      rw [← ep, ← eb] at this
      rcases fin _ _ _ this with h | ⟨k1, k2, k3, k4, k5⟩
      · exact Or.inl h
      · exact Or.inr ⟨k1, k2, k3, k4, Or.inr (Or.inl ⟨h1, q1 k5⟩)⟩
    · by_cases h2 : xp_hd ts 0 = 2
      · have ep : xp_parse ts f = xp_oW ts (xp_oT ts 3 (xp_om xp_adv (xp_W0 f))) := by unfold xp_parse; rw [if_neg h0, if_neg h1, if_pos h2]
        have eb : ys_body ts (1, false, [], T) = ys_where ts (ys_name ts (1, false, [], T)) := by unfold ys_body; rw [if_neg h0, if_neg h1, if_pos h2]
        have := stm_del (f := f) hts hEN (by rw [h2]; decide) hT hT17 hf
        rw [← ep, ← eb] at this
        rcases fin _ _ _ this with h | ⟨k1, k2, k3, k4, k5⟩
        · exact Or.inl h
        · exact Or.inr ⟨k1, k2, k3, k4, Or.inr (Or.inr (Or.inl ⟨h2, q2 k5⟩))⟩
      · by_cases h3 : xp_hd ts 0 = 3
        · have ep : xp_parse ts f = xp_rA ts (xp_oW ts (xp_rS ts (xp_om xp_adv (xp_W0 f)))) := by unfold xp_parse; rw [if_neg h0, if_neg h1, if_neg h2, if_pos h3]
          have eb : ys_body ts (1, false, [], T) = ys_sel ts (1, false, [], T) := by unfold ys_body; rw [if_neg h0, if_neg h1, if_neg h2, if_pos h3]
          have := stm_sel (f := f) hts hEN (by rw [h3]; decide) hT hT4 hT17 hf
          rw [← ep, ← eb] at this
          rcases fin _ _ _ this with h | ⟨k1, k2, k3, k4, k5⟩
          · exact Or.inl h
          · exact Or.inr ⟨k1, k2, k3, k4, Or.inr (Or.inr (Or.inr ⟨h3, q3 k5⟩))⟩
        · have ep : xp_parse ts f = xp_om xp_bad (xp_W0 f) := by unfold xp_parse; rw [if_neg h0, if_neg h1, if_neg h2, if_neg h3]
          have eb : ys_body ts (1, false, [], T) = (1, true, [], T) := by unfold ys_body; rw [if_neg h0, if_neg h1, if_neg h2, if_neg h3]
          refine Or.inl ⟨?_, by rw [eb]; rfl⟩
          rw [ep]
          rfl
