/-! statements: where, group, order -/
def yw (W : xp_W) (S : ys_S) : Prop := (W.2.1 3 = 0 ∧ S.2.2.2 17 = 0) ∨ (W.2.1 3 = 1 ∧ S.2.2.2 17 = 1 ∧ ∃ cm, yv_B (W.2.2.1 3) cm ∧ yz S.2.2.1 (S.2.2.2 18) (S.2.2.2 19) cm)
theorem yw.keep {W W' : xp_W} {S S' : ys_S} {x : yp_O} (h : yw W S) (hk : W'.2.1 3 = W.2.1 3) (hs : W'.2.2.1 3 = W.2.2.1 3) (ho : S'.2.2.1 = S.2.2.1 ++ x) (h1 : S'.2.2.2 17 = S.2.2.2 17) (h2 : S'.2.2.2 18 = S.2.2.2 18) (h3 : S'.2.2.2 19 = S.2.2.2 19) : yw W' S' := by
  unfold yw
  rw [hk, h1]
  rcases h with h | ⟨a, b, cm, c, d⟩
  · exact Or.inl h
  · refine Or.inr ⟨a, b, cm, by rw [hs]; exact c, ?_⟩
    rw [ho, h2, h3]
    exact d.app
def yG (W : xp_W) (S : ys_S) : Prop := (W.2.1 4 = 0 ∧ S.2.2.2 21 = 0) ∨ (W.2.1 4 = 1 ∧ S.2.2.2 21 = 1 ∧ ∃ cm, yv_E (W.2.2.1 4) cm ∧ yz S.2.2.1 (S.2.2.2 24) (S.2.2.2 24 + 1) cm)
theorem yG.keep {W W' : xp_W} {S S' : ys_S} {x : yp_O} (h : yG W S) (hk : W'.2.1 4 = W.2.1 4) (hs : W'.2.2.1 4 = W.2.2.1 4) (ho : S'.2.2.1 = S.2.2.1 ++ x) (h1 : S'.2.2.2 21 = S.2.2.2 21) (h2 : S'.2.2.2 24 = S.2.2.2 24) : yG W' S' := by
  unfold yG
  rw [hk, h1]
  rcases h with h | ⟨a, b, cm, c, d⟩
  · exact Or.inl h
  · refine Or.inr ⟨a, b, cm, by rw [hs]; exact c, ?_⟩
    rw [ho, h2]
    exact d.app
def yO (W : xp_W) (S : ys_S) : Prop := (W.2.1 5 = 0 ∧ S.2.2.2 22 = 0) ∨ (S.2.2.2 22 = 1 ∧ yx W S 5 12 16 8 ∧ S.2.2.2 23 ≤ 1 ∧ W.1 2 = nI (S.2.2.2 23))
theorem xp_oW_f {ts : List (Nat × Int32)} {W : xp_W} : (xp_oW ts W).1 = W.1 := by
  unfold xp_oW
  split <;> rfl
theorem xp_oW_k {ts : List (Nat × Int32)} {W : xp_W} {q : Nat} (h : q ≠ 3) : (xp_oW ts W).2.1 q = W.2.1 q := by
  unfold xp_oW
  split
  · exact if_neg h
  · rfl
theorem ys_where_T {ts : List (Nat × Int32)} {S : ys_S} {q : Nat} (h1 : q ≠ 17) (h2 : q ≠ 18) (h3 : q ≠ 19) : (ys_where ts S).2.2.2 q = S.2.2.2 q := by
  unfold ys_where
  split
  · show yt (yt (yt S.2.2.2 17 1) 18 _) 19 _ q = _
    rw [yt_o h3, yt_o h2, yt_o h1]
  · rfl
theorem ys_term_T {ts : List (Nat × Int32)} {S : ys_S} {i q : Nat} {c : Bool} (h1 : q ≠ 5 + i) (h2 : q ≠ 9 + i) (h3 : q ≠ 13 + i) : (ys_term ts i c S).2.2.2 q = S.2.2.2 q := by
  show yt (yt (yt S.2.2.2 (5 + i) _) (9 + i) _) (13 + i) _ q = _
  rw [yt_o h3, yt_o h2, yt_o h1]
theorem yr_W {ts : List (Nat × Int32)} {W : xp_W} {S : ys_S} (hts : ts.length ≤ 81) (hEN : xp_EN ts) (h : yg ts W S) (hj : W.2.2.1 3 = []) (hk : W.2.1 3 = 0) (hT : S.2.2.2 17 = 0) :
    (yg ts (xp_oW ts W) (ys_where ts S) ∧ yw (xp_oW ts W) (ys_where ts S) ∧ ∃ x, (ys_where ts S).2.2.1 = S.2.2.1 ++ x) ∨ ybb (xp_oW ts W) (ys_where ts S) := by
  have h0 := h
  obtain ⟨h1, h2, h3, h4, h5, h6, h7⟩ := h
  by_cases hh : xp_hd ts S.1 = 6
  · have e1 : xp_oW ts W = xp_oc 3 1 (xp_C ts 6 (xp_cin 3 (xp_om xp_adv W))) (xp_om xp_adv W) := by
      unfold xp_oW
      rw [if_pos (by rw [h3]; exact hh)]
    have e2 : ys_where ts S = ((yc_co ts (S.1 + 1) S.2.2.1).1, (yc_co ts (S.1 + 1) S.2.2.1).2.1, (yc_co ts (S.1 + 1) S.2.2.1).2.2, yt (yt (yt S.2.2.2 17 1) 18 S.2.2.1.length) 19 (yc_co ts (S.1 + 1) S.2.2.1).2.2.length) := by
      unfold ys_where
      rw [if_pos ⟨h2, hh⟩]
    have hlt := hEN.lt (a := S.1) (by rw [hh]; decide)
    have ea : (xp_cin 3 (xp_om xp_adv W)).1 = S.1 + 1 := by show W.2.2.2.1 + 1 = _; rw [h3]
    obtain ⟨s1, s2⟩ := yc_co_sim hts (xp_cin 3 (xp_om xp_adv W)) S.2.2.1 h1 (by rw [ea]; omega) (by rw [ea]; omega)
    obtain ⟨g1, g2, -⟩ := xp_Gr.C ts 6 (xp_cin 3 (xp_om xp_adv W)) (by rw [ea]; omega)
    have gL := xp_Lt.C hEN 6 (xp_cin 3 (xp_om xp_adv W)) (by rw [ea]; exact hlt)
    rw [ea] at s1 s2 g1
    rw [e1]
    cases hb : (xp_C ts 6 (xp_cin 3 (xp_om xp_adv W))).2.1 with
    | true =>
      refine Or.inr ⟨hb, ?_⟩
      rw [e2]
      exact s2 hb
    | false =>
      obtain ⟨c, cm, k1, k2, k3⟩ := s1 hb
      rw [k3] at e2
      rw [e2]
      refine Or.inl ⟨⟨hb, rfl, rfl, fun t => ?_, yk_app h5 k2.2.2, gL, by show 1 ≤ (xp_C ts 6 (xp_cin 3 (xp_om xp_adv W))).1; omega⟩, Or.inr ⟨(by show (if 3 = 3 then 1 else W.2.1 3) = 1; exact if_pos rfl), ?_, cm, ?_, ?_⟩, cm, rfl⟩
      · show (xp_C ts 6 (xp_cin 3 (xp_om xp_adv W))).2.2.2 t = yc (S.2.2.1 ++ cm) t
        rw [yc_app, ← h4]
        exact k2.2.1 t
      · dsimp only
        rw [yt_o (by decide), yt_o (by decide), yt_s]
      · show yv_B (if 3 = 3 then (xp_C ts 6 (xp_cin 3 (xp_om xp_adv W))).2.2.1 else W.2.2.1 3) cm
        rw [if_pos rfl, k2.1]
        show yv_B (W.2.2.1 3 ++ c) cm
        rw [hj]
        exact k1
      · dsimp only
        rw [yt_o (by decide), yt_s, yt_s]
        exact yz.new _ _
  · have e1 : xp_oW ts W = W := by
      unfold xp_oW
      rw [if_neg (by rw [h3]; exact hh)]
    have e2 : ys_where ts S = S := by
      unfold ys_where
      rw [if_neg (fun z => hh z.2)]
    rw [e1, e2]
    exact Or.inl ⟨h0, Or.inl ⟨hk, hT⟩, [], by rw [List.append_nil]⟩
theorem yp_ca_lt {ts : List (Nat × Int32)} (hEN : xp_EN ts) {a : Nat} (ha : a < ts.length) (hcx : yp_cx ts a = false) : yp_ca ts a < ts.length := by
  have := xp_Lt.col hEN (a, false, [], fun _ => false) ha
  rw [xp_col_ok rfl hcx] at this
  exact this
theorem yr_G {ts : List (Nat × Int32)} {W : xp_W} {S : ys_S} (hEN : xp_EN ts) (h : yg ts W S) (hj : W.2.2.1 4 = []) (hk : W.2.1 4 = 0) :
    (yg ts (xp_a1 ts W) (ys_group ts S) ∧ yG (xp_a1 ts W) (ys_group ts S) ∧ ∃ x, (ys_group ts S).2.2.1 = S.2.2.1 ++ x) ∨ ybb (xp_a1 ts W) (ys_group ts S) := by
  have h0 := h
  obtain ⟨h1, h2, h3, h4, h5, h6, h7⟩ := h
  by_cases hh : xp_hd ts S.1 = 7
  · have e1 : xp_a1 ts W = xp_oc 4 1 (xp_col ts (xp_cin 4 (xp_om xp_adv W))) (xp_om xp_adv W) := by
      unfold xp_a1
      rw [if_pos (by rw [h3]; exact hh)]
    have e2 : ys_group ts S = (yp_ca ts (S.1 + 1), yp_cx ts (S.1 + 1), S.2.2.1 ++ [(2, nI (yp_co ts (S.1 + 1)))], yt (yt S.2.2.2 21 1) 24 S.2.2.1.length) := by
      unfold ys_group
      rw [if_pos ⟨h2, hh⟩]
    have hlt := hEN.lt (a := S.1) (by rw [hh]; decide)
    have ea : (xp_cin 4 (xp_om xp_adv W)).1 = S.1 + 1 := by show W.2.2.2.1 + 1 = _; rw [h3]
    obtain ⟨hco, hco4⟩ := yp_co_lt ts (S.1 + 1)
    rw [e1, e2]
    cases hcx : yp_cx ts (S.1 + 1) with
    | true => exact Or.inr ⟨xp_col_bad (m := xp_cin 4 (xp_om xp_adv W)) h1 (by rw [ea]; exact hcx), rfl⟩
    | false =>
      have ec := xp_col_ok (m := xp_cin 4 (xp_om xp_adv W)) h1 (by rw [ea]; exact hcx)
      rw [ea] at ec
      have hge := yp_ca_ge ts (S.1 + 1)
      refine Or.inl ⟨⟨?_, rfl, ?_, fun t => ?_, yk_app h5 (fun q hq _ => ⟨yp_co ts (S.1 + 1), hco, by rw [List.mem_singleton.mp hq]⟩), yp_ca_lt hEN hlt hcx, by show 1 ≤ yp_ca ts (S.1 + 1); omega⟩, Or.inr ⟨(by show (if 4 = 4 then 1 else W.2.1 4) = 1; exact if_pos rfl), ?_, [(2, nI (yp_co ts (S.1 + 1)))], ?_, ?_⟩, _, rfl⟩
      · show (xp_col ts (xp_cin 4 (xp_om xp_adv W))).2.1 = false
        rw [ec]
      · show (xp_col ts (xp_cin 4 (xp_om xp_adv W))).1 = _
        rw [ec]
      · show (xp_col ts (xp_cin 4 (xp_om xp_adv W))).2.2.2 t = yc (S.2.2.1 ++ [(2, nI (yp_co ts (S.1 + 1)))]) t
        rw [ec, yc_app, ← h4]
        show (if t = yp_ct ts (S.1 + 1) then true else W.2.2.2.2.2.2 t) = _
        have : yc [(2, nI (yp_co ts (S.1 + 1)))] t = decide (yp_ct ts (S.1 + 1) = t) := by
          unfold yc
          rw [List.any_cons, List.any_nil, Bool.or_false, nI_clamp (by omega), hco4]
          by_cases e : yp_ct ts (S.1 + 1) = t
          · rw [e]; simp
          · simp [e]
        rw [this]
        by_cases e : t = yp_ct ts (S.1 + 1)
        · rw [if_pos e, e]; simp
        · rw [if_neg e, decide_eq_false (fun z => e z.symm), Bool.or_false]
      · dsimp only
        rw [yt_o (by decide), yt_s]
      · show yv_E (if 4 = 4 then (xp_col ts (xp_cin 4 (xp_om xp_adv W))).2.2.1 else W.2.2.1 4) _
        rw [if_pos rfl, ec]
        show yv_E (W.2.2.1 4 ++ [(34, nI (yp_co ts (S.1 + 1)))]) _
        rw [hj]
        exact yv_E.col hco
      · show yz (S.2.2.1 ++ [(2, nI (yp_co ts (S.1 + 1)))]) (yt (yt S.2.2.2 21 1) 24 S.2.2.1.length 24) (yt (yt S.2.2.2 21 1) 24 S.2.2.1.length 24 + 1) _
        rw [yt_s]
        have := yz.new S.2.2.1 [(2, nI (yp_co ts (S.1 + 1)))]
        rw [List.length_append] at this
        exact this
  · have e1 : xp_a1 ts W = W := by
      unfold xp_a1
      rw [if_neg (by rw [h3]; exact hh)]
    have e2 : ys_group ts S = (S.1, S.2.1, S.2.2.1, yt S.2.2.2 21 0) := by
      unfold ys_group
      rw [if_neg (fun z => hh z.2)]
    rw [e1, e2]
    exact Or.inl ⟨h0, Or.inl ⟨hk, (by show yt S.2.2.2 21 0 21 = 0; exact yt_s)⟩, [], by rw [List.append_nil]⟩
theorem yr_O {ts : List (Nat × Int32)} {W : xp_W} {S : ys_S} (hts : ts.length ≤ 81) (hEN : xp_EN ts) (h : yg ts W S) (hj : W.2.2.1 5 = []) (hk : W.2.1 5 = 0) :
    (yg ts (xp_a2 ts W) (ys_down ts (ys_order ts S)) ∧ yO (xp_a2 ts W) (ys_down ts (ys_order ts S)) ∧ ∃ x, (ys_down ts (ys_order ts S)).2.2.1 = S.2.2.1 ++ x) ∨ ybb (xp_a2 ts W) (ys_down ts (ys_order ts S)) := by
  have h0 := h
  obtain ⟨h1, h2, h3, h4, h5, h6, h7⟩ := h
  by_cases hh : xp_hd ts S.1 = 8
  · have e2 : ys_order ts S = ys_term ts 3 true (S.1 + 1, S.2.1, S.2.2.1, yt S.2.2.2 22 1) := by
      unfold ys_order
      rw [if_pos ⟨h2, hh⟩]
    have hg : yg ts (xp_om xp_adv W) (S.1 + 1, S.2.1, S.2.2.1, yt S.2.2.2 22 1) := yr_T (yr_adv hEN h0 (by rw [hh]; decide)) _
    have e1 : xp_a2 ts W = if xp_hd ts (xp_oX ts 5 (xp_om xp_adv W)).2.2.2.1 = 9 then xp_sf 2 1 (xp_om xp_adv (xp_oX ts 5 (xp_om xp_adv W))) else xp_sf 2 0 (xp_oX ts 5 (xp_om xp_adv W)) := by
      unfold xp_a2
      rw [if_pos (by rw [h3]; exact hh)]
    have e22 : (ys_term ts 3 true (S.1 + 1, S.2.1, S.2.2.1, yt S.2.2.2 22 1)).2.2.2 22 = 1 := by
      rw [ys_term_T (by decide) (by decide) (by decide)]
      show yt S.2.2.2 22 1 22 = 1
      exact yt_s
    rcases yr_X (i := 3) (j := 5) hts hEN hg hj with ⟨k1, k2, x, k3⟩ | ⟨b1, b2⟩
    · rw [e1, e2]
      have ha : (xp_oX ts 5 (xp_om xp_adv W)).2.2.2.1 = (ys_term ts 3 true (S.1 + 1, S.2.1, S.2.2.1, yt S.2.2.2 22 1)).1 := k1.2.2.1
      rw [ha]
      by_cases h9 : xp_hd ts (ys_term ts 3 true (S.1 + 1, S.2.1, S.2.2.1, yt S.2.2.2 22 1)).1 = 9
      · have ed : ys_down ts (ys_term ts 3 true (S.1 + 1, S.2.1, S.2.2.1, yt S.2.2.2 22 1)) = ((ys_term ts 3 true (S.1 + 1, S.2.1, S.2.2.1, yt S.2.2.2 22 1)).1 + 1, (ys_term ts 3 true (S.1 + 1, S.2.1, S.2.2.1, yt S.2.2.2 22 1)).2.1, (ys_term ts 3 true (S.1 + 1, S.2.1, S.2.2.1, yt S.2.2.2 22 1)).2.2.1, yt (ys_term ts 3 true (S.1 + 1, S.2.1, S.2.2.1, yt S.2.2.2 22 1)).2.2.2 23 1) := by
          unfold ys_down
          rw [if_pos ⟨e22, k1.2.1, h9⟩]
        rw [if_pos h9, ed]
        refine Or.inl ⟨yr_T (yr_sf (yr_adv hEN k1 (by rw [h9]; decide)) 2 1) _, Or.inr ⟨?_, k2.keep (x := []) rfl rfl (by rw [List.append_nil]) ?_ ?_ ?_, ?_, ?_⟩, x, k3⟩
        · dsimp only
          rw [yt_o (by decide)]; exact e22
        · show yt _ 23 1 12 = _
          exact yt_o (by decide)
        · show yt _ 23 1 16 = _
          exact yt_o (by decide)
        · show yt _ 23 1 8 = _
          exact yt_o (by decide)
        · dsimp only
          rw [yt_s]; exact Nat.le_refl _
        · rfl
      · have ed : ys_down ts (ys_term ts 3 true (S.1 + 1, S.2.1, S.2.2.1, yt S.2.2.2 22 1)) = ((ys_term ts 3 true (S.1 + 1, S.2.1, S.2.2.1, yt S.2.2.2 22 1)).1, (ys_term ts 3 true (S.1 + 1, S.2.1, S.2.2.1, yt S.2.2.2 22 1)).2.1, (ys_term ts 3 true (S.1 + 1, S.2.1, S.2.2.1, yt S.2.2.2 22 1)).2.2.1, yt (ys_term ts 3 true (S.1 + 1, S.2.1, S.2.2.1, yt S.2.2.2 22 1)).2.2.2 23 0) := by
          unfold ys_down
          rw [if_neg (fun z => h9 z.2.2)]
        rw [if_neg h9, ed]
        refine Or.inl ⟨yr_T (yr_sf k1 2 0) _, Or.inr ⟨?_, k2.keep (x := []) rfl rfl (by rw [List.append_nil]) ?_ ?_ ?_, ?_, ?_⟩, x, k3⟩
        · dsimp only
          rw [yt_o (by decide)]; exact e22
        · show yt _ 23 0 12 = _
          exact yt_o (by decide)
        · show yt _ 23 0 16 = _
          exact yt_o (by decide)
        · show yt _ 23 0 8 = _
          exact yt_o (by decide)
        · dsimp only
          rw [yt_s]; exact Nat.zero_le _
        · rfl
    · refine Or.inr ⟨?_, ?_⟩
      · rw [e1]
        split
        · exact b1
        · exact b1
      · rw [e2]
        exact ys_down_b b2
  · have e1 : xp_a2 ts W = W := by
      unfold xp_a2
      rw [if_neg (by rw [h3]; exact hh)]
    have e2 : ys_order ts S = (S.1, S.2.1, S.2.2.1, yt S.2.2.2 22 0) := by
      unfold ys_order
      rw [if_neg (fun z => hh z.2)]
    have ed : ys_down ts (S.1, S.2.1, S.2.2.1, yt S.2.2.2 22 0) = (S.1, S.2.1, S.2.2.1, yt (yt S.2.2.2 22 0) 23 0) := by
      unfold ys_down
      rw [if_neg (fun z => by have := z.1; change yt S.2.2.2 22 0 22 = 1 at this; rw [yt_s] at this; cases this)]
    rw [e1, e2, ed]
    refine Or.inl ⟨h0, Or.inl ⟨hk, ?_⟩, [], by rw [List.append_nil]⟩
    show yt (yt S.2.2.2 22 0) 23 0 22 = 0
    rw [yt_o (by decide), yt_s]
