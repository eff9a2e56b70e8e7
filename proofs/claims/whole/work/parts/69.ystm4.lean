/-! statements: insert, update, delete -/
def yQ0 (W : xp_W) (S : ys_S) : Prop := S.2.2.2 0 = 1 ∧ S.2.2.2 1 < 2 ∧ W.1 3 = nI (S.2.2.2 1) ∧ W.1 4 = -1 ∧ ye W S 0 9 13 ∧ ye W S 1 10 14 ∧ ye W S 2 11 15
def yQ1 (W : xp_W) (S : ys_S) : Prop := S.2.2.2 0 = 1 ∧ S.2.2.2 1 < 2 ∧ W.1 3 = nI (S.2.2.2 1) ∧ W.1 4 = -1 ∧ (S.2.2.2 3 = 1 ∨ S.2.2.2 3 = 2) ∧ W.1 5 = nI (S.2.2.2 3) ∧ ye W S 0 9 13 ∧ yw W S
def yQ2 (W : xp_W) (S : ys_S) : Prop := S.2.2.2 0 = 1 ∧ S.2.2.2 1 < 2 ∧ W.1 3 = nI (S.2.2.2 1) ∧ W.1 4 = -1 ∧ yw W S
theorem yg_0 {ts : List (Nat × Int32)} {f : Nat → Int32} {T : Nat → Nat} (hEN : xp_EN ts) (h0 : xp_hd ts 0 ≠ 36) : yg ts (xp_om xp_adv (xp_W0 f)) (1, false, [], T) :=
  ⟨rfl, rfl, rfl, fun _ => rfl, (fun q hq => by cases hq), hEN.lt h0, Nat.le_refl _⟩
theorem xp_oE_ss {ts : List (Nat × Int32)} {j q : Nat} {W : xp_W} (h : q ≠ j) : (xp_oE ts j W).2.2.1 q = W.2.2.1 q := if_neg h
theorem xp_oE_k {ts : List (Nat × Int32)} {j q : Nat} {W : xp_W} : (xp_oE ts j W).2.1 q = W.2.1 q := xp_iteS.symm
theorem xp_oX_ss {ts : List (Nat × Int32)} {j q : Nat} {W : xp_W} (h : q ≠ j) : (xp_oX ts j W).2.2.1 q = W.2.2.1 q := if_neg h
theorem xp_oX_k {ts : List (Nat × Int32)} {j q : Nat} {W : xp_W} (h : q ≠ j) : (xp_oX ts j W).2.1 q = W.2.1 q := if_neg h
theorem stm_ins {ts : List (Nat × Int32)} {f : Nat → Int32} {T : Nat → Nat} (hts : ts.length ≤ 81) (hEN : xp_EN ts) (h0 : xp_hd ts 0 ≠ 36) (hT : T 0 = 0) (hf : f 4 = -1) :
    (yg ts (xp_rI ts (xp_om xp_adv (xp_W0 f))) (ys_ins ts 3 0 (ys_name ts (1, false, [], T))) ∧ yQ0 (xp_rI ts (xp_om xp_adv (xp_W0 f))) (ys_ins ts 3 0 (ys_name ts (1, false, [], T)))) ∨ ybb (xp_rI ts (xp_om xp_adv (xp_W0 f))) (ys_ins ts 3 0 (ys_name ts (1, false, [], T))) := by
  unfold xp_rI
  have m22 : xq_Mo (xp_om (xp_need ts 22)) := .om (xp_Mo.need ts 22)
  rcases yr_name (i := 3) hEN (yg_0 (f := f) (T := T) hEN h0) with ⟨g1, n1, n2, n3⟩ | ⟨b1, b2⟩
  · have hA1 : ∀ j, (xp_oT ts 3 (xp_om xp_adv (xp_W0 f))).2.2.1 j = [] := fun j => rfl
    have hF : ∀ q, (xp_oT ts 3 (xp_om xp_adv (xp_W0 f))).1 q = if q = 3 then nI (xp_hd ts 1 - 19) else f q := fun q => by rw [n2]; rfl
    have hB1 : (ys_name ts (1, false, [], T)).2.2.2 0 = 1 ∧ (ys_name ts (1, false, [], T)).2.2.2 1 = xp_hd ts 1 - 19 := by
      rw [n3]
      dsimp only
      rw [hT]
      exact ⟨yt_s, by rw [yt_o (by decide)]; exact yt_s⟩
    generalize xp_oT ts 3 (xp_om xp_adv (xp_W0 f)) = A1 at *
    generalize ys_name ts (1, false, [], T) = B1 at *
    rw [ys_ins, if_neg (by rw [g1.2.1]; decide), if_pos (by decide)]
    rcases yr_E (j := 0) hts hEN g1 (hA1 0) with ⟨g2, e0, x0, o0⟩ | ⟨b1, b2⟩
    · have hA2 : ∀ j, j ≠ 0 → (xp_oE ts 0 A1).2.2.1 j = [] := fun j hj => by rw [xp_oE_ss hj]; exact hA1 j
      have hF2 : (xp_oE ts 0 A1).1 = A1.1 := rfl
      have hT2 : ∀ q, q < 5 → (ys_term ts 0 false B1).2.2.2 q = B1.2.2.2 q := fun q hq => ys_term_T (by omega) (by omega) (by omega)
      generalize xp_oE ts 0 A1 = A2 at *
      generalize ys_term ts 0 false B1 = B2 at *
      rcases yr_need (t := 22) hEN g2 (by decide) with ⟨g3, -, w3, s3⟩ | ⟨b1, b2⟩
      · rw [w3] at g3 ⊢
        rw [s3] at g3 ⊢
        rw [ys_ins, if_neg (by rw [g3.2.1]; decide), if_pos (by decide)]
        have e0' : ye (xp_om xp_adv A2) (B2.1 + 1, B2.2) 0 9 13 := e0
        rcases yr_E (j := 1) hts hEN g3 (hA2 1 (by decide)) with ⟨g4, e1, x1, o1⟩ | ⟨b1, b2⟩
        · have e0'' := e0'.keep (W' := xp_oE ts 1 (xp_om xp_adv A2)) (xp_oE_ss (by decide)) o1 (ys_term_T (by decide) (by decide) (by decide)) (ys_term_T (by decide) (by decide) (by decide))
          have hA4 : (xp_oE ts 1 (xp_om xp_adv A2)).2.2.1 2 = [] := by rw [xp_oE_ss (by decide)]; exact hA2 2 (by decide)
          have hF4 : (xp_oE ts 1 (xp_om xp_adv A2)).1 = A1.1 := hF2
          have hT4 : ∀ q, q < 5 → (ys_term ts 1 false (B2.1 + 1, B2.2)).2.2.2 q = B1.2.2.2 q := fun q hq => (ys_term_T (by omega) (by omega) (by omega)).trans (hT2 q hq)
          generalize xp_oE ts 1 (xp_om xp_adv A2) = A4 at *
          generalize ys_term ts 1 false (B2.1 + 1, B2.2) = B4 at *
          rcases yr_need (t := 22) hEN g4 (by decide) with ⟨g5, -, w5, s5⟩ | ⟨b1, b2⟩
          · rw [w5] at g5 ⊢
            rw [s5] at g5 ⊢
            rw [ys_ins, if_neg (by rw [g5.2.1]; decide), if_neg (by decide), ys_ins]
            have e05 : ye (xp_om xp_adv A4) (B4.1 + 1, B4.2) 0 9 13 := e0''
            have e15 : ye (xp_om xp_adv A4) (B4.1 + 1, B4.2) 1 10 14 := e1
            rcases yr_E (j := 2) hts hEN g5 hA4 with ⟨g6, e2, x2, o2⟩ | ⟨b1, b2⟩
            · have t6 : ∀ q, q < 5 → (ys_term ts 2 false (B4.1 + 1, B4.2)).2.2.2 q = B1.2.2.2 q := fun q hq => (ys_term_T (by omega) (by omega) (by omega)).trans (hT4 q hq)
              have f6 : (xp_oE ts 2 (xp_om xp_adv A4)).1 = A1.1 := hF4
              refine Or.inl ⟨g6, ?_, ?_, ?_, ?_, ?_, ?_, e2⟩
              · rw [t6 0 (by decide)]; exact hB1.1
              · rw [t6 1 (by decide), hB1.2]; exact n1
              · rw [t6 1 (by decide), hB1.2, f6, hF, if_pos rfl]
              · rw [f6, hF, if_neg (by decide)]; exact hf
              · exact e05.keep (xp_oE_ss (by decide)) o2 (ys_term_T (by decide) (by decide) (by decide)) (ys_term_T (by decide) (by decide) (by decide))
              · exact e15.keep (xp_oE_ss (by decide)) o2 (ys_term_T (by decide) (by decide) (by decide)) (ys_term_T (by decide) (by decide) (by decide))
            · exact Or.inr ⟨b1, b2⟩
          · exact Or.inr ⟨xq_Mo.oE ts 2 _ b1, ys_ins_b b2 _ _⟩
        · exact Or.inr ⟨xq_Mo.oE ts 2 _ (m22 _ b1), ys_ins_b (ys_need_b b2) _ _⟩
      · exact Or.inr ⟨xq_Mo.oE ts 2 _ (m22 _ (xq_Mo.oE ts 1 _ b1)), ys_ins_b b2 _ _⟩
    · exact Or.inr ⟨xq_Mo.oE ts 2 _ (m22 _ (xq_Mo.oE ts 1 _ (m22 _ b1))), ys_ins_b (ys_need_b b2) _ _⟩
  · exact Or.inr ⟨xq_Mo.oE ts 2 _ (m22 _ (xq_Mo.oE ts 1 _ (m22 _ (xq_Mo.oE ts 0 _ b1)))), ys_ins_b b2 _ _⟩
theorem stm_del {ts : List (Nat × Int32)} {f : Nat → Int32} {T : Nat → Nat} (hts : ts.length ≤ 81) (hEN : xp_EN ts) (h0 : xp_hd ts 0 ≠ 36) (hT : T 0 = 0) (hT17 : T 17 = 0) (hf : f 4 = -1) :
    (yg ts (xp_oW ts (xp_oT ts 3 (xp_om xp_adv (xp_W0 f)))) (ys_where ts (ys_name ts (1, false, [], T))) ∧ yQ2 (xp_oW ts (xp_oT ts 3 (xp_om xp_adv (xp_W0 f)))) (ys_where ts (ys_name ts (1, false, [], T)))) ∨ ybb (xp_oW ts (xp_oT ts 3 (xp_om xp_adv (xp_W0 f)))) (ys_where ts (ys_name ts (1, false, [], T))) := by
  rcases yr_name (i := 3) hEN (yg_0 (f := f) (T := T) hEN h0) with ⟨g1, n1, n2, n3⟩ | ⟨b1, b2⟩
  · have hA1 : (xp_oT ts 3 (xp_om xp_adv (xp_W0 f))).2.2.1 3 = [] := rfl
    have hK1 : (xp_oT ts 3 (xp_om xp_adv (xp_W0 f))).2.1 3 = 0 := rfl
    have hF : ∀ q, (xp_oT ts 3 (xp_om xp_adv (xp_W0 f))).1 q = if q = 3 then nI (xp_hd ts 1 - 19) else f q := fun q => by rw [n2]; rfl
    have hB1 : (ys_name ts (1, false, [], T)).2.2.2 0 = 1 ∧ (ys_name ts (1, false, [], T)).2.2.2 1 = xp_hd ts 1 - 19 ∧ (ys_name ts (1, false, [], T)).2.2.2 17 = 0 := by
      rw [n3]
      dsimp only
      rw [hT]
      exact ⟨yt_s, by rw [yt_o (by decide)]; exact yt_s, by rw [yt_o (by decide), yt_o (by decide)]; exact hT17⟩
    generalize xp_oT ts 3 (xp_om xp_adv (xp_W0 f)) = A1 at *
    generalize ys_name ts (1, false, [], T) = B1 at *
    rcases yr_W hts hEN g1 hA1 hK1 hB1.2.2 with ⟨g2, k2, x, o2⟩ | ⟨b1, b2⟩
    · refine Or.inl ⟨g2, ?_, ?_, ?_, ?_, k2⟩
      · rw [ys_where_T (by decide) (by decide) (by decide)]; exact hB1.1
      · rw [ys_where_T (by decide) (by decide) (by decide), hB1.2.1]; exact n1
      · rw [ys_where_T (by decide) (by decide) (by decide), hB1.2.1, xp_oW_f, hF, if_pos rfl]
      · rw [xp_oW_f, hF, if_neg (by decide)]; exact hf
    · exact Or.inr ⟨b1, b2⟩
  · exact Or.inr ⟨xq_Mo.oW ts _ b1, ys_where_b b2⟩
theorem yr_up1 {ts : List (Nat × Int32)} {W : xp_W} {S : ys_S} (hEN : xp_EN ts) (h : yg ts W S) :
    (∃ c, (c = 1 ∨ c = 2) ∧ yg ts (if xp_hd ts W.2.2.2.1 = 16 then xp_sf 5 1 (xp_om xp_adv W) else xp_om (xp_need ts 17) (xp_sf 5 2 W)) (ys_up1 ts S) ∧ (if xp_hd ts W.2.2.2.1 = 16 then xp_sf 5 1 (xp_om xp_adv W) else xp_om (xp_need ts 17) (xp_sf 5 2 W)) = xp_sf 5 (nI c) (xp_om xp_adv W) ∧ ys_up1 ts S = (S.1 + 1, S.2.1, S.2.2.1, yt S.2.2.2 3 c)) ∨ ybb (if xp_hd ts W.2.2.2.1 = 16 then xp_sf 5 1 (xp_om xp_adv W) else xp_om (xp_need ts 17) (xp_sf 5 2 W)) (ys_up1 ts S) := by
  have h0 := h
  obtain ⟨h1, h2, h3, h4, h5, h6, h7⟩ := h
  by_cases h16 : xp_hd ts S.1 = 16
  · have e1 : (if xp_hd ts W.2.2.2.1 = 16 then xp_sf 5 1 (xp_om xp_adv W) else xp_om (xp_need ts 17) (xp_sf 5 2 W)) = xp_sf 5 (nI 1) (xp_om xp_adv W) := by
      rw [if_pos (by rw [h3]; exact h16)]
      rfl
    have e2 : ys_up1 ts S = (S.1 + 1, S.2.1, S.2.2.1, yt S.2.2.2 3 1) := by
      unfold ys_up1
      rw [h16, h2]
      rfl
    rw [e1, e2]
    exact Or.inl ⟨1, Or.inl rfl, yr_T (yr_sf (yr_adv hEN h0 (by rw [h16]; decide)) 5 _) _, rfl, rfl⟩
  · by_cases h17 : xp_hd ts S.1 = 17
    · have e1 : (if xp_hd ts W.2.2.2.1 = 16 then xp_sf 5 1 (xp_om xp_adv W) else xp_om (xp_need ts 17) (xp_sf 5 2 W)) = xp_sf 5 (nI 2) (xp_om xp_adv W) := by
        rw [if_neg (by rw [h3]; exact h16)]
        unfold xp_om xp_need xp_sf
        dsimp only
        rw [if_pos (by rw [h3]; exact h17)]
        rfl
      have e2 : ys_up1 ts S = (S.1 + 1, S.2.1, S.2.2.1, yt S.2.2.2 3 2) := by
        unfold ys_up1
        rw [h17, h2]
        rfl
      rw [e1, e2]
      exact Or.inl ⟨2, Or.inr rfl, yr_T (yr_sf (yr_adv hEN h0 (by rw [h17]; decide)) 5 _) _, rfl, rfl⟩
    · refine Or.inr ⟨?_, ?_⟩
      · rw [if_neg (by rw [h3]; exact h16)]
        show (xp_need ts 17 W.2.2.2).2.1 = true
        unfold xp_need
        rw [if_neg (by rw [h3]; exact h17)]
        rfl
      · show (S.2.1 || !(decide (xp_hd ts S.1 = 16) || decide (xp_hd ts S.1 = 17))) = true
        rw [decide_eq_false h16, decide_eq_false h17, h2]
        rfl
theorem stm_upd {ts : List (Nat × Int32)} {f : Nat → Int32} {T : Nat → Nat} (hts : ts.length ≤ 81) (hEN : xp_EN ts) (h0 : xp_hd ts 0 ≠ 36) (hT : T 0 = 0) (hT17 : T 17 = 0) (hf : f 4 = -1) :
    (yg ts (xp_oW ts (xp_rU ts (xp_om xp_adv (xp_W0 f)))) (ys_where ts (ys_upd ts (1, false, [], T))) ∧ yQ1 (xp_oW ts (xp_rU ts (xp_om xp_adv (xp_W0 f)))) (ys_where ts (ys_upd ts (1, false, [], T)))) ∨ ybb (xp_oW ts (xp_rU ts (xp_om xp_adv (xp_W0 f)))) (ys_where ts (ys_upd ts (1, false, [], T))) := by
  have eU : xp_rU ts (xp_om xp_adv (xp_W0 f)) = xp_oE ts 0 (xp_om (xp_need ts 30) (if xp_hd ts (xp_oT ts 3 (xp_om xp_adv (xp_W0 f))).2.2.2.1 = 16 then xp_sf 5 1 (xp_om xp_adv (xp_oT ts 3 (xp_om xp_adv (xp_W0 f)))) else xp_om (xp_need ts 17) (xp_sf 5 2 (xp_oT ts 3 (xp_om xp_adv (xp_W0 f)))))) := by
    unfold xp_rU
    split <;> rfl
  rw [eU]
  have m30 : xq_Mo (xp_om (xp_need ts 30)) := .om (xp_Mo.need ts 30)
  rcases yr_name (i := 3) hEN (yg_0 (f := f) (T := T) hEN h0) with ⟨g1, n1, n2, n3⟩ | ⟨b1, b2⟩
  · have hA1 : ∀ j, (xp_oT ts 3 (xp_om xp_adv (xp_W0 f))).2.2.1 j = [] := fun j => rfl
    have hK1 : (xp_oT ts 3 (xp_om xp_adv (xp_W0 f))).2.1 3 = 0 := rfl
    have hF : ∀ q, (xp_oT ts 3 (xp_om xp_adv (xp_W0 f))).1 q = if q = 3 then nI (xp_hd ts 1 - 19) else f q := fun q => by rw [n2]; rfl
    have hB1 : (ys_name ts (1, false, [], T)).2.2.2 0 = 1 ∧ (ys_name ts (1, false, [], T)).2.2.2 1 = xp_hd ts 1 - 19 ∧ (ys_name ts (1, false, [], T)).2.2.2 17 = 0 := by
      rw [n3]
      dsimp only
      rw [hT]
      exact ⟨yt_s, by rw [yt_o (by decide)]; exact yt_s, by rw [yt_o (by decide), yt_o (by decide)]; exact hT17⟩
    have eu : ys_upd ts (1, false, [], T) = if (ys_need ts 30 (ys_up1 ts (ys_name ts (1, false, [], T)))).2.1 = true then ys_need ts 30 (ys_up1 ts (ys_name ts (1, false, [], T))) else ys_term ts 0 false (ys_need ts 30 (ys_up1 ts (ys_name ts (1, false, [], T)))) := rfl
    rw [eu]
    generalize xp_oT ts 3 (xp_om xp_adv (xp_W0 f)) = A1 at *
    generalize ys_name ts (1, false, [], T) = B1 at *
    rcases yr_up1 hEN g1 with ⟨c, hc, g2, w2, s2⟩ | ⟨b1, b2⟩
    · rw [w2] at g2 ⊢
      rw [s2] at g2 ⊢
      rcases yr_need (t := 30) hEN g2 (by decide) with ⟨g3, -, w3, s3⟩ | ⟨b1, b2⟩
      · rw [w3] at g3 ⊢
        rw [s3] at g3 ⊢
        rw [if_neg (by rw [g3.2.1]; decide)]
        rcases yr_E (j := 0) hts hEN g3 (hA1 0) with ⟨g4, e4, x4, o4⟩ | ⟨b1, b2⟩
        · have hs3 : (xp_oE ts 0 (xp_om xp_adv (xp_sf 5 (nI c) (xp_om xp_adv A1)))).2.2.1 3 = [] := by rw [xp_oE_ss (by decide)]; exact hA1 3
          have hk3 : (xp_oE ts 0 (xp_om xp_adv (xp_sf 5 (nI c) (xp_om xp_adv A1)))).2.1 3 = 0 := by rw [xp_oE_k]; exact hK1
          have hf4 : ∀ q, (xp_oE ts 0 (xp_om xp_adv (xp_sf 5 (nI c) (xp_om xp_adv A1)))).1 q = if q = 5 then nI c else A1.1 q := fun q => rfl
          have ht4 : ∀ q, q < 5 ∨ q = 17 → (ys_term ts 0 false ((B1.1 + 1, B1.2.1, B1.2.2.1, yt B1.2.2.2 3 c).1 + 1, (B1.1 + 1, B1.2.1, B1.2.2.1, yt B1.2.2.2 3 c).2)).2.2.2 q = yt B1.2.2.2 3 c q := fun q hq => ys_term_T (by omega) (by omega) (by omega)
          generalize xp_oE ts 0 (xp_om xp_adv (xp_sf 5 (nI c) (xp_om xp_adv A1))) = A4 at *
          generalize ys_term ts 0 false ((B1.1 + 1, B1.2.1, B1.2.2.1, yt B1.2.2.2 3 c).1 + 1, (B1.1 + 1, B1.2.1, B1.2.2.1, yt B1.2.2.2 3 c).2) = B4 at *
          rcases yr_W hts hEN g4 hs3 hk3 (by rw [ht4 17 (Or.inr rfl), yt_o (by decide)]; exact hB1.2.2) with ⟨g5, k5, x5, o5⟩ | ⟨b1, b2⟩
          · refine Or.inl ⟨g5, ?_, ?_, ?_, ?_, ?_, ?_, ?_, k5⟩
            · rw [ys_where_T (by decide) (by decide) (by decide), ht4 0 (Or.inl (by decide)), yt_o (by decide)]; exact hB1.1
            · rw [ys_where_T (by decide) (by decide) (by decide), ht4 1 (Or.inl (by decide)), yt_o (by decide), hB1.2.1]; exact n1
            · rw [ys_where_T (by decide) (by decide) (by decide), ht4 1 (Or.inl (by decide)), yt_o (by decide), hB1.2.1, xp_oW_f, hf4, if_neg (by decide), hF, if_pos rfl]
            · rw [xp_oW_f, hf4, if_neg (by decide), hF, if_neg (by decide)]; exact hf
            · rw [ys_where_T (by decide) (by decide) (by decide), ht4 3 (Or.inl (by decide)), yt_s]; exact hc
            · rw [ys_where_T (by decide) (by decide) (by decide), ht4 3 (Or.inl (by decide)), yt_s, xp_oW_f, hf4, if_pos rfl]
            · exact e4.keep (xp_oW_ss (by decide)) o5 (ys_where_T (by decide) (by decide) (by decide)) (ys_where_T (by decide) (by decide) (by decide))
          · exact Or.inr ⟨b1, b2⟩
        · exact Or.inr ⟨xq_Mo.oW ts _ b1, ys_where_b b2⟩
      · refine Or.inr ⟨xq_Mo.oW ts _ (xq_Mo.oE ts 0 _ b1), ys_where_b ?_⟩
        rw [if_pos b2]
        exact b2
    · have := ys_need_b (ts := ts) (t := 30) b2
      refine Or.inr ⟨xq_Mo.oW ts _ (xq_Mo.oE ts 0 _ (m30 _ b1)), ys_where_b ?_⟩
      rw [if_pos this]
      exact this
  · refine Or.inr ⟨xq_Mo.oW ts _ (xq_Mo.oE ts 0 _ (m30 _ ?_)), ys_where_b ?_⟩
    · split
      · exact b1
      · exact xp_Mo.need ts 17 _ b1
    · have h1 : (ys_up1 ts (ys_name ts (1, false, [], T))).2.1 = true := by
        show ((ys_name ts (1, false, [], T)).2.1 || _) = true
        rw [b2, Bool.true_or]
      have := ys_need_b (ts := ts) (t := 30) h1
      unfold ys_upd
      rw [if_pos this]
      exact this
