/-! conditions: N at every depth; the whole condition -/
theorem yc_sg {h : Nat} (hh : h = 30 ∨ h = 31 ∨ h = 32) : xp_sg h = h ∧ yc_wh h ≠ 0 ∧ ((h = 30 ∧ yc_wh h = 7) ∨ (h = 31 ∧ yc_wh h = 8) ∨ (h = 32 ∧ yc_wh h = 9)) := by
  rcases hh with rfl | rfl | rfl <;> decide
theorem yc_sg0 {h : Nat} (hh : ¬ (h = 30 ∨ h = 31 ∨ h = 32)) : h ≠ xp_sg h ∧ yc_wh h = 0 := by
  unfold xp_sg yc_wh
  rw [if_neg (by omega), if_neg (by omega), if_neg (by omega), if_neg (by omega)]
  exact ⟨by omega, rfl⟩
theorem zC_sim {ts : List (Nat × Int32)} {k n : Nat} (hts : ts.length ≤ 81) (hn : k + n = 6) (m : xp_M) (o : yp_O) (H : List Nat) (hw : m.2.1 = false) (hl : m.1 ≤ ts.length) (h1 : 1 ≤ m.1) (hnn : ¬ (xp_hd ts m.1 = 14 ∨ xp_hd ts m.1 = 25)) :
    ((xp_cmp ts (xp_E ts n) m).2.1 = false → ∃ c cm, yv_B c cm ∧ yv_X m (xp_cmp ts (xp_E ts n) m) c cm ∧ yc_R ts (m.1, false, o, nI k, H, 2) = yc_R ts (yc_nts ((xp_cmp ts (xp_E ts n) m).1, false, o ++ cm, nI k, H, 1))) ∧ ((xp_cmp ts (xp_E ts n) m).2.1 = true → (yc_fin (yc_R ts (m.1, false, o, nI k, H, 2))).2.1 = true) := by
  have hR : yc_R ts (m.1, false, o, nI k, H, 2) = yc_R ts (yc_nts ((yc_e2 ts (nI k) (yp_ex ts (nI k) m.1 o)).1, (yc_e2 ts (nI k) (yp_ex ts (nI k) m.1 o)).2.1, (yc_e2 ts (nI k) (yp_ex ts (nI k) m.1 o)).2.2 ++ [(yc_wh (xp_hd ts (yp_ex ts (nI k) m.1 o).1), 0)], nI k, H, 1)) := by
    rw [yc_R_single rfl rfl]
    congr 1
    unfold yc_single
    dsimp only
    rw [if_neg hnn]
  have hbad : ∀ a o' , (yc_fin (yc_R ts (yc_nts (a, true, o', nI k, H, 1)))).2.1 = true := by
    intro a o'
    rw [yc_R_stop (Or.inr rfl)]
    rfl
  rw [hR]
  obtain ⟨s1, s2⟩ := yp_ex_sim hts hn m o hw hl h1
  obtain ⟨g1, g2, -⟩ := xp_Gr.E ts n m hl
  unfold xp_cmp
  cases hb : (xp_E ts n m).2.1 with
  | true =>
    have hx : (xp_app (xp_sg (xp_hd ts (xp_E ts n m).1)) 0 (xp_E ts n (xp_need ts (xp_sg (xp_hd ts (xp_E ts n m).1)) (xp_E ts n m)))).2.1 = true := xp_Mo.E ts n _ (xp_Mo.need ts _ _ hb)
    refine ⟨fun z => absurd (hx.symm.trans z) (by decide), fun _ => ?_⟩
    have e2 : yc_e2 ts (nI k) (yp_ex ts (nI k) m.1 o) = ((yp_ex ts (nI k) m.1 o).1 + 1, true, (yp_ex ts (nI k) m.1 o).2.2) := by
      unfold yc_e2
      rw [s2 hb, Bool.true_or, if_pos rfl]
    rw [e2]
    exact hbad _ _
  | false =>
    obtain ⟨c1, cm1, k1, k2, k3⟩ := s1 hb
    rw [k3]
    dsimp only
    by_cases hh : xp_hd ts (xp_E ts n m).1 = 30 ∨ xp_hd ts (xp_E ts n m).1 = 31 ∨ xp_hd ts (xp_E ts n m).1 = 32
    · obtain ⟨w1, w2, w3⟩ := yc_sg hh
      have hlt : (xp_E ts n m).1 < ts.length := xp_hd_lt rfl (by omega)
      have en : xp_need ts (xp_sg (xp_hd ts (xp_E ts n m).1)) (xp_E ts n m) = xp_adv (xp_E ts n m) := by
        unfold xp_need
        rw [if_pos w1.symm]
      have e2 : yc_e2 ts (nI k) ((xp_E ts n m).1, false, o ++ cm1) = yp_ex ts (nI k) ((xp_E ts n m).1 + 1) (o ++ cm1) := by
        unfold yc_e2
        dsimp only
        rw [decide_eq_false w2, Bool.false_or, if_neg (by decide)]
      rw [en, e2, w1]
      obtain ⟨r1, r2⟩ := yp_ex_sim hts hn (xp_adv (xp_E ts n m)) (o ++ cm1) hb (show (xp_E ts n m).1 + 1 ≤ ts.length by omega) (show 1 ≤ (xp_E ts n m).1 + 1 by omega)
      cases hb2 : (xp_E ts n (xp_adv (xp_E ts n m))).2.1 with
      | true =>
        refine ⟨fun z => absurd (hb2.symm.trans z) (by decide), fun _ => ?_⟩
        have e3 : yp_ex ts (nI k) ((xp_E ts n m).1 + 1) (o ++ cm1) = ((yp_ex ts (nI k) ((xp_E ts n m).1 + 1) (o ++ cm1)).1, true, (yp_ex ts (nI k) ((xp_E ts n m).1 + 1) (o ++ cm1)).2.2) := by
          have := r2 hb2
          change (yp_ex ts (nI k) ((xp_E ts n m).1 + 1) (o ++ cm1)).2.1 = true at this
          exact Prod.ext rfl (Prod.ext this rfl)
        rw [e3]
        exact hbad _ _
      | false =>
        obtain ⟨c2, cm2, q1, q2, q3⟩ := r1 hb2
        have q3 : yp_ex ts (nI k) ((xp_E ts n m).1 + 1) (o ++ cm1) = _ := q3
        refine ⟨fun _ => ⟨c1 ++ c2 ++ [(xp_hd ts (xp_E ts n m).1, 0)], cm1 ++ cm2 ++ [(yc_wh (xp_hd ts (xp_E ts n m).1), 0)], k1.cmp q1 w3, (yv_X.tr (m' := xp_E ts n m) k2 (m'' := xp_E ts n (xp_adv (xp_E ts n m))) q2).op (by omega), ?_⟩, fun z => absurd (hb2.symm.trans z) (by decide)⟩
        rw [q3]
        dsimp only
        rw [List.append_assoc o, List.append_assoc o]
        rfl
    · obtain ⟨w1, w2⟩ := yc_sg0 hh
      have en : xp_need ts (xp_sg (xp_hd ts (xp_E ts n m).1)) (xp_E ts n m) = xp_bad (xp_E ts n m) := by
        unfold xp_need
        rw [if_neg w1]
      have hx : (xp_app (xp_sg (xp_hd ts (xp_E ts n m).1)) 0 (xp_E ts n (xp_need ts (xp_sg (xp_hd ts (xp_E ts n m).1)) (xp_E ts n m)))).2.1 = true := by
        rw [en]
        exact xp_Mo.E ts n _ rfl
      refine ⟨fun z => absurd (hx.symm.trans z) (by decide), fun _ => ?_⟩
      have e2 : yc_e2 ts (nI k) ((xp_E ts n m).1, false, o ++ cm1) = ((xp_E ts n m).1 + 1, true, o ++ cm1) := by
        unfold yc_e2
        dsimp only
        rw [decide_eq_true w2, Bool.or_true, if_pos rfl]
      rw [e2]
      exact hbad _ _
theorem zN_0 {ts : List (Nat × Int32)} (hts : ts.length ≤ 81) : zN ts (nI 6) (xp_Nb ts (xp_E ts 0) xp_bad xp_bad) := by
  intro m o H hw hl h1
  by_cases hn : xp_hd ts m.1 = 14 ∨ xp_hd ts m.1 = 25
  · have hb : (xp_Nb ts (xp_E ts 0) xp_bad xp_bad m).2.1 = true := by
      unfold xp_Nb
      by_cases h25 : xp_hd ts m.1 = 25
      · rw [if_pos h25]
        exact xp_Mo.need ts 26 _ rfl
      · rw [if_neg h25, if_pos (hn.resolve_right h25)]
        rfl
    refine ⟨fun z => absurd (hb.symm.trans z) (by decide), fun _ => ?_⟩
    have er : (yc_single ts (m.1, false, o, nI 6, H, 2)).2.1 = true := by
      unfold yc_single
      dsimp only
      rw [if_pos hn]
      rfl
    rw [yc_R_single rfl rfl, yc_R_stop (Or.inr er)]
    unfold yc_fin
    rw [er]
    rfl
  · have e : xp_Nb ts (xp_E ts 0) xp_bad xp_bad m = xp_cmp ts (xp_E ts 0) m := by
      unfold xp_Nb
      rw [if_neg (fun e => hn (Or.inr e)), if_neg (fun e => hn (Or.inl e))]
    rw [e]
    exact zC_sim hts rfl m o H hw hl h1 hn
theorem zN_b {ts : List (Nat × Int32)} {k n : Nat} {fC fN : xp_M → xp_M} (hts : ts.length ≤ 81) (hk : k < 6) (hkn : k + n = 6) (hC : zU ts (nI (k + 1)) fC) (hN : zN ts (nI (k + 1)) fN) : zN ts (nI k) (xp_Nb ts (xp_E ts n) fC fN) := by
  intro m o H hw hl h1
  have hbd : decide (5 < (nI k).toInt) = false := by
    rw [nI_toInt (by omega)]
    exact decide_eq_false (by omega)
  have ek : nI k + 1 = nI (k + 1) := am_nS k
  have ek' : nI (k + 1) - 1 = nI k := by rw [am_nP (by omega)]; rfl
  by_cases h25 : xp_hd ts m.1 = 25
  · have hlt : m.1 < ts.length := xp_hd_lt h25 (by decide)
    have er : yc_single ts (m.1, false, o, nI k, H, 2) = (m.1 + 1, false, o, nI (k + 1), 13 :: H, 2) := by
      unfold yc_single
      dsimp only
      rw [if_pos (Or.inr h25), if_neg (by omega), hbd, ek]
      rfl
    rw [yc_R_single rfl rfl, er]
    unfold xp_Nb
    rw [if_pos h25]
    obtain ⟨s1, s2⟩ := hC (xp_adv m) o (13 :: H) (Or.inr rfl) hw (show m.1 + 1 ≤ ts.length by omega) (show 1 ≤ m.1 + 1 by omega)
    cases hb : (fC (xp_adv m)).2.1 with
    | true => exact ⟨fun z => absurd ((xp_Mo.need ts 26 _ hb).symm.trans z) (by decide), fun _ => s2 hb⟩
    | false =>
      obtain ⟨c, cm, q, hq, k1, k2, kw, k3⟩ := s1 hb
      have k3 : yc_R ts (m.1 + 1, false, o, nI (k + 1), 13 :: H, 2) = _ := k3
      rw [k3]
      unfold xp_need
      by_cases h26 : xp_hd ts (fC (xp_adv m)).1 = 26
      · rw [if_pos h26]
        refine ⟨fun _ => ⟨c, cm ++ qe q, k1, k2, ?_⟩, fun h => ?_⟩
        · have e : yc_conn ts ((fC (xp_adv m)).1, false, o ++ cm, nI (k + 1), q ++ 13 :: H, 1) = yc_nts ((fC (xp_adv m)).1 + 1, false, o ++ (cm ++ qe q), nI k, H, 1) := by
            unfold yc_conn
            dsimp only
            rw [if_neg kw, if_pos ⟨yp_mem13, h26⟩, yc_po q _ hq, ek', List.append_assoc]
          rw [yc_R_conn rfl rfl, e]
          rfl
        · have h : (fC (xp_adv m)).2.1 = true := h
          rw [hb] at h
          cases h
      · rw [if_neg h26]
        refine ⟨fun h => absurd (show true = false from h) (by decide), fun _ => ?_⟩
        have e : yc_conn ts ((fC (xp_adv m)).1, false, o ++ cm, nI (k + 1), q ++ 13 :: H, 1) = ((fC (xp_adv m)).1, false, o ++ cm, nI (k + 1), q ++ 13 :: H, 0) := by
          unfold yc_conn
          dsimp only
          rw [if_neg kw, if_neg (fun z => h26 z.2)]
        rw [yc_R_conn rfl rfl, e, yc_R_stop (Or.inl rfl)]
        unfold yc_fin
        dsimp only
        rw [decide_eq_true yp_mem13]
        rfl
  · by_cases h14 : xp_hd ts m.1 = 14
    · have hlt : m.1 < ts.length := xp_hd_lt h14 (by decide)
      have er : yc_single ts (m.1, false, o, nI k, H, 2) = (m.1 + 1, false, o, nI (k + 1), 10 :: H, 2) := by
        unfold yc_single
        dsimp only
        rw [if_pos (Or.inl h14), if_pos h14, hbd, ek]
        rfl
      rw [yc_R_single rfl rfl, er]
      unfold xp_Nb
      rw [if_neg h25, if_pos h14]
      obtain ⟨s1, s2⟩ := hN (xp_adv m) o (10 :: H) hw (show m.1 + 1 ≤ ts.length by omega) (show 1 ≤ m.1 + 1 by omega)
      cases hb : (fN (xp_adv m)).2.1 with
      | true => exact ⟨fun z => absurd (hb.symm.trans z) (by decide), fun _ => s2 hb⟩
      | false =>
        obtain ⟨c, cm, k1, k2, k3⟩ := s1 hb
        have k3 : yc_R ts (m.1 + 1, false, o, nI (k + 1), 10 :: H, 2) = _ := k3
        rw [k3]
        refine ⟨fun _ => ⟨c ++ [(14, 0)], cm ++ [(10, 0)], k1.not, yv_X.op (m := fN (xp_adv m)) k2 (by decide), ?_⟩, fun h => ?_⟩
        · have e : yc_nts ((fN (xp_adv m)).1, false, o ++ cm, nI (k + 1), 10 :: H, 1) = yc_nts ((fN (xp_adv m)).1, false, o ++ (cm ++ [(10, 0)]), nI k, H, 1) := by
            unfold yc_nts
            dsimp only
            rw [yc_nt, if_pos rfl, ek', List.append_assoc]
          rw [e]
          rfl
        · have h : (fN (xp_adv m)).2.1 = true := h
          rw [hb] at h
          cases h
    · have e : xp_Nb ts (xp_E ts n) fC fN m = xp_cmp ts (xp_E ts n) m := by
        unfold xp_Nb
        rw [if_neg h25, if_neg h14]
      rw [e]
      exact zC_sim hts hkn m o H hw hl h1 (fun z => z.elim h14 h25)
theorem zN_all {ts : List (Nat × Int32)} (hts : ts.length ≤ 81) : ∀ n k, k + n = 6 → zN ts (nI k) (xp_N ts n)
  | 0, k, h => by
    have : k = 6 := by omega
    subst this
    exact zN_0 hts
  | n + 1, k, h => by
    have h1 := zN_all hts n (k + 1) (by omega)
    exact zN_b hts (by omega) h (zU.of hts (zS.of h1) (xp_Mo.N ts n) (xp_Gr.N ts n)) h1
theorem yc_co_sim {ts : List (Nat × Int32)} (hts : ts.length ≤ 81) (m : xp_M) (o : yp_O) (hw : m.2.1 = false) (hl : m.1 ≤ ts.length) (h1 : 1 ≤ m.1) :
    ((xp_C ts 6 m).2.1 = false → ∃ c cm, yv_B c cm ∧ yv_X m (xp_C ts 6 m) c cm ∧ yc_co ts m.1 o = ((xp_C ts 6 m).1, false, o ++ cm)) ∧ ((xp_C ts 6 m).2.1 = true → (yc_co ts m.1 o).2.1 = true) := by
  have hU : zU ts (nI 0) (xp_C ts 6) := zU.of hts (zS.of (zN_all hts 6 0 rfl)) (xp_Mo.N ts 6) (xp_Gr.N ts 6)
  obtain ⟨s1, s2⟩ := hU m o [] (Or.inl rfl) hw hl h1
  refine ⟨fun hb => ?_, fun hb => s2 hb⟩
  obtain ⟨c, cm, q, hq, k1, k2, kw, k3⟩ := s1 hb
  refine ⟨c, cm ++ qe q, k1, k2, ?_⟩
  have n13 : ¬ 13 ∈ q ++ [] := by
    rw [List.append_nil]
    intro hm
    have := hq 13 hm
    omega
  unfold yc_co
  have k3 : yc_R ts (m.1, false, o, 0, [], 2) = _ := k3
  have e : yc_conn ts ((xp_C ts 6 m).1, false, o ++ cm, nI 0, q ++ [], 1) = ((xp_C ts 6 m).1, false, o ++ cm, nI 0, q ++ [], 0) := by
    unfold yc_conn
    dsimp only
    rw [if_neg kw, if_neg (fun z => n13 z.1)]
  rw [k3, yc_R_conn rfl rfl, e, yc_R_stop (Or.inl rfl)]
  unfold yc_fin
  dsimp only
  rw [decide_eq_false n13, List.append_nil, List.append_assoc]
  rfl
