/-! F at every depth; the whole expression -/
def yF (ts : List (Nat × Int32)) (ou ns : Int32) (f : xp_M → xp_M) : Prop := ∀ m o V, m.2.1 = false → m.1 ≤ ts.length → 1 ≤ m.1 →
  ((f m).2.1 = false → ∃ c cm, yv_E c cm ∧ yv_X m (f m) c cm ∧ yp_R ts ou (m.1, false, o, V, ns, true) = yp_R ts ou (yp_sgs ((f m).1, false, o ++ cm, V, ns, false))) ∧ ((f m).2.1 = true → (yp_fin (yp_R ts ou (m.1, false, o, V, ns, true))).2.1 = true)
theorem yS_pos {ts : List (Nat × Int32)} {ou ns : Int32} {f : xp_M → xp_M} (hf : yF ts ou ns f) : ∀ m o V, V.head? ≠ some 6 → m.2.1 = false → m.1 ≤ ts.length → 1 ≤ m.1 →
  ((f m).2.1 = false → ∃ c cm, yv_E c cm ∧ yv_X m (f m) c cm ∧ yp_R ts ou (m.1, false, o, V, ns, true) = yp_R ts ou ((f m).1, false, o ++ cm, V, ns, false)) ∧ ((f m).2.1 = true → (yp_fin (yp_R ts ou (m.1, false, o, V, ns, true))).2.1 = true) := by
  intro m o V hV hw hl h1
  obtain ⟨s1, s2⟩ := hf m o V hw hl h1
  refine ⟨fun hb => ?_, s2⟩
  obtain ⟨c, cm, k1, k2, k3⟩ := s1 hb
  exact ⟨c, cm, k1, k2, by rw [k3, yp_sgs_no hV]⟩
theorem yp_mem13 {q V : List Nat} : 13 ∈ q ++ 13 :: V := List.mem_append.mpr (Or.inr List.mem_cons_self)
theorem yF_b {ts : List (Nat × Int32)} {u k : Nat} {fE fF : xp_M → xp_M} (hts : ts.length ≤ 81) (hku : k + u < 6) (hE : yU ts (nI u) (nI (k + 1)) fE) (hF : yF ts (nI u) (nI (k + 1)) fF) (hgE : xp_Gr ts.length 0 fE) : yF ts (nI u) (nI k) (xp_Fb ts fE fF) := by
  intro m o V hw hl h1
  have hbd : decide (5 < (nI k + nI u).toInt) = false := by
    rw [nI_add, nI_toInt (by omega)]
    exact decide_eq_false (by omega)
  have ek : nI k + 1 = nI (k + 1) := am_nS k
  have ek' : nI (k + 1) - 1 = nI k := by rw [am_nP (by omega)]; rfl
  have hR0 : yp_R ts (nI u) (m.1, false, o, V, nI k, true) = yp_R ts (nI u) (yp_rand ts (nI u) (m.1, false, o, V, nI k, true)) := yp_R_rand rfl rfl
  unfold xp_Fb
  by_cases h33 : xp_hd ts m.1 = 33
  · rw [if_pos h33]
    have er : yp_rand ts (nI u) (m.1, false, o, V, nI k, true) = yp_sgs (m.1 + 1, false, o ++ [(1, xp_nm ts m.1)], V, nI k, false) := by
      unfold yp_rand
      dsimp only
      rw [if_neg (by omega), if_pos h33]
    refine ⟨fun _ => ⟨[(33, xp_nm ts m.1)], [(1, xp_nm ts m.1)], yv_E.num _, ⟨rfl, fun t => ?_, yk_op (by decide)⟩, by rw [hR0, er]; rfl⟩, fun h => ?_⟩
    · show m.2.2.2 t = (m.2.2.2 t || yc [(1, xp_nm ts m.1)] t)
      have : yc [(1, xp_nm ts m.1)] t = false := by simp [yc]
      rw [this, Bool.or_false]
    · have h : m.2.1 = true := h
      rw [hw] at h
      cases h
  · rw [if_neg h33]
    by_cases h23 : xp_hd ts m.1 = 23
    · rw [if_pos h23]
      have hlt : m.1 < ts.length := xp_hd_lt h23 (by decide)
      have er : yp_rand ts (nI u) (m.1, false, o, V, nI k, true) = (m.1 + 1, false, o, 13 :: V, nI (k + 1), true) := by
        unfold yp_rand
        dsimp only
        rw [if_pos (Or.inl h23), if_pos h23, hbd, ek]
        rfl
      rw [hR0, er]
      obtain ⟨s1, s2⟩ := hE (xp_adv m) o (13 :: V) (Or.inr rfl) hw (show m.1 + 1 ≤ ts.length by omega) (show 1 ≤ m.1 + 1 by omega)
      cases hb : (fE (xp_adv m)).2.1 with
      | true => exact ⟨fun z => absurd ((xp_Mo.need ts 24 _ hb).symm.trans z) (by decide), fun _ => s2 hb⟩
      | false =>
        obtain ⟨c, cm, q, hq, k1, k2, kw, k3⟩ := s1 hb
        have k3 : yp_R ts (nI u) (m.1 + 1, false, o, 13 :: V, nI (k + 1), true) = _ := k3
        rw [k3]
        unfold xp_need
        by_cases h24 : xp_hd ts (fE (xp_adv m)).1 = 24
        · rw [if_pos h24]
          refine ⟨fun _ => ⟨c, cm ++ qe q, k1, k2, ?_⟩, fun h => ?_⟩
          · have e : yp_rtor ts ((fE (xp_adv m)).1, false, o ++ cm, q ++ 13 :: V, nI (k + 1), false) = (true, yp_sgs ((fE (xp_adv m)).1 + 1, false, o ++ (cm ++ qe q), V, nI k, false)) := by
              unfold yp_rtor
              dsimp only
              rw [if_neg (by rw [kw]; simp), if_pos ⟨yp_mem13, h24⟩, yp_po3 q _ hq, ek', List.append_assoc]
            rw [yp_R_rtor rfl rfl (by rw [e]), e]
            rfl
          · have h : (fE (xp_adv m)).2.1 = true := h
            rw [hb] at h
            cases h
        · rw [if_neg h24]
          refine ⟨fun h => absurd (show true = false from h) (by decide), fun _ => ?_⟩
          have e : yp_rtor ts ((fE (xp_adv m)).1, false, o ++ cm, q ++ 13 :: V, nI (k + 1), false) = (false, ((fE (xp_adv m)).1, false, o ++ cm, q ++ 13 :: V, nI (k + 1), false)) := by
            unfold yp_rtor
            dsimp only
            rw [if_neg (by rw [kw]; simp), if_neg (fun z => h24 z.2)]
          rw [yp_R_stop rfl (by rw [e])]
          unfold yp_fin
          dsimp only
          rw [decide_eq_true yp_mem13]
          rfl
    · rw [if_neg h23]
      by_cases h28 : xp_hd ts m.1 = 28
      · rw [if_pos h28]
        have hlt : m.1 < ts.length := xp_hd_lt h28 (by decide)
        have er : yp_rand ts (nI u) (m.1, false, o, V, nI k, true) = (m.1 + 1, false, o, 6 :: V, nI (k + 1), true) := by
          unfold yp_rand
          dsimp only
          rw [if_pos (Or.inr h28), if_neg h23, hbd, ek]
          rfl
        rw [hR0, er]
        obtain ⟨s1, s2⟩ := hF (xp_app 33 0 (xp_adv m)) o (6 :: V) hw (show m.1 + 1 ≤ ts.length by omega) (show 1 ≤ m.1 + 1 by omega)
        cases hb : (fF (xp_app 33 0 (xp_adv m))).2.1 with
        | true => exact ⟨fun z => absurd (hb.symm.trans z) (by decide), fun _ => s2 hb⟩
        | false =>
          obtain ⟨c, cm, k1, k2, k3⟩ := s1 hb
          have k3 : yp_R ts (nI u) (m.1 + 1, false, o, 6 :: V, nI (k + 1), true) = _ := k3
          rw [k3]
          refine ⟨fun _ => ⟨[(33, 0)] ++ c ++ [(28, 0)], cm ++ [(6, 0)], k1.neg, ?_, ?_⟩, fun h => ?_⟩
          · refine yv_X.op (m := fF (xp_app 33 0 (xp_adv m))) ⟨?_, k2.2⟩ (by decide)
            rw [k2.1]
            show m.2.2.1 ++ [(33, 0)] ++ c = _
            rw [List.append_assoc]
          · have e : yp_sgs ((fF (xp_app 33 0 (xp_adv m))).1, false, o ++ cm, 6 :: V, nI (k + 1), false) = yp_sgs ((fF (xp_app 33 0 (xp_adv m))).1, false, o ++ (cm ++ [(6, 0)]), V, nI k, false) := by
              unfold yp_sgs
              dsimp only
              rw [yp_sg, if_pos rfl, ek', List.append_assoc]
            rw [e]
            rfl
          · have h : (fF (xp_app 33 0 (xp_adv m))).2.1 = true := h
            rw [hb] at h
            cases h
      · rw [if_neg h28]
        have er : yp_rand ts (nI u) (m.1, false, o, V, nI k, true) = yp_sgs (yp_ca ts m.1, yp_cx ts m.1, o ++ [(2, nI (yp_co ts m.1))], V, nI k, false) := by
          unfold yp_rand
          dsimp only
          rw [if_neg (by omega), if_neg h33, Bool.false_or]
        rw [hR0, er]
        obtain ⟨hco, hco4⟩ := yp_co_lt ts m.1
        cases hcx : yp_cx ts m.1 with
        | true =>
          have h := xp_col_bad hw hcx
          refine ⟨fun z => absurd (h.symm.trans z) (by decide), fun _ => ?_⟩
          rw [yp_R_bad rfl]
          rfl
        | false =>
          rw [xp_col_ok hw hcx]
          refine ⟨fun _ => ⟨[(34, nI (yp_co ts m.1))], [(2, nI (yp_co ts m.1))], yv_E.col hco, ⟨rfl, fun t => ?_, fun q hq _ => ⟨yp_co ts m.1, hco, by rw [List.mem_singleton.mp hq]⟩⟩, rfl⟩, fun h => by cases h⟩
          show (if t = yp_ct ts m.1 then true else m.2.2.2 t) = (m.2.2.2 t || yc [(2, nI (yp_co ts m.1))] t)
          have : yc [(2, nI (yp_co ts m.1))] t = decide (yp_ct ts m.1 = t) := by
            unfold yc
            rw [List.any_cons, List.any_nil, Bool.or_false, nI_clamp (by omega), hco4]
            by_cases e : yp_ct ts m.1 = t
            · rw [e]; simp
            · simp [e]
          rw [this]
          by_cases e : t = yp_ct ts m.1
          · rw [if_pos e, e]; simp
          · rw [if_neg e, decide_eq_false (fun z => e z.symm), Bool.or_false]
/-- no nest is left -/
theorem yF_0 {ts : List (Nat × Int32)} {u k : Nat} (hts : ts.length ≤ 81) (hku : k + u = 6) : yF ts (nI u) (nI k) (xp_Fb ts xp_bad xp_bad) := by
  intro m o V hw hl h1
  have hbd : decide (5 < (nI k + nI u).toInt) = true := by
    rw [nI_add, nI_toInt (by omega)]
    exact decide_eq_true (by omega)
  by_cases hn : xp_hd ts m.1 = 23 ∨ xp_hd ts m.1 = 28
  · have hb : (xp_Fb ts xp_bad xp_bad m).2.1 = true := by
      unfold xp_Fb
      rw [if_neg (by omega)]
      by_cases h23 : xp_hd ts m.1 = 23
      · rw [if_pos h23]
        exact xp_Mo.need ts 24 _ rfl
      · rw [if_neg h23, if_pos (hn.resolve_left h23)]
        rfl
    refine ⟨fun z => absurd (hb.symm.trans z) (by decide), fun _ => ?_⟩
    have er : (yp_rand ts (nI u) (m.1, false, o, V, nI k, true)).2.1 = true := by
      unfold yp_rand
      dsimp only
      rw [if_pos hn, hbd]
      rfl
    rw [yp_R_rand rfl rfl, yp_R_bad er]
    unfold yp_fin
    rw [er]
    rfl
  · have key : ∀ fE fF, xp_Fb ts fE fF m = xp_Fb ts xp_bad xp_bad m := by
      intro fE fF
      unfold xp_Fb
      split
      · rfl
      · rw [if_neg (fun e => hn (Or.inl e)), if_neg (fun e => hn (Or.inr e)), if_neg (fun e => hn (Or.inl e)), if_neg (fun e => hn (Or.inr e))]
    have hR0 : yp_R ts (nI u) (m.1, false, o, V, nI k, true) = yp_R ts (nI u) (yp_rand ts (nI u) (m.1, false, o, V, nI k, true)) := yp_R_rand rfl rfl
    unfold xp_Fb
    by_cases h33 : xp_hd ts m.1 = 33
    · rw [if_pos h33]
      have er : yp_rand ts (nI u) (m.1, false, o, V, nI k, true) = yp_sgs (m.1 + 1, false, o ++ [(1, xp_nm ts m.1)], V, nI k, false) := by
        unfold yp_rand
        dsimp only
        rw [if_neg (by omega), if_pos h33]
      refine ⟨fun _ => ⟨[(33, xp_nm ts m.1)], [(1, xp_nm ts m.1)], yv_E.num _, ⟨rfl, fun t => ?_, yk_op (by decide)⟩, by rw [hR0, er]; rfl⟩, fun h => ?_⟩
      · show m.2.2.2 t = (m.2.2.2 t || yc [(1, xp_nm ts m.1)] t)
        have : yc [(1, xp_nm ts m.1)] t = false := by simp [yc]
        rw [this, Bool.or_false]
      · have h : m.2.1 = true := h
        rw [hw] at h
        cases h
    · rw [if_neg h33, if_neg (fun e => hn (Or.inl e)), if_neg (fun e => hn (Or.inr e))]
      have er : yp_rand ts (nI u) (m.1, false, o, V, nI k, true) = yp_sgs (yp_ca ts m.1, yp_cx ts m.1, o ++ [(2, nI (yp_co ts m.1))], V, nI k, false) := by
        unfold yp_rand
        dsimp only
        rw [if_neg (by omega), if_neg h33, Bool.false_or]
      rw [hR0, er]
      obtain ⟨hco, hco4⟩ := yp_co_lt ts m.1
      cases hcx : yp_cx ts m.1 with
      | true =>
        have h := xp_col_bad hw hcx
        refine ⟨fun z => absurd (h.symm.trans z) (by decide), fun _ => ?_⟩
        rw [yp_R_bad rfl]
        rfl
      | false =>
        rw [xp_col_ok hw hcx]
        refine ⟨fun _ => ⟨[(34, nI (yp_co ts m.1))], [(2, nI (yp_co ts m.1))], yv_E.col hco, ⟨rfl, fun t => ?_, fun q hq _ => ⟨yp_co ts m.1, hco, by rw [List.mem_singleton.mp hq]⟩⟩, rfl⟩, fun h => by cases h⟩
        show (if t = yp_ct ts m.1 then true else m.2.2.2 t) = (m.2.2.2 t || yc [(2, nI (yp_co ts m.1))] t)
        have : yc [(2, nI (yp_co ts m.1))] t = decide (yp_ct ts m.1 = t) := by
          unfold yc
          rw [List.any_cons, List.any_nil, Bool.or_false, nI_clamp (by omega), hco4]
          by_cases e : yp_ct ts m.1 = t
          · rw [e]; simp
          · simp [e]
        rw [this]
        by_cases e : t = yp_ct ts m.1
        · rw [if_pos e, e]; simp
        · rw [if_neg e, decide_eq_false (fun z => e z.symm), Bool.or_false]
theorem yS_of {ts : List (Nat × Int32)} {ou ns : Int32} {f : xp_M → xp_M} (hf : yF ts ou ns f) : yS ts ou ns f := fun m o V hV hw hl h1 => yS_pos hf m o V hV hw hl h1
theorem yF_all {ts : List (Nat × Int32)} {u : Nat} (hts : ts.length ≤ 81) : ∀ n k, k + u + n = 6 → yF ts (nI u) (nI k) (xp_F ts n)
  | 0, k, h => yF_0 hts (by omega)
  | n + 1, k, h => by
    have h1 := yF_all (u := u) hts n (k + 1) (by omega)
    exact yF_b hts (by omega) (yU.of hts (yS_of h1) (xp_Mo.F ts n) (xp_Gr.F ts n)) h1 (xp_Gr.E ts n)
theorem yp_ex_sim {ts : List (Nat × Int32)} {u n : Nat} (hts : ts.length ≤ 81) (hn : u + n = 6) (m : xp_M) (o : yp_O) (hw : m.2.1 = false) (hl : m.1 ≤ ts.length) (h1 : 1 ≤ m.1) :
    ((xp_E ts n m).2.1 = false → ∃ c cm, yv_E c cm ∧ yv_X m (xp_E ts n m) c cm ∧ yp_ex ts (nI u) m.1 o = ((xp_E ts n m).1, false, o ++ cm)) ∧ ((xp_E ts n m).2.1 = true → (yp_ex ts (nI u) m.1 o).2.1 = true) := by
  have hU : yU ts (nI u) (nI 0) (xp_E ts n) := yU.of hts (yS_of (yF_all hts n 0 (by omega))) (xp_Mo.F ts n) (xp_Gr.F ts n)
  obtain ⟨s1, s2⟩ := hU m o [] (Or.inl rfl) hw hl h1
  refine ⟨fun hb => ?_, fun hb => s2 hb⟩
  obtain ⟨c, cm, q, hq, k1, k2, kw, k3⟩ := s1 hb
  refine ⟨c, cm ++ qe q, k1, k2, ?_⟩
  have n13 : ¬ 13 ∈ q ++ [] := by
    rw [List.append_nil]
    intro hm
    have := hq 13 hm
    omega
  unfold yp_ex
  have k3 : yp_R ts (nI u) (m.1, false, o, [], 0, true) = _ := k3
  have e : yp_rtor ts ((xp_E ts n m).1, false, o ++ cm, q ++ [], nI 0, false) = (false, ((xp_E ts n m).1, false, o ++ cm, q ++ [], nI 0, false)) := by
    unfold yp_rtor
    dsimp only
    rw [if_neg (by rw [kw]; simp), if_neg (fun z => n13 z.1)]
  rw [k3, yp_R_stop rfl (by rw [e])]
  unfold yp_fin
  dsimp only
  rw [decide_eq_false n13, List.append_nil, List.append_assoc]
  rfl
