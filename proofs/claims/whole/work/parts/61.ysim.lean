/-! the two parsers of an expression do the same -/
def xp_Mo (f : xp_M → xp_M) : Prop := ∀ m, m.2.1 = true → (f m).2.1 = true
theorem xp_Mo.bad : xp_Mo xp_bad := fun _ _ => rfl
theorem xp_Mo.adv : xp_Mo xp_adv := fun _ h => h
theorem xp_Mo.app (t : Nat) (o : Int32) : xp_Mo (xp_app t o) := fun _ h => h
theorem xp_Mo.need (ts : List (Nat × Int32)) (t : Nat) : xp_Mo (xp_need ts t) := fun m h => by
  unfold xp_need
  split
  · exact h
  · rfl
theorem xp_Mo.tbl (ts : List (Nat × Int32)) : xp_Mo (fun m => (xp_tbl ts m).2) := fun m h => by
  unfold xp_tbl
  dsimp only
  split
  · exact h
  · exact xp_Mo.need ts 20 m h
theorem xp_Mo.col (ts : List (Nat × Int32)) : xp_Mo (xp_col ts) := fun m h => by
  have h1 : (xp_ctb ts m).2.2.1 = true := by
    unfold xp_ctb
    split
    · exact xp_Mo.need ts 21 _ (xp_Mo.tbl ts m h)
    · exact h
  unfold xp_col xp_cl2
  split
  · exact h1
  · rfl
theorem xp_Mo.loop {ts : List (Nat × Int32)} {p : Nat → Bool} {f : xp_M → xp_M} (hf : xp_Mo f) : ∀ n, xp_Mo (xp_loop ts p f n)
  | 0 => fun _ h => h
  | n + 1 => fun m h => by
    rw [xp_loop]
    split
    · exact xp_Mo.loop hf n _ (hf _ h)
    · exact h
theorem xp_Mo.Pf {ts : List (Nat × Int32)} {f : xp_M → xp_M} (hf : xp_Mo f) : xp_Mo (xp_Pf ts f) := fun m h => xp_Mo.loop hf 80 _ (hf m h)
theorem xp_Mo.Ef {ts : List (Nat × Int32)} {f : xp_M → xp_M} (hf : xp_Mo f) : xp_Mo (xp_Ef ts f) := fun m h => xp_Mo.loop hf.Pf 80 _ (hf.Pf m h)
theorem xp_Mo.Fb {ts : List (Nat × Int32)} {fE fF : xp_M → xp_M} (hE : xp_Mo fE) (hF : xp_Mo fF) : xp_Mo (xp_Fb ts fE fF) := fun m h => by
  unfold xp_Fb
  split
  · exact h
  · split
    · exact xp_Mo.need ts 24 _ (hE _ h)
    · split
      · exact hF _ h
      · exact xp_Mo.col ts m h
theorem xp_Mo.F (ts : List (Nat × Int32)) : ∀ n, xp_Mo (xp_F ts n)
  | 0 => .Fb .bad .bad
  | n + 1 => .Fb (xp_Mo.F ts n).Ef (xp_Mo.F ts n)
theorem xp_Mo.E (ts : List (Nat × Int32)) (n : Nat) : xp_Mo (xp_E ts n) := (xp_Mo.F ts n).Ef
/-! a column -/
theorem xp_ctb_eq {ts : List (Nat × Int32)} {m : xp_M} (hw : m.2.1 = false) : xp_ctb ts m = (yp_ct ts m.1, yp_c1 ts m.1, yp_cb ts m.1, m.2.2) := by
  obtain ⟨a, w, c, u⟩ := m
  have hw : w = false := hw
  subst hw
  by_cases h1 : xp_hd ts a = 19
  · by_cases h3 : xp_hd ts (a + 1) = 21
    · simp [xp_ctb, xp_tbl, xp_need, xp_adv, xp_bad, yp_ct, yp_c1, yp_cb, h1, h3]
    · simp [xp_ctb, xp_tbl, xp_need, xp_adv, xp_bad, yp_ct, yp_c1, yp_cb, h1, h3]
  · by_cases h4 : xp_hd ts a = 20
    · by_cases h3 : xp_hd ts (a + 1) = 21
      · simp [xp_ctb, xp_tbl, xp_need, xp_adv, xp_bad, yp_ct, yp_c1, yp_cb, h4, h3]
      · simp [xp_ctb, xp_tbl, xp_need, xp_adv, xp_bad, yp_ct, yp_c1, yp_cb, h4, h3]
    · simp [xp_ctb, xp_tbl, xp_need, xp_adv, xp_bad, yp_ct, yp_c1, yp_cb, h1, h4]
theorem xp_col_bad {ts : List (Nat × Int32)} {m : xp_M} (hw : m.2.1 = false) (h : yp_cx ts m.1 = true) : (xp_col ts m).2.1 = true := by
  unfold xp_col xp_cl2
  rw [xp_ctb_eq hw]
  unfold yp_cx at h
  dsimp only
  split
  · rename_i h2
    rw [decide_eq_true h2.1, decide_eq_true h2.2] at h
    show yp_cb ts m.1 = true
    simpa using h
  · rfl
theorem xp_col_ok {ts : List (Nat × Int32)} {m : xp_M} (hw : m.2.1 = false) (h : yp_cx ts m.1 = false) : xp_col ts m = (yp_ca ts m.1, false, m.2.2.1 ++ [(34, nI (yp_co ts m.1))], fun i => if i = yp_ct ts m.1 then true else m.2.2.2 i) := by
  unfold yp_cx at h
  rw [Bool.or_eq_false_iff] at h
  obtain ⟨h1, h2⟩ := h
  have h2 : 15 ≤ xp_hd ts (yp_c1 ts m.1) ∧ xp_hd ts (yp_c1 ts m.1) ≤ 18 := by simpa using h2
  unfold xp_col xp_cl2
  rw [xp_ctb_eq hw]
  dsimp only
  rw [if_pos h2]
  unfold yp_ca yp_co yp_cc xp_app xp_mark xp_adv yp_isW
  rw [decide_eq_true (show xp_hd ts (yp_c1 ts m.1) < 19 by omega), Bool.true_or, if_pos rfl, h1]
  have e : yp_ct ts m.1 * 4 + (xp_hd ts (yp_c1 ts m.1) - 15) = 4 * yp_ct ts m.1 + (if xp_hd ts (yp_c1 ts m.1) = 15 then 0 else if xp_hd ts (yp_c1 ts m.1) = 16 then 1 else if xp_hd ts (yp_c1 ts m.1) = 17 then 2 else 3) := by
    split
    · omega
    · split
      · omega
      · split <;> omega
  rw [e]
theorem yp_ct_lt (ts : List (Nat × Int32)) (a : Nat) : yp_ct ts a < 3 := by
  unfold yp_ct
  split
  · omega
  · split <;> omega
theorem yp_cc_lt (h : Nat) : yp_cc h < 4 := by
  unfold yp_cc
  split
  · omega
  · split
    · omega
    · split <;> omega
theorem yp_co_lt (ts : List (Nat × Int32)) (a : Nat) : yp_co ts a < 12 ∧ yp_co ts a / 4 = yp_ct ts a := by
  have h1 := yp_ct_lt ts a
  have h2 := yp_cc_lt (xp_hd ts (yp_c1 ts a))
  unfold yp_co
  omega
/-! values -/
theorem yv_E.num (n : Int32) : yv_E [(33, n)] [(1, n)] := ⟨fun _ => n, fun env st => rfl, fun env st => rfl⟩
theorem yv_E.col {o : Nat} (h : o < 12) : yv_E [(34, nI o)] [(2, nI o)] := ⟨fun env => env o, fun env st => by
  simp only [xk_run]
  rw [if_neg (by decide), if_pos trivial, nI_toInt (by omega), if_pos (by omega), nI_clamp (by omega)], fun env st => by
  simp only [ym_run, ym_st]
  rw [if_neg (by decide), if_pos trivial, nI_clamp (by omega)]
  rfl⟩
theorem yv_E.neg {c : List (Nat × Int32)} {cm : yp_O} (h : yv_E c cm) : yv_E ([(33, 0)] ++ c ++ [(28, 0)]) (cm ++ [(6, 0)]) := by
  obtain ⟨val, h1, h2⟩ := h
  refine ⟨fun env => 0 - val env, fun env st => ?_, fun env st => ?_⟩
  · rw [xk_run_app, xk_run_app]
    have e : xk_run env [(33, 0)] st = some (0 :: st) := rfl
    rw [e]
    show ((xk_run env c (0 :: st)).bind _) = _
    rw [h1]
    rfl
  · rw [ym_run_app, h2]
    rfl
theorem yv_E.bin {c c' : List (Nat × Int32)} {cm cm' : yp_O} {t w : Nat} (h : yv_E c cm) (h' : yv_E c' cm') (ht : t ≠ 33 ∧ t ≠ 34 ∧ t ≠ 14) (hw : w ≠ 1 ∧ w ≠ 2 ∧ w ≠ 6 ∧ w ≠ 10 ∧ w ≠ 0) (hj : ∀ x y, xk_jn t x y = yj w x y) : yv_E (c ++ c' ++ [(t, 0)]) (cm ++ cm' ++ [(w, 0)]) := by
  obtain ⟨val, h1, h2⟩ := h
  obtain ⟨val', h1', h2'⟩ := h'
  refine ⟨fun env => yj w (val env) (val' env), fun env st => ?_, fun env st => ?_⟩
  · rw [xk_run_app, xk_run_app, h1]
    show ((xk_run env c' (val env :: st)).bind _) = _
    rw [h1']
    show xk_run env [(t, 0)] (val' env :: val env :: st) = _
    simp only [xk_run]
    rw [if_neg ht.1, if_neg ht.2.1, if_neg ht.2.2, hj]
  · rw [ym_run_app, ym_run_app, h2]
    show ((ym_run env cm' (val env :: st)).bind _) = _
    rw [h2']
    show ym_run env [(w, 0)] (val' env :: val env :: st) = _
    simp only [ym_run, ym_st]
    rw [if_neg hw.1, if_neg hw.2.1, if_neg hw.2.2.1, if_neg hw.2.2.2.1, if_neg hw.2.2.2.2]
    rfl
theorem xy_jn : (∀ x y, xk_jn 27 x y = yj 3 x y) ∧ (∀ x y, xk_jn 28 x y = yj 4 x y) ∧ (∀ x y, xk_jn 29 x y = yj 5 x y) ∧ (∀ x y, xk_jn 30 x y = yj 7 x y) ∧ (∀ x y, xk_jn 31 x y = yj 8 x y) ∧ (∀ x y, xk_jn 32 x y = yj 9 x y) := by
  refine ⟨fun x y => ?_, fun x y => ?_, fun x y => ?_, fun x y => ?_, fun x y => ?_, fun x y => ?_⟩ <;> simp [xk_jn, yj]
def qe (q : List Nat) : yp_O := q.map (fun w => (w, (0 : Int32)))
theorem qe_app (a b : List Nat) : qe (a ++ b) = qe a ++ qe b := List.map_append
theorem yp_sg_no {V : List Nat} {n : Int32} {o : yp_O} (h : V.head? ≠ some 6) : yp_sg V n o = (o, V, n) := by
  cases V with
  | nil => rfl
  | cons w V =>
    rw [yp_sg, if_neg (fun e => h (by rw [e]; rfl))]
theorem yp_sgs_no {a : Nat} {b w : Bool} {V : List Nat} {n : Int32} {o : yp_O} (h : V.head? ≠ some 6) : yp_sgs (a, b, o, V, n, w) = (a, b, o, V, n, w) := by
  unfold yp_sgs
  dsimp only
  rw [yp_sg_no h]
theorem yp_pp5 {q V : List Nat} {o : yp_O} (hq : q = [] ∨ q = [5]) (hV : V.head? ≠ some 5) : yp_pp 5 (q ++ V) o = (o ++ qe q, V) := by
  have h0 : ∀ o, yp_pp 5 V o = (o, V) := fun o => by
    cases V with
    | nil => rfl
    | cons w V =>
      rw [yp_pp, if_neg]
      rintro (e | e)
      · exact hV (by rw [e]; rfl)
      · omega
  rcases hq with rfl | rfl
  · rw [List.nil_append, h0]
    simp [qe]
  · rw [List.cons_append, yp_pp, if_pos (Or.inl rfl), List.nil_append, h0]
    rfl
theorem yp_pp3 {what : Nat} (hwh : what < 5) {V : List Nat} (hV : V = [] ∨ V.head? = some 13) : ∀ (q : List Nat) (o : yp_O), (∀ w, w ∈ q → w = 3 ∨ w = 4 ∨ w = 5) → yp_pp what (q ++ V) o = (o ++ qe q, V)
  | [], o, _ => by
    rw [List.nil_append]
    rcases hV with rfl | hV
    · simp [yp_pp, qe]
    · cases V with
      | nil => simp [yp_pp, qe]
      | cons w V =>
        simp at hV
        subst hV
        rw [yp_pp, if_neg (by omega)]
        simp [qe]
  | w :: q, o, h => by
    have := h w (by simp)
    rw [List.cons_append, yp_pp, if_pos (by omega), yp_pp3 hwh hV q _ (fun x hx => h x (by simp [hx]))]
    simp [qe]
theorem yp_po3 {V : List Nat} : ∀ (q : List Nat) (o : yp_O), (∀ w, w ∈ q → w = 3 ∨ w = 4 ∨ w = 5) → yp_po (q ++ 13 :: V) o = (o ++ qe q, V)
  | [], o, _ => by
    rw [List.nil_append, yp_po, if_pos rfl]
    simp [qe]
  | w :: q, o, h => by
    have := h w (by simp)
    rw [List.cons_append, yp_po, if_neg (by omega), yp_po3 q _ (fun x hx => h x (by simp [hx]))]
    simp [qe]
/-! the levels -/
def yS (ts : List (Nat × Int32)) (ou ns : Int32) (f : xp_M → xp_M) : Prop := ∀ m o V, V.head? ≠ some 6 → m.2.1 = false → m.1 ≤ ts.length → 1 ≤ m.1 →
  ((f m).2.1 = false → ∃ c cm, yv_E c cm ∧ yv_X m (f m) c cm ∧ yp_R ts ou (m.1, false, o, V, ns, true) = yp_R ts ou ((f m).1, false, o ++ cm, V, ns, false)) ∧ ((f m).2.1 = true → (yp_fin (yp_R ts ou (m.1, false, o, V, ns, true))).2.1 = true)
def yT (ts : List (Nat × Int32)) (ou ns : Int32) (f : xp_M → xp_M) : Prop := ∀ m o V, V.head? ≠ some 5 → V.head? ≠ some 6 → m.2.1 = false → m.1 ≤ ts.length → 1 ≤ m.1 →
  ((f m).2.1 = false → ∃ c cm q, (q = [] ∨ q = [5]) ∧ yv_E c (cm ++ qe q) ∧ yv_X m (f m) c (cm ++ qe q) ∧ xp_hd ts (f m).1 ≠ 29 ∧ yp_R ts ou (m.1, false, o, V, ns, true) = yp_R ts ou ((f m).1, false, o ++ cm, q ++ V, ns, false)) ∧ ((f m).2.1 = true → (yp_fin (yp_R ts ou (m.1, false, o, V, ns, true))).2.1 = true)
def yU (ts : List (Nat × Int32)) (ou ns : Int32) (f : xp_M → xp_M) : Prop := ∀ m o V, (V = [] ∨ V.head? = some 13) → m.2.1 = false → m.1 ≤ ts.length → 1 ≤ m.1 →
  ((f m).2.1 = false → ∃ c cm q, (∀ w, w ∈ q → w = 3 ∨ w = 4 ∨ w = 5) ∧ yv_E c (cm ++ qe q) ∧ yv_X m (f m) c (cm ++ qe q) ∧ yp_wh (xp_hd ts (f m).1) = 0 ∧ yp_R ts ou (m.1, false, o, V, ns, true) = yp_R ts ou ((f m).1, false, o ++ cm, q ++ V, ns, false)) ∧ ((f m).2.1 = true → (yp_fin (yp_R ts ou (m.1, false, o, V, ns, true))).2.1 = true)
theorem yv_X.op {m0 m : xp_M} {c : List (Nat × Int32)} {cm : yp_O} {t w : Nat} (h : yv_X m0 m c cm) (hw : w ≠ 2) : yv_X m0 (xp_app t 0 m) (c ++ [(t, 0)]) (cm ++ [(w, 0)]) := by
  obtain ⟨h1, h2, h3⟩ := h
  refine ⟨by show m.2.2.1 ++ [(t, 0)] = _; rw [h1, List.append_assoc], fun s => ?_, yk_app h3 (yk_op hw)⟩
  show m.2.2.2 s = _
  rw [h2, yc_app]
  have : yc [(w, (0 : Int32))] s = false := by
    unfold yc
    simp [hw]
  rw [this, Bool.or_false]
theorem xp_end {ts : List (Nat × Int32)} {a : Nat} (h : ts.length ≤ a) : xp_hd ts a = 36 := by
  unfold xp_hd
  rw [List.getD_eq_getElem?_getD, List.getElem?_eq_none h]
  rfl
theorem yT_loop {ts : List (Nat × Int32)} {ou ns : Int32} {f : xp_M → xp_M} (hf : yS ts ou ns f) (hm : xp_Mo f) (hg : xp_Gr ts.length 0 f) {m0 : xp_M} {o : yp_O} {V : List Nat} (hV : V.head? ≠ some 5) :
    ∀ (N : Nat) (m : xp_M) (c : List (Nat × Int32)) (cm : yp_O) (q : List Nat), m.2.1 = false → m.1 ≤ ts.length → ts.length ≤ m.1 + N → (q = [] ∨ q = [5]) → yv_E c (cm ++ qe q) → yv_X m0 m c (cm ++ qe q) →
      ((xp_loop ts (fun h => h == 29) f N m).2.1 = false → ∃ c' cm' q', (q' = [] ∨ q' = [5]) ∧ yv_E c' (cm' ++ qe q') ∧ yv_X m0 (xp_loop ts (fun h => h == 29) f N m) c' (cm' ++ qe q') ∧ xp_hd ts (xp_loop ts (fun h => h == 29) f N m).1 ≠ 29 ∧ yp_R ts ou (m.1, false, o ++ cm, q ++ V, ns, false) = yp_R ts ou ((xp_loop ts (fun h => h == 29) f N m).1, false, o ++ cm', q' ++ V, ns, false)) ∧
      ((xp_loop ts (fun h => h == 29) f N m).2.1 = true → (yp_fin (yp_R ts ou (m.1, false, o ++ cm, q ++ V, ns, false))).2.1 = true)
  | 0, m, c, cm, q, hw, hl, hN, hq, hE, hX => by
    refine ⟨fun _ => ⟨c, cm, q, hq, hE, hX, ?_, rfl⟩, fun h => ?_⟩
    · show xp_hd ts m.1 ≠ 29
      rw [xp_end (by omega)]
      decide
    · have h : m.2.1 = true := h
      rw [hw] at h
      cases h
  | N + 1, m, c, cm, q, hw, hl, hN, hq, hE, hX => by
    rw [xp_loop]
    by_cases h29 : xp_hd ts m.1 = 29
    · rw [if_pos (by rw [h29]; rfl), h29]
      have hlt : m.1 < ts.length := xp_hd_lt h29 (by decide)
      obtain ⟨g1, g2, -⟩ := hg (xp_adv m) (show m.1 + 1 ≤ ts.length by omega)
      have g1 : m.1 + 1 ≤ (f (xp_adv m)).1 := g1
      have hR : yp_R ts ou (m.1, false, o ++ cm, q ++ V, ns, false) = yp_R ts ou (m.1 + 1, false, o ++ (cm ++ qe q), 5 :: V, ns, true) := by
        have e : yp_rtor ts (m.1, false, o ++ cm, q ++ V, ns, false) = (true, (m.1 + 1, false, o ++ (cm ++ qe q), 5 :: V, ns, true)) := by
          unfold yp_rtor
          dsimp only
          rw [h29, if_pos (show yp_wh 29 ≠ 0 by decide), show yp_wh 29 = 5 from rfl, yp_pp5 hq hV, List.append_assoc]
        rw [yp_R_rtor rfl rfl (by rw [e]), e]
      obtain ⟨s1, s2⟩ := hf (xp_adv m) (o ++ (cm ++ qe q)) (5 :: V) (by simp) hw (show m.1 + 1 ≤ ts.length by omega) (show 1 ≤ m.1 + 1 by omega)
      rw [hR]
      cases hb : (f (xp_adv m)).2.1 with
      | true =>
        have : (xp_loop ts (fun h => h == 29) f N (xp_app 29 0 (f (xp_adv m)))).2.1 = true := xp_Mo.loop hm N _ hb
        exact ⟨fun z => absurd (this.symm.trans z) (by decide), fun _ => s2 hb⟩
      | false =>
        obtain ⟨c2, cm2, k1, k2, k3⟩ := s1 hb
        have hX2 : yv_X m0 (xp_app 29 0 (f (xp_adv m))) (c ++ c2 ++ [(29, 0)]) ((cm ++ qe q ++ cm2) ++ qe [5]) := (yv_X.tr (m' := xp_adv m) hX k2).op (w := 5) (by decide)
        have hE2 : yv_E (c ++ c2 ++ [(29, 0)]) ((cm ++ qe q ++ cm2) ++ qe [5]) := hE.bin k1 (by decide) (by decide) xy_jn.2.2.1
        have := yT_loop (o := o) hf hm hg hV N (xp_app 29 0 (f (xp_adv m))) _ _ [5] hb g2 (by show ts.length ≤ (f (xp_adv m)).1 + N; omega) (Or.inr rfl) hE2 hX2
        have e : yp_R ts ou (m.1 + 1, false, o ++ (cm ++ qe q), 5 :: V, ns, true) = yp_R ts ou ((f (xp_adv m)).1, false, o ++ (cm ++ qe q ++ cm2), [5] ++ V, ns, false) := by
          have k3 : yp_R ts ou (m.1 + 1, false, o ++ (cm ++ qe q), 5 :: V, ns, true) = _ := k3
          rw [k3, List.append_assoc o]
          rfl
        rw [e]
        exact this
    · rw [if_neg (by rw [beq_iff_eq]; exact h29)]
      exact ⟨fun _ => ⟨c, cm, q, hq, hE, hX, h29, rfl⟩, fun h => by rw [hw] at h; cases h⟩
theorem yT.of {ts : List (Nat × Int32)} {ou ns : Int32} {f : xp_M → xp_M} (hts : ts.length ≤ 81) (hf : yS ts ou ns f) (hm : xp_Mo f) (hg : xp_Gr ts.length 0 f) : yT ts ou ns (xp_Pf ts f) := by
  intro m o V hV5 hV6 hw hl hl1
  obtain ⟨s1, s2⟩ := hf m o V hV6 hw hl hl1
  obtain ⟨g1, g2, -⟩ := hg m hl
  unfold xp_Pf
  cases hb : (f m).2.1 with
  | true =>
    have : (xp_loop ts (fun h => h == 29) f 80 (f m)).2.1 = true := xp_Mo.loop hm 80 _ hb
    exact ⟨fun z => absurd (this.symm.trans z) (by decide), fun _ => s2 hb⟩
  | false =>
    obtain ⟨c, cm, k1, k2, k3⟩ := s1 hb
    have := yT_loop (o := o) hf hm hg hV5 80 (f m) c cm [] hb g2 (by omega) (Or.inl rfl) (by simpa [qe] using k1) (by simpa [qe] using k2)
    rw [k3]
    exact this
theorem yU_loop {ts : List (Nat × Int32)} {ou ns : Int32} {f : xp_M → xp_M} (hf : yT ts ou ns f) (hm : xp_Mo f) (hg : xp_Gr ts.length 0 f) {m0 : xp_M} {o : yp_O} {V : List Nat} (hV : V = [] ∨ V.head? = some 13) :
    ∀ (N : Nat) (m : xp_M) (c : List (Nat × Int32)) (cm : yp_O) (q : List Nat), m.2.1 = false → m.1 ≤ ts.length → ts.length ≤ m.1 + N → (∀ w, w ∈ q → w = 3 ∨ w = 4 ∨ w = 5) → yv_E c (cm ++ qe q) → yv_X m0 m c (cm ++ qe q) → xp_hd ts m.1 ≠ 29 →
      ((xp_loop ts (fun h => h == 27 || h == 28) f N m).2.1 = false → ∃ c' cm' q', (∀ w, w ∈ q' → w = 3 ∨ w = 4 ∨ w = 5) ∧ yv_E c' (cm' ++ qe q') ∧ yv_X m0 (xp_loop ts (fun h => h == 27 || h == 28) f N m) c' (cm' ++ qe q') ∧ yp_wh (xp_hd ts (xp_loop ts (fun h => h == 27 || h == 28) f N m).1) = 0 ∧ yp_R ts ou (m.1, false, o ++ cm, q ++ V, ns, false) = yp_R ts ou ((xp_loop ts (fun h => h == 27 || h == 28) f N m).1, false, o ++ cm', q' ++ V, ns, false)) ∧
      ((xp_loop ts (fun h => h == 27 || h == 28) f N m).2.1 = true → (yp_fin (yp_R ts ou (m.1, false, o ++ cm, q ++ V, ns, false))).2.1 = true)
  | 0, m, c, cm, q, hw, hl, hN, hq, hE, hX, h29 => by
    refine ⟨fun _ => ⟨c, cm, q, hq, hE, hX, ?_, rfl⟩, fun h => ?_⟩
    · show yp_wh (xp_hd ts m.1) = 0
      rw [xp_end (by omega)]
      rfl
    · have h : m.2.1 = true := h
      rw [hw] at h
      cases h
  | N + 1, m, c, cm, q, hw, hl, hN, hq, hE, hX, h29 => by
    rw [xp_loop]
    by_cases hpm : xp_hd ts m.1 = 27 ∨ xp_hd ts m.1 = 28
    · obtain ⟨h, hh⟩ : ∃ h, h = xp_hd ts m.1 := ⟨_, rfl⟩
      have hlt : m.1 < ts.length := xp_hd_lt rfl (by omega)
      rw [← hh] at hpm ⊢
      rw [if_pos (by rcases hpm with rfl | rfl <;> rfl)]
      obtain ⟨w, hw3, hwh, hjn, ht⟩ : ∃ w, (w = 3 ∨ w = 4) ∧ yp_wh h = w ∧ (∀ x y, xk_jn h x y = yj w x y) ∧ (h ≠ 33 ∧ h ≠ 34 ∧ h ≠ 14) := by
        rcases hpm with rfl | rfl
        · exact ⟨3, Or.inl rfl, rfl, xy_jn.1, by decide⟩
        · exact ⟨4, Or.inr rfl, rfl, xy_jn.2.1, by decide⟩
      obtain ⟨g1, g2, -⟩ := hg (xp_adv m) (show m.1 + 1 ≤ ts.length by omega)
      have g1 : m.1 + 1 ≤ (f (xp_adv m)).1 := g1
      have hR : yp_R ts ou (m.1, false, o ++ cm, q ++ V, ns, false) = yp_R ts ou (m.1 + 1, false, o ++ (cm ++ qe q), w :: V, ns, true) := by
        have e : yp_rtor ts (m.1, false, o ++ cm, q ++ V, ns, false) = (true, (m.1 + 1, false, o ++ (cm ++ qe q), w :: V, ns, true)) := by
          unfold yp_rtor
          dsimp only
          rw [← hh, hwh, if_pos (by omega), yp_pp3 (by omega) hV q _ hq, List.append_assoc]
        rw [yp_R_rtor rfl rfl (by rw [e]), e]
      obtain ⟨s1, s2⟩ := hf (xp_adv m) (o ++ (cm ++ qe q)) (w :: V) (by simp; omega) (by simp; omega) hw (show m.1 + 1 ≤ ts.length by omega) (show 1 ≤ m.1 + 1 by omega)
      rw [hR]
      cases hb : (f (xp_adv m)).2.1 with
      | true =>
        have : (xp_loop ts (fun h => h == 27 || h == 28) f N (xp_app h 0 (f (xp_adv m)))).2.1 = true := xp_Mo.loop hm N _ hb
        exact ⟨fun z => absurd (this.symm.trans z) (by decide), fun _ => s2 hb⟩
      | false =>
        obtain ⟨c2, cm2, q2, hq2, k1, k2, k29, k3⟩ := s1 hb
        have ea : (cm ++ qe q) ++ (cm2 ++ qe q2) ++ [(w, 0)] = (cm ++ qe q ++ cm2) ++ qe (q2 ++ [w]) := by
          rw [qe_app]
          simp [qe]
        have hX2 : yv_X m0 (xp_app h 0 (f (xp_adv m))) (c ++ c2 ++ [(h, 0)]) ((cm ++ qe q ++ cm2) ++ qe (q2 ++ [w])) := by
          rw [← ea]
          exact (yv_X.tr (m' := xp_adv m) hX k2).op (by omega)
        have hE2 : yv_E (c ++ c2 ++ [(h, 0)]) ((cm ++ qe q ++ cm2) ++ qe (q2 ++ [w])) := by
          rw [← ea]
          exact hE.bin k1 ht (by omega) hjn
        have := yU_loop (o := o) hf hm hg hV N (xp_app h 0 (f (xp_adv m))) _ _ (q2 ++ [w]) hb g2 (by show ts.length ≤ (f (xp_adv m)).1 + N; omega) (fun x hx => by
          rcases List.mem_append.mp hx with hx | hx
          · rcases hq2 with rfl | rfl
            · cases hx
            · exact Or.inr (Or.inr (List.mem_singleton.mp hx))
          · rw [List.mem_singleton.mp hx]; omega) hE2 hX2 k29
        have e : yp_R ts ou (m.1 + 1, false, o ++ (cm ++ qe q), w :: V, ns, true) = yp_R ts ou ((f (xp_adv m)).1, false, o ++ (cm ++ qe q ++ cm2), (q2 ++ [w]) ++ V, ns, false) := by
          have k3 : yp_R ts ou (m.1 + 1, false, o ++ (cm ++ qe q), w :: V, ns, true) = _ := k3
          rw [k3, List.append_assoc o, List.append_assoc q2]
          rfl
        rw [e]
        exact this
    · rw [if_neg (by simp only [Bool.or_eq_true, beq_iff_eq]; exact hpm)]
      refine ⟨fun _ => ⟨c, cm, q, hq, hE, hX, ?_, rfl⟩, fun h => by rw [hw] at h; cases h⟩
      unfold yp_wh
      rw [if_neg (fun e => hpm (Or.inl e)), if_neg (fun e => hpm (Or.inr e)), if_neg h29]
theorem yU.of {ts : List (Nat × Int32)} {ou ns : Int32} {f : xp_M → xp_M} (hts : ts.length ≤ 81) (hf : yS ts ou ns f) (hm : xp_Mo f) (hg : xp_Gr ts.length 0 f) : yU ts ou ns (xp_Ef ts f) := by
  intro m o V hV hw hl hl1
  have hT := yT.of hts hf hm hg
  obtain ⟨s1, s2⟩ := hT m o V (by rcases hV with rfl | hV; · simp
                                  · rw [hV]; decide) (by rcases hV with rfl | hV; · simp
                                                         · rw [hV]; decide) hw hl hl1
  obtain ⟨g1, g2, -⟩ := hg.Pf m hl
  unfold xp_Ef
  cases hb : (xp_Pf ts f m).2.1 with
  | true =>
    have : (xp_loop ts (fun h => h == 27 || h == 28) (xp_Pf ts f) 80 (xp_Pf ts f m)).2.1 = true := xp_Mo.loop hm.Pf 80 _ hb
    exact ⟨fun z => absurd (this.symm.trans z) (by decide), fun _ => s2 hb⟩
  | false =>
    obtain ⟨c, cm, q, hq, k1, k2, k29, k3⟩ := s1 hb
    have := yU_loop (o := o) hT hm.Pf hg.Pf hV 80 (xp_Pf ts f m) c cm q hb g2 (by omega) (fun w hx => by
      rcases hq with rfl | rfl
      · cases hx
      · exact Or.inr (Or.inr (List.mem_singleton.mp hx))) k1 k2 k29
    rw [k3]
    exact this
