/-! conditions: the levels -/
def zN (ts : List (Nat × Int32)) (ou : Int32) (f : xp_M → xp_M) : Prop := ∀ m o H, m.2.1 = false → m.1 ≤ ts.length → 1 ≤ m.1 →
  ((f m).2.1 = false → ∃ c cm, yv_B c cm ∧ yv_X m (f m) c cm ∧ yc_R ts (m.1, false, o, ou, H, 2) = yc_R ts (yc_nts ((f m).1, false, o ++ cm, ou, H, 1))) ∧ ((f m).2.1 = true → (yc_fin (yc_R ts (m.1, false, o, ou, H, 2))).2.1 = true)
def zS (ts : List (Nat × Int32)) (ou : Int32) (f : xp_M → xp_M) : Prop := ∀ m o H, H.head? ≠ some 10 → m.2.1 = false → m.1 ≤ ts.length → 1 ≤ m.1 →
  ((f m).2.1 = false → ∃ c cm, yv_B c cm ∧ yv_X m (f m) c cm ∧ yc_R ts (m.1, false, o, ou, H, 2) = yc_R ts ((f m).1, false, o ++ cm, ou, H, 1)) ∧ ((f m).2.1 = true → (yc_fin (yc_R ts (m.1, false, o, ou, H, 2))).2.1 = true)
def zT (ts : List (Nat × Int32)) (ou : Int32) (f : xp_M → xp_M) : Prop := ∀ m o H, H.head? ≠ some 11 → H.head? ≠ some 10 → m.2.1 = false → m.1 ≤ ts.length → 1 ≤ m.1 →
  ((f m).2.1 = false → ∃ c cm q, (q = [] ∨ q = [11]) ∧ yv_B c (cm ++ qe q) ∧ yv_X m (f m) c (cm ++ qe q) ∧ xp_hd ts (f m).1 ≠ 12 ∧ yc_R ts (m.1, false, o, ou, H, 2) = yc_R ts ((f m).1, false, o ++ cm, ou, q ++ H, 1)) ∧ ((f m).2.1 = true → (yc_fin (yc_R ts (m.1, false, o, ou, H, 2))).2.1 = true)
def zU (ts : List (Nat × Int32)) (ou : Int32) (f : xp_M → xp_M) : Prop := ∀ m o H, (H = [] ∨ H.head? = some 13) → m.2.1 = false → m.1 ≤ ts.length → 1 ≤ m.1 →
  ((f m).2.1 = false → ∃ c cm q, (∀ w, w ∈ q → w = 11 ∨ w = 12) ∧ yv_B c (cm ++ qe q) ∧ yv_X m (f m) c (cm ++ qe q) ∧ ¬ (xp_hd ts (f m).1 = 12 ∨ xp_hd ts (f m).1 = 13) ∧ yc_R ts (m.1, false, o, ou, H, 2) = yc_R ts ((f m).1, false, o ++ cm, ou, q ++ H, 1)) ∧ ((f m).2.1 = true → (yc_fin (yc_R ts (m.1, false, o, ou, H, 2))).2.1 = true)
theorem yc_nt_no {V : List Nat} {n : Int32} {o : yp_O} (h : V.head? ≠ some 10) : yc_nt V n o = (o, V, n) := by
  cases V with
  | nil => rfl
  | cons w V =>
    rw [yc_nt, if_neg (fun e => h (by rw [e]; rfl))]
theorem yc_nts_no {a s : Nat} {b : Bool} {V : List Nat} {n : Int32} {o : yp_O} (h : V.head? ≠ some 10) : yc_nts (a, b, o, n, V, s) = (a, b, o, n, V, s) := by
  unfold yc_nts
  dsimp only
  rw [yc_nt_no h]
theorem zS.of {ts : List (Nat × Int32)} {ou : Int32} {f : xp_M → xp_M} (hf : zN ts ou f) : zS ts ou f := by
  intro m o H hH hw hl h1
  obtain ⟨s1, s2⟩ := hf m o H hw hl h1
  refine ⟨fun hb => ?_, s2⟩
  obtain ⟨c, cm, k1, k2, k3⟩ := s1 hb
  exact ⟨c, cm, k1, k2, by rw [k3, yc_nts_no hH]⟩
theorem yc_cpA {q V : List Nat} {o : yp_O} (hq : q = [] ∨ q = [11]) (hV : V.head? ≠ some 11) : yc_cp true (q ++ V) o = (o ++ qe q, V) := by
  have h0 : ∀ o, yc_cp true V o = (o, V) := fun o => by
    cases V with
    | nil => rfl
    | cons w V =>
      rw [yc_cp, if_neg]
      rintro (e | e)
      · exact hV (by rw [e]; rfl)
      · exact absurd e.1 (by decide)
  rcases hq with rfl | rfl
  · rw [List.nil_append, h0]
    simp [qe]
  · rw [List.cons_append, yc_cp, if_pos (Or.inl rfl), List.nil_append, h0]
    rfl
theorem yc_cpO {V : List Nat} (hV : V = [] ∨ V.head? = some 13) : ∀ (q : List Nat) (o : yp_O), (∀ w, w ∈ q → w = 11 ∨ w = 12) → yc_cp false (q ++ V) o = (o ++ qe q, V)
  | [], o, _ => by
    rw [List.nil_append]
    rcases hV with rfl | hV
    · simp [yc_cp, qe]
    · cases V with
      | nil => simp [yc_cp, qe]
      | cons w V =>
        simp at hV
        subst hV
        rw [yc_cp, if_neg (by omega)]
        simp [qe]
  | w :: q, o, h => by
    have := h w (by simp)
    rw [List.cons_append, yc_cp, if_pos (by rcases this with e | e; · exact Or.inl e
                                            · exact Or.inr ⟨rfl, e⟩), yc_cpO hV q _ (fun x hx => h x (by simp [hx]))]
    simp [qe]
theorem yc_po {V : List Nat} : ∀ (q : List Nat) (o : yp_O), (∀ w, w ∈ q → w = 11 ∨ w = 12) → yp_po (q ++ 13 :: V) o = (o ++ qe q, V)
  | [], o, _ => by
    rw [List.nil_append, yp_po, if_pos rfl]
    simp [qe]
  | w :: q, o, h => by
    have := h w (by simp)
    rw [List.cons_append, yp_po, if_neg (by omega), yc_po q _ (fun x hx => h x (by simp [hx]))]
    simp [qe]
theorem zT_loop {ts : List (Nat × Int32)} {ou : Int32} {f : xp_M → xp_M} (hf : zS ts ou f) (hm : xp_Mo f) (hg : xp_Gr ts.length 1 f) {m0 : xp_M} {o : yp_O} {V : List Nat} (hV : V.head? ≠ some 11) :
    ∀ (N : Nat) (m : xp_M) (c : List (Nat × Int32)) (cm : yp_O) (q : List Nat), m.2.1 = false → m.1 ≤ ts.length → ts.length ≤ m.1 + N → (q = [] ∨ q = [11]) → yv_B c (cm ++ qe q) → yv_X m0 m c (cm ++ qe q) →
      ((xp_loop ts (fun h => h == 12) f N m).2.1 = false → ∃ c' cm' q', (q' = [] ∨ q' = [11]) ∧ yv_B c' (cm' ++ qe q') ∧ yv_X m0 (xp_loop ts (fun h => h == 12) f N m) c' (cm' ++ qe q') ∧ xp_hd ts (xp_loop ts (fun h => h == 12) f N m).1 ≠ 12 ∧ yc_R ts (m.1, false, o ++ cm, ou, q ++ V, 1) = yc_R ts ((xp_loop ts (fun h => h == 12) f N m).1, false, o ++ cm', ou, q' ++ V, 1)) ∧
      ((xp_loop ts (fun h => h == 12) f N m).2.1 = true → (yc_fin (yc_R ts (m.1, false, o ++ cm, ou, q ++ V, 1))).2.1 = true)
  | 0, m, c, cm, q, hw, hl, hN, hq, hE, hX => by
    refine ⟨fun _ => ⟨c, cm, q, hq, hE, hX, ?_, rfl⟩, fun h => ?_⟩
    · show xp_hd ts m.1 ≠ 12
      rw [xp_end (by omega)]
      decide
    · have h : m.2.1 = true := h
      rw [hw] at h
      cases h
  | N + 1, m, c, cm, q, hw, hl, hN, hq, hE, hX => by
    rw [xp_loop]
    by_cases h12 : xp_hd ts m.1 = 12
    · rw [if_pos (by rw [h12]; rfl), h12]
      have hlt : m.1 < ts.length := xp_hd_lt h12 (by decide)
      obtain ⟨g1, g2, -⟩ := hg (xp_adv m) (show m.1 + 1 ≤ ts.length by omega)
      have g1 : m.1 + 1 ≤ (f (xp_adv m)).1 := g1
      have hR : yc_R ts (m.1, false, o ++ cm, ou, q ++ V, 1) = yc_R ts (m.1 + 1, false, o ++ (cm ++ qe q), ou, 11 :: V, 2) := by
        have e : yc_conn ts (m.1, false, o ++ cm, ou, q ++ V, 1) = (m.1 + 1, false, o ++ (cm ++ qe q), ou, 11 :: V, 2) := by
          unfold yc_conn
          dsimp only
          rw [h12, if_pos (Or.inl rfl), if_pos rfl, decide_eq_true rfl, yc_cpA hq hV, List.append_assoc]
        rw [yc_R_conn rfl rfl, e]
      obtain ⟨s1, s2⟩ := hf (xp_adv m) (o ++ (cm ++ qe q)) (11 :: V) (by simp) hw (show m.1 + 1 ≤ ts.length by omega) (show 1 ≤ m.1 + 1 by omega)
      rw [hR]
      cases hb : (f (xp_adv m)).2.1 with
      | true =>
        have : (xp_loop ts (fun h => h == 12) f N (xp_app 12 0 (f (xp_adv m)))).2.1 = true := xp_Mo.loop hm N _ hb
        exact ⟨fun z => absurd (this.symm.trans z) (by decide), fun _ => s2 hb⟩
      | false =>
        obtain ⟨c2, cm2, k1, k2, k3⟩ := s1 hb
        have hX2 : yv_X m0 (xp_app 12 0 (f (xp_adv m))) (c ++ c2 ++ [(12, 0)]) ((cm ++ qe q ++ cm2) ++ qe [11]) := (yv_X.tr (m' := xp_adv m) hX k2).op (w := 11) (by decide)
        have hE2 : yv_B (c ++ c2 ++ [(12, 0)]) ((cm ++ qe q ++ cm2) ++ qe [11]) := hE.bin k1 (by decide) (by decide) (fun a b => a && b) (by decide) (by decide)
        have := zT_loop (o := o) hf hm hg hV N (xp_app 12 0 (f (xp_adv m))) _ _ [11] hb g2 (by show ts.length ≤ (f (xp_adv m)).1 + N; omega) (Or.inr rfl) hE2 hX2
        have e : yc_R ts (m.1 + 1, false, o ++ (cm ++ qe q), ou, 11 :: V, 2) = yc_R ts ((f (xp_adv m)).1, false, o ++ (cm ++ qe q ++ cm2), ou, [11] ++ V, 1) := by
          have k3 : yc_R ts (m.1 + 1, false, o ++ (cm ++ qe q), ou, 11 :: V, 2) = _ := k3
          rw [k3, List.append_assoc o]
          rfl
        rw [e]
        exact this
    · rw [if_neg (by rw [beq_iff_eq]; exact h12)]
      exact ⟨fun _ => ⟨c, cm, q, hq, hE, hX, h12, rfl⟩, fun h => by rw [hw] at h; cases h⟩
theorem zT.of {ts : List (Nat × Int32)} {ou : Int32} {f : xp_M → xp_M} (hts : ts.length ≤ 81) (hf : zS ts ou f) (hm : xp_Mo f) (hg : xp_Gr ts.length 1 f) : zT ts ou (xp_Kf ts f) := by
  intro m o V hV5 hV6 hw hl hl1
  obtain ⟨s1, s2⟩ := hf m o V hV6 hw hl hl1
  obtain ⟨g1, g2, -⟩ := hg m hl
  unfold xp_Kf
  cases hb : (f m).2.1 with
  | true =>
    have : (xp_loop ts (fun h => h == 12) f 80 (f m)).2.1 = true := xp_Mo.loop hm 80 _ hb
    exact ⟨fun z => absurd (this.symm.trans z) (by decide), fun _ => s2 hb⟩
  | false =>
    obtain ⟨c, cm, k1, k2, k3⟩ := s1 hb
    have := zT_loop (o := o) hf hm hg hV5 80 (f m) c cm [] hb g2 (by omega) (Or.inl rfl) (by simpa [qe] using k1) (by simpa [qe] using k2)
    rw [k3]
    exact this
theorem zU_loop {ts : List (Nat × Int32)} {ou : Int32} {f : xp_M → xp_M} (hf : zT ts ou f) (hm : xp_Mo f) (hg : xp_Gr ts.length 1 f) {m0 : xp_M} {o : yp_O} {V : List Nat} (hV : V = [] ∨ V.head? = some 13) :
    ∀ (N : Nat) (m : xp_M) (c : List (Nat × Int32)) (cm : yp_O) (q : List Nat), m.2.1 = false → m.1 ≤ ts.length → ts.length ≤ m.1 + N → (∀ w, w ∈ q → w = 11 ∨ w = 12) → yv_B c (cm ++ qe q) → yv_X m0 m c (cm ++ qe q) → xp_hd ts m.1 ≠ 12 →
      ((xp_loop ts (fun h => h == 13) f N m).2.1 = false → ∃ c' cm' q', (∀ w, w ∈ q' → w = 11 ∨ w = 12) ∧ yv_B c' (cm' ++ qe q') ∧ yv_X m0 (xp_loop ts (fun h => h == 13) f N m) c' (cm' ++ qe q') ∧ ¬ (xp_hd ts (xp_loop ts (fun h => h == 13) f N m).1 = 12 ∨ xp_hd ts (xp_loop ts (fun h => h == 13) f N m).1 = 13) ∧ yc_R ts (m.1, false, o ++ cm, ou, q ++ V, 1) = yc_R ts ((xp_loop ts (fun h => h == 13) f N m).1, false, o ++ cm', ou, q' ++ V, 1)) ∧
      ((xp_loop ts (fun h => h == 13) f N m).2.1 = true → (yc_fin (yc_R ts (m.1, false, o ++ cm, ou, q ++ V, 1))).2.1 = true)
  | 0, m, c, cm, q, hw, hl, hN, hq, hE, hX, h12 => by
    refine ⟨fun _ => ⟨c, cm, q, hq, hE, hX, ?_, rfl⟩, fun h => ?_⟩
    · show ¬ (xp_hd ts m.1 = 12 ∨ xp_hd ts m.1 = 13)
      rw [xp_end (by omega)]
      decide
    · have h : m.2.1 = true := h
      rw [hw] at h
      cases h
  | N + 1, m, c, cm, q, hw, hl, hN, hq, hE, hX, h12 => by
    rw [xp_loop]
    by_cases h13 : xp_hd ts m.1 = 13
    · rw [if_pos (by rw [h13]; rfl), h13]
      have hlt : m.1 < ts.length := xp_hd_lt h13 (by decide)
      obtain ⟨g1, g2, -⟩ := hg (xp_adv m) (show m.1 + 1 ≤ ts.length by omega)
      have g1 : m.1 + 1 ≤ (f (xp_adv m)).1 := g1
      have hR : yc_R ts (m.1, false, o ++ cm, ou, q ++ V, 1) = yc_R ts (m.1 + 1, false, o ++ (cm ++ qe q), ou, 12 :: V, 2) := by
        have e : yc_conn ts (m.1, false, o ++ cm, ou, q ++ V, 1) = (m.1 + 1, false, o ++ (cm ++ qe q), ou, 12 :: V, 2) := by
          unfold yc_conn
          dsimp only
          rw [h13, if_pos (Or.inr rfl), if_neg (by decide), decide_eq_false (by decide), yc_cpO hV q _ hq, List.append_assoc]
        rw [yc_R_conn rfl rfl, e]
      obtain ⟨s1, s2⟩ := hf (xp_adv m) (o ++ (cm ++ qe q)) (12 :: V) (by simp) (by simp) hw (show m.1 + 1 ≤ ts.length by omega) (show 1 ≤ m.1 + 1 by omega)
      rw [hR]
      cases hb : (f (xp_adv m)).2.1 with
      | true =>
        have : (xp_loop ts (fun h => h == 13) f N (xp_app 13 0 (f (xp_adv m)))).2.1 = true := xp_Mo.loop hm N _ hb
        exact ⟨fun z => absurd (this.symm.trans z) (by decide), fun _ => s2 hb⟩
      | false =>
        obtain ⟨c2, cm2, q2, hq2, k1, k2, k29, k3⟩ := s1 hb
        have ea : (cm ++ qe q) ++ (cm2 ++ qe q2) ++ [(12, 0)] = (cm ++ qe q ++ cm2) ++ qe (q2 ++ [12]) := by
          rw [qe_app]
          simp [qe]
        have hX2 : yv_X m0 (xp_app 13 0 (f (xp_adv m))) (c ++ c2 ++ [(13, 0)]) ((cm ++ qe q ++ cm2) ++ qe (q2 ++ [12])) := by
          rw [← ea]
          exact (yv_X.tr (m' := xp_adv m) hX k2).op (by decide)
        have hE2 : yv_B (c ++ c2 ++ [(13, 0)]) ((cm ++ qe q ++ cm2) ++ qe (q2 ++ [12])) := by
          rw [← ea]
          exact hE.bin k1 (by decide) (by decide) (fun a b => a || b) (by decide) (by decide)
        have := zU_loop (o := o) hf hm hg hV N (xp_app 13 0 (f (xp_adv m))) _ _ (q2 ++ [12]) hb g2 (by show ts.length ≤ (f (xp_adv m)).1 + N; omega) (fun x hx => by
          rcases List.mem_append.mp hx with hx | hx
          · rcases hq2 with rfl | rfl
            · cases hx
            · exact Or.inl (List.mem_singleton.mp hx)
          · exact Or.inr (List.mem_singleton.mp hx)) hE2 hX2 k29
        have e : yc_R ts (m.1 + 1, false, o ++ (cm ++ qe q), ou, 12 :: V, 2) = yc_R ts ((f (xp_adv m)).1, false, o ++ (cm ++ qe q ++ cm2), ou, (q2 ++ [12]) ++ V, 1) := by
          have k3 : yc_R ts (m.1 + 1, false, o ++ (cm ++ qe q), ou, 12 :: V, 2) = _ := k3
          rw [k3, List.append_assoc o, List.append_assoc q2]
          rfl
        rw [e]
        exact this
    · rw [if_neg (by rw [beq_iff_eq]; exact h13)]
      exact ⟨fun _ => ⟨c, cm, q, hq, hE, hX, fun e => e.elim h12 h13, rfl⟩, fun h => by rw [hw] at h; cases h⟩
theorem zU.of {ts : List (Nat × Int32)} {ou : Int32} {f : xp_M → xp_M} (hts : ts.length ≤ 81) (hf : zS ts ou f) (hm : xp_Mo f) (hg : xp_Gr ts.length 1 f) : zU ts ou (xp_Cf ts f) := by
  intro m o V hV hw hl hl1
  have hT := zT.of hts hf hm hg
  have e1 : V.head? ≠ some 11 := by
    rcases hV with rfl | hV
    · simp
    · rw [hV]; decide
  have e2 : V.head? ≠ some 10 := by
    rcases hV with rfl | hV
    · simp
    · rw [hV]; decide
  obtain ⟨s1, s2⟩ := hT m o V e1 e2 hw hl hl1
  obtain ⟨g1, g2, -⟩ := hg.Kf m hl
  unfold xp_Cf
  cases hb : (xp_Kf ts f m).2.1 with
  | true =>
    have : (xp_loop ts (fun h => h == 13) (xp_Kf ts f) 80 (xp_Kf ts f m)).2.1 = true := xp_Mo.loop hm.Kf 80 _ hb
    exact ⟨fun z => absurd (this.symm.trans z) (by decide), fun _ => s2 hb⟩
  | false =>
    obtain ⟨c, cm, q, hq, k1, k2, k29, k3⟩ := s1 hb
    have := zU_loop (o := o) hT hm.Kf hg.Kf hV 80 (xp_Kf ts f m) c cm q hb g2 (by omega) (fun w hx => by
      rcases hq with rfl | rfl
      · cases hx
      · exact Or.inl (List.mem_singleton.mp hx)) k1 k2 k29
    rw [k3]
    exact this
