/-! the law: a run keeps the labels -/
theorem xr_add_mem {L : List xr_E} {e x : xr_E} (h : x ∈ xr_add L e) : x = e ∨ x ∈ L := by
  obtain ⟨A, B, h1, h2, -⟩ := xr_add_split L e
  rw [h2] at h
  rw [h1]
  rcases List.mem_append.mp h with h | h
  · exact Or.inr (List.mem_append.mpr (Or.inl h))
  · rcases List.mem_cons.mp h with h | h
    · exact Or.inl h
    · exact Or.inr (List.mem_append.mpr (Or.inr h))
theorem xo_up_lb {B : xr_E → Bool} {val : xr_E → Int32} {lab col : Nat} (hcol : col = 1 ∨ col = 2) : ∀ (T L : List xr_E) (c : Nat) (L' : List xr_E) (c' : Nat), xo_up B val lab col T L c = some (L', c') → (∀ e, e ∈ L → e.2.2.2 = nI lab) → ∀ e, e ∈ L' → e.2.2.2 = nI lab
  | [], L, c, L', c', h, hL => by
    rw [xo_up, Option.some.injEq, Prod.mk.injEq] at h
    rw [← h.1]
    exact hL
  | x :: T, L, c, L', c', h, hL => by
    rw [xo_up] at h
    split at h
    · split at h
      · split at h
        · refine xo_up_lb hcol T _ _ L' c' h (fun e he => ?_)
          unfold xo_chg at he
          obtain ⟨y, hy, rfl⟩ := List.mem_map.mp he
          have hy := hL y hy
          split
          · rcases hcol with rfl | rfl <;> exact hy
          · exact hy
        · exact xo_up_lb hcol T _ _ L' c' h hL
      · split at h
        · cases h
        · refine xo_up_lb hcol T _ _ L' c' h (fun e he => ?_)
          rcases xr_add_mem he with rfl | he
          · rfl
          · exact hL e he
    · exact xo_up_lb hcol T _ _ L' c' h hL
theorem yRs.lb {W : xp_W} {v t lab : Nat} {V U L' : List xr_E} {Bz : Int32} (h : yRs W v t lab V U Bz L') (hU : ∀ e, e ∈ U → e.2.2.2 = nI lab) : ∀ e, e ∈ L' → e.2.2.2 = nI lab := by
  rcases h with ⟨a, x, x1, x2⟩ | ⟨a, B, x1, x2, x3⟩ | ⟨a, B, val, col, x1, x2, x3, x4, x5⟩
  · unfold xo_ins at x2
    split at x2
    · rw [Prod.mk.injEq] at x2
      rw [← x2.2]; exact hU
    · split at x2
      · rw [Prod.mk.injEq] at x2
        rw [← x2.2]; exact hU
      · rw [Prod.mk.injEq] at x2
        rw [← x2.2]
        intro e he
        rcases xr_add_mem he with rfl | he
        · rfl
        · exact hU e he
  · rw [x3]
    intro e he
    exact hU e (List.mem_filter.mp he).1
  · rcases x5 with ⟨p1, p2, p3⟩ | ⟨c, p1, p2⟩
    · rw [p3]; exact hU
    · exact xo_up_lb x3 V U 0 L' c p1 hU
theorem GD.dd {D : xx_D} {i : Nat} (hG : GD D) : GD (yDd D i) := hG.es (fun c hc => by cases hc)
theorem yRun.G {W : xp_W} {dr : List Nat} {D D' : xx_D} {i : Nat} {a : Int32} (hG : GD D) (hl : ∀ i, i < 4 → D.1 i < 8) (hi : i < 4) (h : yRun W dr D i a D') : GD D' := by
  have hd := hG.dd (i := i)
  have hlb := hG.lb (hl i hi)
  have hni : ¬ nI i = -1 := nI_m1 (by omega)
  rcases h with (⟨p1, p2, p3⟩ | ⟨p1, p2, p3, p4⟩ | ⟨p1, p2, p3, p4⟩) | ⟨p1, p2, p3, f, s, n0, two, top, Wh, val, hS, hL⟩
  · rw [p3]; exact hd
  · rw [p4]; exact hd
  · rcases p4 with ⟨r1, r2, r3, r4⟩ | ⟨r1, t, L1, r2, r3, r4, r5⟩ | ⟨r1, t, Bz, L1, r2, r3, r4, r5, r6⟩
    · rw [r4]; exact hd
    · rw [r5]
      have hL1 := r4.lb (hlb t r2).2
      have hh : (yDd D i).2.2.2.1 (D.1 i) = nI i := r1
      unfold yD'
      rw [hh]
      refine hd.ds (fun t' ht' => ⟨(hlb t' ht').1, fun e he => ?_⟩) (fun z => absurd z hni)
      have he : e ∈ (if t' = t then L1 else D.2.2.1 (D.1 i) t') := he
      split at he
      · exact hL1 e he
      · exact (hlb t' ht').2 e he
    · rw [r6]
      have hL1 := r4.lb (hlb t r2).1
      have key : ∀ t', t' < 2 → ∀ e, e ∈ yU' (yDd D i) (D.1 i) t L1 t' → e.2.2.2 = nI (D.1 i) := by
        intro t' ht' e he
        have he : e ∈ (if t' = t then L1 else D.2.1 (D.1 i) t') := he
        split at he
        · exact hL1 e he
        · exact (hlb t' ht').1 e he
      unfold yFre
      split
      · exact hd
      · split
        · exact hd
        · exact hd.ds (fun t' ht' => ⟨key t' ht', key t' ht'⟩) (fun _ => rfl)
  · rcases hL with ⟨q1, q2, q3⟩ | ⟨FL, q1, q2, q3⟩
    · rw [q3]; exact hd
    · rw [q3]; exact hd.es (hd.2 i hi)
/-! the law: the invariant -/
theorem ym_O.out {P : Nat → Prop} {σ σ' : am_S} {m : Nat} {D : xx_D} (h : ym_O σ m D) (hf : am_fm P σ σ') (hd : ∀ b, m ≤ b → b < m + 32 → ¬ P b) : ym_O σ' m D := by
  have n : ∀ o, o < 32 → am_i σ' (m + o) = am_i σ (m + o) := fun o ho => (hf.2.2.2 (m + o) (hd _ (by omega) (by omega))).1
  obtain ⟨h1, h2, ⟨P', h3, h4⟩, h5, h6⟩ := h
  refine ⟨h1.fm hf (hd _ (by omega) (by omega)), by rw [n 1 (by decide)]; exact h2, ⟨P', ?_, h4⟩, by rw [n 6 (by decide), n 7 (by decide)]; exact h5, fun i hi => ?_⟩
  · unfold ym_P
    rw [n 2 (by decide), n 3 (by decide), n 4 (by decide), n 5 (by decide)]
    exact h3
  · unfold ym_Se
    rw [n 8 (by decide), n 9 (by decide), n 29 (by decide), n 30 (by decide), n 31 (by decide)]
    exact h6 i hi
theorem ym_q.out {P : Nat → Prop} {σ σ' : am_S} {m : Nat} (h : ym_q σ m) (hf : am_fm P σ σ') (hd : ∀ b, m ≤ b → b < m + 32 → ¬ P b) : ym_q σ' m := h.fr (hf.2.2.2 m (hd m (by omega) (by omega))).1 (hf.2.2.2 (m + 14) (hd _ (by omega) (by omega))).1
theorem xx_O.out {g : am_G} {P : Nat → Prop} {σ σ' : am_S} {X : Nat} {D : xx_D} (h : xx_O g σ X D) (hf : am_fm P σ σ') (hd : ∀ b, P b → X + 719 ≤ b) : xx_O g σ' X D := by
  have n : ∀ b, b < X + 719 → ¬ P b := fun b hb z => by have := hd b z; omega
  obtain ⟨⟨a1, a2, a3, a4, a5, a6, a7, a8, a9⟩, hst, hse, hT, hp, ⟨p1, L1, h1⟩, hl, ⟨p2, L2, h2⟩, p3, L3, h3⟩ := h
  refine ⟨?_, fun i hi => ?_, fun i hi => ?_, hT.fm hf (fun b x => by have := hd b x; omega), hp.fm hf (fun b x => by have := hd b x; omega), ⟨p1, L1, h1.fm hf (fun b x y => n b (by omega))⟩, ?_, ⟨p2, L2, h2.fm hf (fun b x y => n b (by omega))⟩, p3, L3, h3.fm hf (fun b x y => n b (by omega))⟩
  · rw [hf.1, (hf.2.2.2 X (n _ (by omega))).2]
    exact ⟨a1, a2, a3, a4, a5, a6, a7, a8, a9⟩
  · obtain ⟨b1, b2⟩ := hst i hi
    refine ⟨by rw [(hf.2.2.2 (X + 1) (n _ (by omega))).2]; exact b1, ?_⟩
    unfold xx_st at b2 ⊢
    exact b2.fm hf (fun b x y => n b (by omega))
  · obtain ⟨b1, b2, b3⟩ := hse i hi
    refine ⟨by rw [(hf.2.2.2 (X + 2) (n _ (by omega))).2]; exact b1, b2, ?_⟩
    unfold xx_se at b3 ⊢
    exact b3.fm hf (fun b x y => n b (by omega))
  · unfold xl_S
    rw [hf.1, (hf.2.2.2 (X + 88) (n _ (by omega))).2]
    exact hl
/-- what holds at the law's loop -/
def lwI (g : am_G) (σ : am_S) (X b L : Nat) (xs : Nat → Int32) (D : xx_D) : Prop :=
  xx_O g σ X D ∧ ym_O σ (X + 719) D ∧ ym_q σ (X + 719) ∧ GD D ∧ (am_sh σ b = some (.inr (11, L)) ∧ ∀ j, j < L → am_i σ b j = xs j) ∧ b < g.2.2.1.size
theorem lwI.x {g : am_G} {σ σ1 : am_S} {X b L : Nat} {xs : Nat → Int32} {D : xx_D} (h : lwI g σ X b L xs D) (hf : xx_fr X σ σ1) : ym_O σ1 (X + 719) D ∧ ym_q σ1 (X + 719) ∧ (am_sh σ1 b = some (.inr (11, L)) ∧ am_i σ1 b = am_i σ b) := by
  obtain ⟨h1, h2, h3, h4, ⟨h5, h6⟩, h7⟩ := h
  have hX := h1.1.2.2.2.2.2.2.2.2
  exact ⟨h2.out hf (fun b x y z => by omega), h3.out hf (fun b x y z => by omega), by rw [hf.1]; exact h5, (hf.2.2.2 b (by omega)).1⟩
theorem lwI.y {g : am_G} {σ σ1 σ2 : am_S} {X b L : Nat} {xs : Nat → Int32} {D D1 : xx_D} (h : lwI g σ X b L xs D) (hf : xx_fr X σ σ1) (hx : xx_O g σ1 X D1) (hy : ym_O σ2 (X + 719) D1) (hq : ym_q σ2 (X + 719)) (hG : GD D1) (hf2 : ym_f (fun b => X + 719 ≤ b ∧ b ≤ X + 719 + 31) σ1 σ2) : lwI g σ2 X b L xs D1 := by
  obtain ⟨g1, g2, g3, g4⟩ := h.x hf
  obtain ⟨h1, h2, h3, h4, ⟨h5, h6⟩, h7⟩ := h
  have hX := h1.1.2.2.2.2.2.2.2.2
  refine ⟨hx.out hf2.1 (fun b x => x.1), hy, hq, hG, ⟨by rw [hf2.1.1]; exact g3, fun j hj => ?_⟩, h7⟩
  rw [hf2.i (by omega), g4]
  exact h6 j hj
