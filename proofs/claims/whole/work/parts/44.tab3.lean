/-- label j's store is another -/
def xx_ds (D : xx_D) (j : Nat) (C U : Nat → List xr_E) (h : Int32) (n : Nat) : xx_D := (D.1, fun i => if i = j then C else D.2.1 i, fun i => if i = j then U else D.2.2.1 i, fun i => if i = j then h else D.2.2.2.1 i, fun i => if i = j then n else D.2.2.2.2.1 i, D.2.2.2.2.2)
theorem xp_P0.fm {g : am_G} {P : Nat → Prop} {σ σ' : am_S} {pa : Nat} (h : xp_P0 g σ pa) (hf : am_fm P σ σ') (hd : ∀ b, P b → b < pa ∨ pa + 35 ≤ b) : xp_P0 g σ' pa := by
  have n : ∀ b, pa ≤ b → b < pa + 35 → ¬ P b := fun b x y z => by have := hd b z; omega
  obtain ⟨h1, h2, h3, h4, h5, ⟨k, ss, h6⟩, h7⟩ := h
  refine ⟨by rw [hf.1]; exact h1, by rw [(hf.2.2.2 _ (n pa (by omega) (by omega))).2]; exact h2, by rw [(hf.2.2.2 _ (n pa (by omega) (by omega))).2]; exact h3, h4.fm hf (n _ (by omega) (by omega)), h5.fm hf (n _ (by omega) (by omega)) (n _ (by omega) (by omega)) (n _ (by omega) (by omega)), ⟨k, ss, h6.fm hf (fun b x y z => by have := hd b z; omega)⟩, h7⟩
theorem xx_O.store {g : am_G} {σ σ' : am_S} {X j n : Nat} {D : xx_D} {C U : Nat → List xr_E} {hh : Int32} (h : xx_O g σ X D) (hj : j < 8) (hf : am_fm (fun b => xx_st X j ≤ b ∧ b < xx_st X j + 44) σ σ') (hs : xo_S σ' (xx_st X j) j C U hh n) : xx_O g σ' X (xx_ds D j C U hh n) := by
  obtain ⟨⟨a1, a2, a3, a4, a5, a6, a7, a8, a9⟩, hst, hse, hT, hp, ⟨p1, L1, h1⟩, hl, ⟨p2, L2, h2⟩, p3, L3, h3⟩ := h
  unfold xx_st at hf hs
  have n : ∀ b, b < X + 195 + 44 * j ∨ X + 195 + 44 * j + 44 ≤ b → ¬ (X + 195 + 44 * j ≤ b ∧ b < X + 195 + 44 * j + 44) := fun b x => by omega
  refine ⟨?_, fun i hi => ?_, fun i hi => ?_, hT.fm hf (fun b x => by omega), hp.fm hf (fun b x => by omega), ⟨p1, L1, h1.fm hf (fun b x y => by omega)⟩, ?_, ⟨p2, L2, h2.fm hf (fun b x y => by omega)⟩, p3, L3, h3.fm hf (fun b x y => by omega)⟩
  · rw [hf.1, (hf.2.2.2 X (by omega)).2]
    exact ⟨a1, a2, a3, a4, a5, a6, a7, a8, a9⟩
  · obtain ⟨b1, b2⟩ := hst i hi
    refine ⟨by rw [(hf.2.2.2 (X + 1) (by omega)).2]; exact b1, ?_⟩
    show xo_S σ' (xx_st X i) i (if i = j then C else D.2.1 i) (if i = j then U else D.2.2.1 i) (if i = j then hh else D.2.2.2.1 i) (if i = j then _ else D.2.2.2.2.1 i)
    by_cases e : i = j
    · subst e
      rw [if_pos rfl, if_pos rfl, if_pos rfl, if_pos rfl]
      exact hs
    · rw [if_neg e, if_neg e, if_neg e, if_neg e]
      unfold xx_st at b2 ⊢
      exact b2.fm hf (fun b x y => by omega)
  · obtain ⟨b1, b2, b3⟩ := hse i hi
    unfold xx_se at b1 b3 ⊢
    exact ⟨by rw [(hf.2.2.2 (X + 2) (by omega)).2]; exact b1, b2, b3.fm hf (fun b x y => by omega)⟩
  · unfold xl_S
    rw [hf.1, (hf.2.2.2 (X + 88) (by omega)).2]
    exact hl
