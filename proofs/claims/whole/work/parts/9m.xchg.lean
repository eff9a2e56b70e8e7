/-! x: Store.change, on the whole object -/
theorem xx_O.prs {g : am_G} {σ σ' : am_S} {X : Nat} {D : xx_D} (h : xx_O g σ X D) (hf : am_fm (fun b => X + 53 ≤ b ∧ b < X + 88) σ σ') (hp' : xp_P0 g σ' (X + 53)) : xx_O g σ' X D := by
  obtain ⟨⟨a1, a2, a3, a4, a5, a6, a7, a8, a9⟩, hst, hse, hT, hp, ⟨p1, L1, h1⟩, hl, ⟨p2, L2, h2⟩, p3, L3, h3⟩ := h
  refine ⟨?_, fun i hi => ?_, fun i hi => ?_, hT.fm hf (fun b x => by omega), hp', ⟨p1, L1, h1.fm hf (fun b x y => by omega)⟩, ?_, ⟨p2, L2, h2.fm hf (fun b x y => by omega)⟩, p3, L3, h3.fm hf (fun b x y => by omega)⟩
  · rw [hf.1, (hf.2.2.2 X (by omega)).2]
    exact ⟨a1, a2, a3, a4, a5, a6, a7, a8, a9⟩
  · obtain ⟨b1, b2⟩ := hst i hi
    refine ⟨by rw [(hf.2.2.2 (X + 1) (by omega)).2]; exact b1, ?_⟩
    unfold xx_st at b2 ⊢
    exact b2.fm hf (fun b x y => by omega)
  · obtain ⟨b1, b2, b3⟩ := hse i hi
    unfold xx_se at b1 b3 ⊢
    exact ⟨by rw [(hf.2.2.2 (X + 2) (by omega)).2]; exact b1, b2, b3.fm hf (fun b x y => by omega)⟩
  · unfold xl_S
    rw [hf.1, (hf.2.2.2 (X + 88) (by omega)).2]
    exact hl
theorem xx_O.chg {g : am_G} {σ σ' : am_S} {X j n : Nat} {D : xx_D} {C U : Nat → List xr_E} {hh : Int32} {k : Nat → Nat} {ss : Nat → List (Nat × Int32)} (h : xx_O g σ X D) (hj : j < 8) (hf : am_fm (xo_P (X + 54) (xx_st X j)) σ σ') (hs : xo_S σ' (xx_st X j) j C U hh n) (hx : xs_S σ' (X + 54)) (hc : xs_CS g σ' (X + 54) k ss) : xx_O g σ' X (xx_ds D j C U hh n) := by
  obtain ⟨⟨a1, a2, a3, a4, a5, a6, a7, a8, a9⟩, hst, hse, hT, hp, ⟨p1, L1, h1⟩, hl, ⟨p2, L2, h2⟩, p3, L3, h3⟩ := h
  unfold xo_P xx_st at hf
  unfold xx_st at hs
  obtain ⟨g1, g2, g3, g4, g5, g6, g7⟩ := hp
  refine ⟨?_, fun i hi => ?_, fun i hi => ?_, hT.fm hf (fun b x => by omega), ⟨by rw [hf.1]; exact g1, by rw [(hf.2.2.2 (X + 53) (by omega)).2]; exact g2, by rw [(hf.2.2.2 (X + 53) (by omega)).2]; exact g3, g4.fm hf (by omega), hx, ⟨k, ss, hc⟩, g7⟩, ⟨p1, L1, h1.fm hf (fun b x y => by omega)⟩, ?_, ⟨p2, L2, h2.fm hf (fun b x y => by omega)⟩, p3, L3, h3.fm hf (fun b x y => by omega)⟩
  · rw [hf.1, (hf.2.2.2 X (by omega)).2]
    exact ⟨a1, a2, a3, a4, a5, a6, a7, a8, a9⟩
  · obtain ⟨b1, b2⟩ := hst i hi
    refine ⟨by rw [(hf.2.2.2 (X + 1) (by omega)).2]; exact b1, ?_⟩
    show xo_S σ' (xx_st X i) i (if i = j then C else D.2.1 i) (if i = j then U else D.2.2.1 i) (if i = j then hh else D.2.2.2.1 i) (if i = j then _ else D.2.2.2.2.1 i)
    by_cases e : i = j
    · subst e
      rw [if_pos rfl, if_pos rfl, if_pos rfl, if_pos rfl]
      exact hs
    · rw [if_neg e, if_neg e, if_neg e, if_neg e]
      unfold xx_st at b2 ⊢
      exact b2.fm hf (fun b x y => by omega)
  · obtain ⟨b1, b2, b3⟩ := hse i hi
    unfold xx_se at b1 b3 ⊢
    exact ⟨by rw [(hf.2.2.2 (X + 2) (by omega)).2]; exact b1, b2, b3.fm hf (fun b x y => by omega)⟩
  · unfold xl_S
    rw [hf.1, (hf.2.2.2 (X + 88) (by omega)).2]
    exact hl
/-- the statement that x has read -/
def xSt (g : am_G) (σ : am_S) (X : Nat) (W : xp_W) (v t : Nat) : Prop := xs_S σ (X + 54) ∧ xs_CS g σ (X + 54) W.2.1 W.2.2.1 ∧ am_i σ (X + 54) 3 = nI t ∧ am_i σ (X + 54) 5 = W.1 5 ∧ am_r σ (X + 54) 0 = some (am_tk g v) ∧ t < 2 ∧ v < 37
/-- its codes are worth something -/
def xEx (W : xp_W) (v t : Nat) : Prop :=
  (v = 0 ∧ ∃ x : Nat → Int32, ∀ j, j < 3 → ∀ env, xk_run env (W.2.2.1 j) [] = some [x j]) ∨
  (v = 2 ∧ ∃ B : xr_E → Bool, ∀ e, xo_wh B t W.2.1 W.2.2.1 e) ∨
  (v = 1 ∧ ∃ (B : xr_E → Bool) (val : xr_E → Int32) (col : Nat), (∀ e, xo_wh B t W.2.1 W.2.2.1 e) ∧ (∀ e env, xs_m env t e → xs_m env 2 e → xk_run env (W.2.2.1 0) [] = some [val e]) ∧ (col = 1 ∨ col = 2) ∧ W.1 5 = nI col)
theorem yFa.ex {dr : List Nat} {S : ys_S} {f : Nat → Int32} (h : yFa dr S) (hf : f 4 = -1) (hkn : ykn S.2.2.2 (decide (xp_hd (xn_sc dr 0) 0 = 0)) S.2.2.1 = false) (h3 : xp_hd (xn_sc dr 0) 0 ≠ 3) : xEx (xp_parse (xn_sc dr 0) f) (xp_hd (xn_sc dr 0) 0) (S.2.2.2 1) := by
  obtain ⟨-, -, hk, hcase⟩ := h.2 f hf
  rcases hcase with ⟨hv, hQ⟩ | ⟨hv, hQ⟩ | ⟨hv, hQ⟩ | ⟨hv, hQ⟩
  · obtain ⟨q1, q2, q3, q4, q5, q6, q7⟩ := hQ
    rw [decide_eq_true hv] at hkn
    have hno := ykn_ins hkn
    have hno2 : ∀ q, q ∈ S.2.2.1 → q.1 ≠ 2 := fun q hq c => by
      obtain ⟨p, hp, ep⟩ := hk q hq c
      exact hno p hp (by rw [← c, ← ep]; exact hq)
    obtain ⟨c0, v0, z0, y0, x0⟩ := q5.none hno2
    obtain ⟨c1, v1, z1, y1, x1⟩ := q6.none hno2
    obtain ⟨c2, v2, z2, y2, x2⟩ := q7.none hno2
    refine Or.inl ⟨hv, fun j => if j = 0 then v0 else if j = 1 then v1 else v2, fun j hj => ?_⟩
    have : j = 0 ∨ j = 1 ∨ j = 2 := by omega
    rcases this with rfl | rfl | rfl
    · exact x0
    · exact x1
    · exact x2
  · obtain ⟨q1, q2, q3, q4, q5, q6, q7, q8⟩ := hQ
    have hon := ykn_only hk hkn q1
    obtain ⟨cm, B, hB1, hB2⟩ := q8.one hon
    obtain ⟨cv, val, hz, hv1, hv2⟩ := q7.one hon
    exact Or.inr (Or.inr ⟨hv, B, val, S.2.2.2 3, hB2, hv2, q5, q6⟩)
  · obtain ⟨q1, q2, q3, q4, q5⟩ := hQ
    have hon := ykn_only hk hkn q1
    obtain ⟨cm, B, hB1, hB2⟩ := q5.one hon
    exact Or.inr (Or.inl ⟨hv, B, hB2⟩)
  · exact absurd hv h3
theorem c_xstc {g : am_G} {l : Launch} {σ : am_S} {X lab v t : Nat} {D : xx_D} {W : xp_W} {V : List xr_E} {p' : Nat → Nat} (h : xx_O g σ X D) (hl : lab < 8) (hS : xSt g σ X W v t) (hx : xEx W v t) (hV : xr_R σ (X + 3) 48 p' V) :
    am_C g l mX7_change 5 (am_tp σ, am_us σ) [.ref (xx_st X lab), .ref (X + 54), .ref (X + 3)] σ (fun o σ' => ∃ Bz L', o = some (.int Bz) ∧ yRs W v t lab V (D.2.2.1 lab t) Bz L' ∧ xx_O g σ' X (yD' D lab t L') ∧ am_fm (xo_P (X + 54) (xx_st X lab)) σ σ') := by
  obtain ⟨s1, s2, s3, s4, s5, s6, s7⟩ := hS
  have hK := h.2.2.2.1.1
  have hsz := h.1.2.2.2.2.2.2.2.2
  have H := (h.2.1 lab hl).2
  have hsep : X + 54 + 31 ≤ xx_st X lab := by unfold xx_st; omega
  refine xo_chg0 hK H s1 s6 s3 s5 s7 (fun hv => ?_) (fun hv => ?_) (fun hv0 hv2 => ?_)
  · rcases hx with ⟨_, x, hx⟩ | ⟨a, _⟩ | ⟨a, _⟩
    · refine c_oinsert hK H s1 s2 (by omega) hsep s6 hx (fun σ' Bz L' hi hs1 hs2 hs3 hf => ⟨Bz, rfl, Bz, L', rfl, Or.inl ⟨hv, x, hx, hi⟩, h.chg hl hf hs1 hs2 hs3, hf⟩)
    · omega
    · omega
  · rcases hx with ⟨a, _⟩ | ⟨_, B, hx⟩ | ⟨a, _⟩
    · omega
    · refine c_odelete (B := B) hK H s1 s2 (by omega) hsep s6 s3 (fun e _ => hx e) (fun σ' hs1 hs2 hs3 hf => ⟨_, rfl, _, _, rfl, Or.inr (Or.inl ⟨hv, B, hx, rfl, rfl⟩), h.chg hl hf hs1 hs2 hs3, hf⟩)
    · omega
  · rcases hx with ⟨a, _⟩ | ⟨a, _⟩ | ⟨a, B, val, col, x1, x2, x3, x4⟩
    · omega
    · omega
    · refine c_oupdate (B := B) (val := val) (col := col) hK H hV s1 s2 (by omega) (by omega) hsep s6 s3 x3 (by rw [s4]; exact x4) (fun e _ => ⟨x1 e, fun env p q => x2 e env p q⟩) (fun σ' Bz L' hr hs1 hs2 hs3 hf => ⟨Bz, rfl, Bz, L', rfl, Or.inr (Or.inr ⟨a, B, val, col, x1, x2, x3, x4, hr⟩), h.chg hl hf hs1 hs2 hs3, hf⟩)
