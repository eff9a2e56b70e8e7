/-! changed: by what was read -/
theorem c_ychgR {g : am_G} {l : Launch} {σ : am_S} {m i : Nat} {D : xx_D} {dr : List Nat} {S : ys_S} {f : Nat → Int32} (h : yCh σ m i (S.2.2.2 1) S.2.2.2 S.2.2.1 D) (hFa : yFa dr S) (hf : f 4 = -1) (hkn : ykn S.2.2.2 (decide (xp_hd (xn_sc dr 0) 0 = 0)) S.2.2.1 = false) (h3 : xp_hd (xn_sc dr 0) 0 ≠ 3) (h24 : ∀ s, s < 4 → (am_i σ m 24 = yw_c (xt_w s) ↔ xp_hd (xn_sc dr 0) 0 = s)) :
    am_C g l mX10_changed 5 (am_tp σ, am_us σ) [.ref m, .int (nI i), .int (nI (D.1 i)), .int (nI (S.2.2.2 1))] σ (fun v σ' => ∃ Bz L', v = some (.int Bz) ∧ yRs (xp_parse (xn_sc dr 0) f) (xp_hd (xn_sc dr 0) 0) (S.2.2.2 1) (D.1 i) (xx_V D (D.1 i) (S.2.2.2 1)) (D.2.2.1 (D.1 i) (S.2.2.2 1)) Bz L' ∧ ym_O σ' m (yD' D (D.1 i) (S.2.2.2 1) L') ∧ ygF m σ σ') := by
  obtain ⟨-, -, hk, hcase⟩ := hFa.2 f hf
  have hlen := h.2.2.2.2.2.2.2.2.1
  have h100 := h.2.2.2.2.2.2.2.2.2.2
  rcases hcase with ⟨hv, hQ⟩ | ⟨hv, hQ⟩ | ⟨hv, hQ⟩ | ⟨hv, hQ⟩
  · obtain ⟨q1, q2, q3, q4, q5, q6, q7⟩ := hQ
    have e0 : am_i σ m 24 = yw_c (xt_w 0) := (h24 0 (by decide)).mpr hv
    rw [decide_eq_true hv] at hkn
    have hno := ykn_ins hkn
    have hno2 : ∀ q, q ∈ S.2.2.1 → q.1 ≠ 2 := fun q hq c => by
      obtain ⟨p, hp, ep⟩ := hk q hq c
      exact hno p hp (by rw [← c, ← ep]; exact hq)
    obtain ⟨c0, v0, z0, y0, x0⟩ := q5.none hno2
    obtain ⟨c1, v1, z1, y1, x1⟩ := q6.none hno2
    obtain ⟨c2, v2, z2, y2, x2⟩ := q7.none hno2
    refine c_ychI (cv := fun j => if j = 0 then c0 else if j = 1 then c1 else c2) (v := fun j => if j = 0 then v0 else if j = 1 then v1 else v2) h e0 hno (fun j hj => ?_) (fun σ' Bz L' hx hO' hf' => ⟨Bz, L', rfl, Or.inl ⟨hv, fun j => if j = 0 then v0 else if j = 1 then v1 else v2, fun j hj => ?_, hx⟩, hO', hf'⟩)
    · have : j = 0 ∨ j = 1 ∨ j = 2 := by omega
      rcases this with rfl | rfl | rfl
      · exact ⟨z0, y0⟩
      · exact ⟨z1, y1⟩
      · exact ⟨z2, y2⟩
    · have : j = 0 ∨ j = 1 ∨ j = 2 := by omega
      rcases this with rfl | rfl | rfl
      · exact x0
      · exact x1
      · exact x2
  · obtain ⟨q1, q2, q3, q4, q5, q6, q7, q8⟩ := hQ
    have hon := ykn_only hk hkn q1
    obtain ⟨cm, B, hB1, hB2⟩ := q8.one hon
    obtain ⟨cv, val, hz, hv1, hv2⟩ := q7.one hon
    have n0 : am_i σ m 24 ≠ yw_c (xt_w 0) := fun e => by have := (h24 0 (by decide)).mp e; omega
    refine c_ychDU (B := B) (cm := cm) h n0 ⟨hlen, hk, h100, ykn_one hkn q1, hB1⟩ (fun e => ?_) (fun _ => ⟨cv, val, S.2.2.2 3, ⟨hz, hv1⟩, rfl, q5, fun σ' Bz L' hx hO' hf' => ⟨Bz, L', rfl, Or.inr (Or.inr ⟨hv, B, val, S.2.2.2 3, hB2, hv2, q5, q6, hx⟩), hO', hf'⟩⟩)
    have := (h24 2 (by decide)).mp e
    omega
  · obtain ⟨q1, q2, q3, q4, q5⟩ := hQ
    have hon := ykn_only hk hkn q1
    obtain ⟨cm, B, hB1, hB2⟩ := q5.one hon
    have n0 : am_i σ m 24 ≠ yw_c (xt_w 0) := fun e => by have := (h24 0 (by decide)).mp e; omega
    refine c_ychDU (B := B) (cm := cm) h n0 ⟨hlen, hk, h100, ykn_one hkn q1, hB1⟩ (fun _ σ' L' hL hO' hf' => ⟨_, L', rfl, Or.inr (Or.inl ⟨hv, B, hB2, rfl, hL⟩), hO', hf'⟩) (fun e => absurd ((h24 2 (by decide)).mpr hv) e)
  · exact absurd hv h3
/-- what a run that is no select comes to, for the codes W: its answer, and the object's new picture -/
def yRes (W : xp_W) (dr : List Nat) (D : xx_D) (i : Nat) (a : Int32) (D' : xx_D) : Prop :=
  (xp_ok (xn_sc dr 0) W = false ∧ a = -2 ∧ D' = yDd D i) ∨
  (xp_ok (xn_sc dr 0) W = true ∧ (decide (W.1 3 = W.1 4) || xs_wr (xp_hd (xn_sc dr 0) 0) (W.1 3) (W.1 4) W.2.2.2.2.2.2 3 0) = true ∧ a = -3 ∧ D' = yDd D i) ∨
  (xp_ok (xn_sc dr 0) W = true ∧ (decide (W.1 3 = W.1 4) || xs_wr (xp_hd (xn_sc dr 0) 0) (W.1 3) (W.1 4) W.2.2.2.2.2.2 3 0) = false ∧ xp_hd (xn_sc dr 0) 0 ≠ 3 ∧
    ((D.2.2.2.1 (D.1 i) ≠ -1 ∧ D.2.2.2.1 (D.1 i) ≠ nI i ∧ a = -6 ∧ D' = yDd D i) ∨
     (D.2.2.2.1 (D.1 i) = nI i ∧ ∃ t L', t < 2 ∧ W.1 3 = nI t ∧ yRs W (xp_hd (xn_sc dr 0) 0) t (D.1 i) (xx_V D (D.1 i) t) (D.2.2.1 (D.1 i) t) a L' ∧ D' = yD' (yDd D i) (D.1 i) t L') ∨
     (D.2.2.2.1 (D.1 i) = -1 ∧ ∃ t Bz L', t < 2 ∧ W.1 3 = nI t ∧ yRs W (xp_hd (xn_sc dr 0) 0) t (D.1 i) (xx_V D (D.1 i) t) (D.2.1 (D.1 i) t) Bz L' ∧ a = (yFre (yDd D i) (D.1 i) t Bz L').1 ∧ D' = (yFre (yDd D i) (D.1 i) t Bz L').2)))
