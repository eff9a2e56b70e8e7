/-! select: groups and keys in x's words -/
theorem ygs_sm {T k : Nat → Nat} : ∀ (n c : Nat), (∀ j, c ≤ j → j < c + n → T (5 + j) + 1 = k j ∧ k j ≤ 3) → ygs T n c = xs_sm k n c
  | 0, _, _ => rfl
  | n + 1, c, h => by
    obtain ⟨a, b⟩ := h c (Nat.le_refl _) (by omega)
    rw [ygs, xs_sm, ygs_sm n (c + 1) (fun j x y => h j (by omega) (by omega))]
    have e : decide (0 < T (5 + c)) = decide (k c = 2 ∨ k c = 3) := decide_eq_decide.mpr ⟨fun z => by omega, fun z => by omega⟩
    rw [e]
theorem ygS_tg {W : xp_W} {S : ys_S} (h6 : yt6 W S) (hO : yO W S) : ygS S.2.2.2 = xl_tg W.2.1 (S.2.2.2 4) := by
  obtain ⟨t1, t2, t3, t4⟩ := h6
  unfold ygS xl_tg
  rw [ygs_sm (k := W.2.1) (S.2.2.2 4) 0 (fun j _ y => by obtain ⟨x1, x2, x3, x4⟩ := t4 j (by omega); exact ⟨x3, x2⟩)]
  have e : (decide (S.2.2.2 22 = 1) && decide (0 < S.2.2.2 8)) = decide (W.2.1 5 = 2 ∨ W.2.1 5 = 3) := by
    rcases hO with ⟨p, q⟩ | ⟨p, ⟨x1, x2, x3, x4⟩, -⟩
    · rw [q, p]; rfl
    · rw [p, decide_eq_true rfl, Bool.true_and]
      exact decide_eq_decide.mpr ⟨fun z => by omega, fun z => by omega⟩
  rw [e]
theorem yg_GR {W : xp_W} {S : ys_S} {val : Nat → xr_E → xr_E → Int32} {V1 V2 : List xr_E} {FL : List (Nat × Nat)} (h6 : yt6 W S) (hG : yG W S) (hO : yO W S) : xl_GR W.2.1 (S.2.2.2 4) val V1 V2 FL = ((yg_r (decide (S.2.2.2 21 = 1)) (ygS S.2.2.2) (xl_at (val 4) V1 V2 FL) FL.length [] []).1, (yg_r (decide (S.2.2.2 21 = 1)) (ygS S.2.2.2) (xl_at (val 4) V1 V2 FL) FL.length [] []).2.length) ∧ yg_I (decide (S.2.2.2 21 = 1)) (ygS S.2.2.2) (xl_at (val 4) V1 V2 FL) (yg_r (decide (S.2.2.2 21 = 1)) (ygS S.2.2.2) (xl_at (val 4) V1 V2 FL) FL.length [] []).1 (yg_r (decide (S.2.2.2 21 = 1)) (ygS S.2.2.2) (xl_at (val 4) V1 V2 FL) FL.length [] []).2 := by
  have hkd : decide (S.2.2.2 21 = 1) = true ↔ W.2.1 4 ≠ 0 := by
    rw [decide_eq_true_iff]
    rcases hG with ⟨p, q⟩ | ⟨p, q, -⟩ <;> omega
  have := yg_r_pt (sm := ygS S.2.2.2) (mk := xl_at (val 4) V1 V2 FL) hkd FL.length [] [] yg_I.nil
  unfold xl_GR
  rw [← ygS_tg h6 hO]
  exact this
theorem ysQ_rk {W : xp_W} {S : ys_S} {val : xr_E → xr_E → Int32} {V1 V2 : List xr_E} {FL : List (Nat × Nat)} {GO : List Nat} (hO : yO W S) : ysQ S.2.2.2 val V1 V2 FL GO = xl_rk W.2.1 val V1 V2 FL GO := by
  funext gp
  unfold ysQ xl_rk
  rcases hO with ⟨p, q⟩ | ⟨p, ⟨x1, x2, x3, x4⟩, -⟩
  · rw [if_pos q, if_pos p]
  · rw [if_neg (by omega), if_neg (by omega), x3]
/-! select -/
def yse (m : Nat) (σ σ' : am_S) : Prop := ym_f (fun b => b = m ∨ (m + 20 ≤ b ∧ b ≤ m + 31)) σ σ' ∧ ∀ k, k ≠ 44 → k ≠ 45 → am_i σ' m k = am_i σ m k
theorem yse.tr {m : Nat} {σ σ' σ'' : am_S} (h : yse m σ σ') (h' : yse m σ' σ'') : yse m σ σ'' := ⟨h.1.tr h'.1, fun k a b => (h'.2 k a b).trans (h.2 k a b)⟩
theorem ysG.se {m : Nat} {σ σ' : am_S} (h : ysG m σ σ') : yse m σ σ' := ⟨h.1.mono (fun b x => by omega), fun k a _ => h.2 k a⟩
theorem ysH.se {m : Nat} {σ σ' : am_S} (h : ysH m σ σ') : yse m σ σ' := ⟨h.1.mono (fun b x => by omega), fun k _ a => h.2 k a⟩
theorem yKj.se {m : Nat} {σ σ' : am_S} (h : yKj m σ σ') : yse m σ σ' := ⟨ym_f.mono h (fun b x => by omega), fun k _ _ => by rw [ym_f.i h (a := m) (by omega)]⟩
theorem ym_q.se {σ σ' : am_S} {m : Nat} (h : ym_q σ m) (hf : yse m σ σ') : ym_q σ' m := by
  unfold ym_q yb_w
  rw [hf.2 19 (by decide) (by decide), hf.2 23 (by decide) (by decide), hf.1.i (a := m + 14) (by omega)]
  exact h
theorem ym_O.sel {σ σ' : am_S} {m i rr rc : Nat} {D : xx_D} {dr : List Nat} {rv : Nat → Nat → Int32} (h : ym_O σ m D) (hf : ym_f (fun b => b = m ∨ (m + 20 ≤ b ∧ b ≤ m + 31)) σ σ') (hs : ym_Se σ' m i dr rr rc rv) (ho : ∀ j, j < 4 → j ≠ i → ym_Se σ' m j (D.2.2.2.2.2.1 j) (D.2.2.2.2.2.2.1 j) (D.2.2.2.2.2.2.2.1 j) (D.2.2.2.2.2.2.2.2 j)) : ym_O σ' m (xx_es D i dr rr rc rv) := by
  obtain ⟨a1, a2, ⟨P, a3, a4⟩, a5, a6⟩ := h
  refine ⟨a1.f hf, by rw [hf.i (by omega)]; exact a2, ⟨P, a3.f hf (by omega) (by omega) (by omega) (by omega), a4⟩, by rw [hf.i (by omega), hf.i (by omega)]; exact a5, fun j hj => ?_⟩
  show ym_Se σ' m j (if j = i then dr else D.2.2.2.2.2.1 j) (if j = i then rr else D.2.2.2.2.2.2.1 j) (if j = i then rc else D.2.2.2.2.2.2.2.1 j) (if j = i then rv else D.2.2.2.2.2.2.2.2 j)
  by_cases e : j = i
  · rw [if_pos e, if_pos e, if_pos e, if_pos e, e]
    exact hs
  · rw [if_neg e, if_neg e, if_neg e, if_neg e]
    exact ho j hj e
