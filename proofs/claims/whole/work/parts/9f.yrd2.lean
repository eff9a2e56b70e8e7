/-! what was read: its length; it stays -/
theorem yI.ins {ts : List (Nat × Int32)} (hEN : xp_EN ts) : ∀ (n k : Nat) (S : ys_S), yI ts S → yI ts (ys_ins ts n k S)
  | 0, _, S, h => h
  | n + 1, k, S, h => by
    rw [ys_ins]
    split
    · exact h
    · rename_i q
      have h2 := (h.term (i := k) (c := false) hEN (bnt q)).2
      refine yI.ins hEN n (k + 1) _ ?_
      split
      · exact h2.need hEN (by decide)
      · exact h2
theorem yI.upd {ts : List (Nat × Int32)} {S : ys_S} (hEN : xp_EN ts) (h : yI ts S) : yI ts (ys_upd ts S) := by
  have h1 := h.name hEN
  have h2 : yI ts (ys_up1 ts (ys_name ts S)) := by
    intro q
    have q : ((ys_name ts S).2.1 || _) = false := q
    obtain ⟨a, b⟩ := h1 (bor q)
    show (if yp_isW (xp_hd ts (ys_name ts S).1) then (ys_name ts S).1 + 1 else (ys_name ts S).1) < ts.length ∧ (ys_name ts S).2.2.1.length + 1 ≤ (if yp_isW (xp_hd ts (ys_name ts S).1) then (ys_name ts S).1 + 1 else (ys_name ts S).1)
    split
    · rename_i c
      exact ⟨hEN.lt (fun e => by rw [e] at c; cases c), Nat.le_succ_of_le b⟩
    · exact ⟨a, b⟩
  have h3 := h2.need (t := 30) hEN (by decide)
  unfold ys_upd
  split
  · exact h3
  · rename_i q
    exact (h3.term (i := 0) (c := false) hEN (bnt q)).2
theorem ys_stm_len {ts : List (Nat × Int32)} {T : Nat → Nat} (hEN : xp_EN ts) (hl : ts.length ≤ 81) (hb : (ys_stm ts T).2.1 = false) : (ys_stm ts T).2.2.1.length ≤ 99 := by
  have e : ((ys_body ts (1, false, [], T)).2.1 || !decide ((ys_body ts (1, false, [], T)).1 + 1 = ts.length)) = false := hb
  have hb1 := bor e
  have I1 : xp_hd ts 0 < 36 → yI ts (1, false, [], T) := fun q _ => ⟨hEN.lt (a := 0) (by omega), Nat.le_refl _⟩
  have h2 : yI ts (ys_body ts (1, false, [], T)) := by
    unfold ys_body
    by_cases c0 : xp_hd ts 0 = 0
    · rw [if_pos c0]; exact yI.ins hEN 3 0 _ ((I1 (by omega)).name hEN)
    · rw [if_neg c0]
      by_cases c1 : xp_hd ts 0 = 1
      · rw [if_pos c1]; exact ((I1 (by omega)).upd hEN).wh hEN
      · rw [if_neg c1]
        by_cases c2 : xp_hd ts 0 = 2
        · rw [if_pos c2]; exact ((I1 (by omega)).name hEN).wh hEN
        · rw [if_neg c2]
          by_cases c3 : xp_hd ts 0 = 3
          · rw [if_pos c3]; exact (I1 (by omega)).sel hEN
          · rw [if_neg c3]; exact fun q => by cases q
  obtain ⟨a, b⟩ := h2 hb1
  show (ys_body ts (1, false, [], T)).2.2.1.length ≤ 99
  omega
theorem yZR.fr {σ σ' : am_S} {m : Nat} {ts : List (Nat × Int32)} {S : ys_S} {W : List Nat} {ns : Int32} {w : Bool} {Q : Nat → Prop} (h : yZR σ m ts S W ns w) (hf : ym_f Q σ σ') (hq : ∀ b, yre m b → ¬ Q b) : yZR σ' m ts S W ns w := by
  obtain ⟨⟨hH, hT, hP, hW, hHH⟩, hR⟩ := h
  have e : ∀ b, yre m b → am_i σ' b = am_i σ b := fun b hb => hf.i (hq b hb)
  have n : ∀ k, 10 ≤ k → k ≤ 19 → yre m (m + k) := fun k h1 h2 => Or.inr ⟨by omega, by omega⟩
  refine ⟨⟨hH.f hf, ?_, ?_, hW, hHH⟩, ?_⟩
  · unfold yb_T
    rw [e _ (n 10 (by decide) (by decide)), e _ (n 11 (by decide) (by decide))]
    exact hT
  · unfold yb_P yb_o yb_w yb_h
    rw [e m (Or.inl rfl), e _ (n 12 (by decide) (by decide)), e _ (n 13 (by decide) (by decide)), e _ (n 14 (by decide) (by decide)), e _ (n 15 (by decide) (by decide))]
    exact hP
  · exact hR.fr (e m (Or.inl rfl)) (e _ (n 16 (by decide) (by decide))) (e _ (n 17 (by decide) (by decide))) (e _ (n 18 (by decide) (by decide))) (e _ (n 19 (by decide) (by decide)))
theorem ym_q.fr {σ σ' : am_S} {m : Nat} (h : ym_q σ m) (h0 : am_i σ' m = am_i σ m) (h1 : am_i σ' (m + 14) = am_i σ (m + 14)) : ym_q σ' m := by
  unfold ym_q yb_w
  rw [h0, h1]
  exact h
/-- the draft is emptied -/
def yDd (D : xx_D) (i : Nat) : xx_D := xx_es D i [] (D.2.2.2.2.2.2.1 i) (D.2.2.2.2.2.2.2.1 i) (D.2.2.2.2.2.2.2.2 i)
theorem ym_O.dd {σ : am_S} {m i : Nat} {D : xx_D} (h : ym_O σ m D) (hi : i < 4) : ym_O (am_wi σ (m + 9) i 0) m (yDd D i) := by
  have hf : ym_f (fun b => b = m + 8 ∨ b = m + 9 ∨ (m + 29 ≤ b ∧ b ≤ m + 31)) σ (am_wi σ (m + 9) i 0) := ym_f.rf.wi (a := m + 9) (Or.inr (Or.inl rfl))
  refine h.sess hf ?_ (fun j hj hne => ?_)
  · obtain ⟨s1, s2, s3, s4, s5, s6, s7, s8⟩ := h.2.2.2.2 i hi
    refine ⟨ym_is, Nat.zero_le _, fun j c hj => by simp at hj, ?_, ?_, s6, s7, ?_⟩
    · rw [ym_io (by omega)]; exact s4
    · rw [ym_io (by omega)]; exact s5
    · intro r c hr hc; rw [ym_io (by omega)]; exact s8 r c hr hc
  · obtain ⟨s1, s2, s3, s4, s5, s6, s7, s8⟩ := h.2.2.2.2 j hj
    refine ⟨by rw [ym_ij hne]; exact s1, s2, ?_, ?_, ?_, s6, s7, ?_⟩
    · intro q c hq; rw [ym_io (by omega)]; exact s3 q c hq
    · rw [ym_io (by omega)]; exact s4
    · rw [ym_io (by omega)]; exact s5
    · intro r c hr hc; rw [ym_io (by omega)]; exact s8 r c hr hc
theorem ym_O.free {σ : am_S} {m lab : Nat} {D : xx_D} (h : ym_O σ m D) (hl : lab < 8) : ym_O (am_wi σ (m + 6) lab 0) m (xx_ds D lab (D.2.1 lab) (D.2.2.1 lab) (-1) (D.2.2.2.2.1 lab)) := by
  obtain ⟨a1, a2, ⟨P, a3, a4⟩, a5, a6⟩ := id h
  have hf : ym_f (fun b => m + 2 ≤ b ∧ b ≤ m + 7) σ (am_wi σ (m + 6) lab 0) := ym_f.rf.wi (a := m + 6) (by omega)
  refine h.store a4 hl hf (a3.f (Q := fun b => b = m + 6) (ym_f.rf.wi rfl) (by omega) (by omega) (by omega) (by omega)) (fun t ht => ⟨(a4 lab hl t ht).1, fun z => absurd rfl z⟩) (fun lb hlb hne t ht => ⟨rfl, rfl⟩) (by rw [ym_is]; exact .free) (by rw [ym_io (by omega)]; exact (a5 lab hl).2.1) (a5 lab hl).2.2 (fun q hq => by rw [ym_ij hq]) (fun q hq => by rw [ym_io (by omega)])
