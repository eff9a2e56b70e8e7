/-! making: frames that allow new cells -/
def am_fa (P : Nat → Prop) (σ σ' : am_S) : Prop := ∀ b, ¬ P b → am_sh σ' b = am_sh σ b ∧ am_i σ' b = am_i σ b ∧ am_r σ' b = am_r σ b
theorem am_fa.rf {P : Nat → Prop} {σ : am_S} : am_fa P σ σ := fun _ _ => ⟨rfl, rfl, rfl⟩
theorem am_fa.tr {P : Nat → Prop} {σ σ' σ'' : am_S} (h : am_fa P σ σ') (h' : am_fa P σ' σ'') : am_fa P σ σ'' := fun b hb => ⟨(h' b hb).1.trans (h b hb).1, (h' b hb).2.1.trans (h b hb).2.1, (h' b hb).2.2.trans (h b hb).2.2⟩
theorem am_fa.mono {P P' : Nat → Prop} {σ σ' : am_S} (h : am_fa P σ σ') (hp : ∀ b, P b → P' b) : am_fa P' σ σ' := fun b hb => h b (fun q => hb (hp b q))
theorem am_fa.of {P : Nat → Prop} {σ σ' : am_S} (h : am_fm P σ σ') : am_fa P σ σ' := fun b hb => ⟨by rw [h.1], (h.2.2.2 b hb).1, (h.2.2.2 b hb).2⟩
theorem am_fa.al {P : Nat → Prop} {σ σ' : am_S} {x : am_Sh} {n : Nat} (h : am_fa P σ σ') (hP : P (am_tp σ')) : am_fa P σ (am_al σ' x n) := h.tr (fun b hb => by
  have hne : b ≠ am_tp σ' := fun e => hb (e ▸ hP)
  exact ⟨by rw [am_sh_al, if_neg hne], by funext j; rw [am_i_al, if_neg hne], by funext j; rw [am_r_al, if_neg hne]⟩)
theorem am_fa.mna {P : Nat → Prop} {σ σ' : am_S} {N M : Nat} (h : am_fa P σ σ') (hP : ∀ b, am_tp σ' ≤ b → b ≤ am_tp σ' + N → P b) : am_fa P σ (am_mna σ' N M) := h.tr (fun b hb => by
  have hne : ¬ (am_tp σ' ≤ b ∧ b ≤ am_tp σ' + N) := fun e => hb (hP b e.1 e.2)
  have h1 : ¬ b = am_tp σ' := fun e => hne ⟨by omega, by omega⟩
  have h2 : ¬ (am_tp σ' < b ∧ b ≤ am_tp σ' + N) := fun e => hne ⟨by omega, by omega⟩
  exact ⟨by rw [am_sh_mna, if_neg h1, if_neg h2], by funext j; rw [am_i_mna, if_neg hne], by funext j; rw [am_r_mna, if_neg h1, if_neg h2]⟩)
theorem am_fa.wi {P : Nat → Prop} {σ σ' : am_S} {a k : Nat} {v : Int32} (h : am_fa P σ σ') (hP : P a) : am_fa P σ (am_wi σ' a k v) := h.tr (fun b hb => ⟨rfl, by
  funext j
  rw [am_i_wi, if_neg (fun (q : b = a ∧ j = k) => hb (q.1 ▸ hP))], rfl⟩)
theorem am_fa.wr {P : Nat → Prop} {σ σ' : am_S} {a k : Nat} {v : Option Nat} (h : am_fa P σ σ') (hP : P a) : am_fa P σ (am_wr σ' a k v) := h.tr (fun b hb => ⟨rfl, rfl, by
  funext j
  rw [am_r_wr, if_neg (fun (q : b = a ∧ j = k) => hb (q.1 ▸ hP))]⟩)
theorem xr_R.fa {P : Nat → Prop} {σ σ' : am_S} {r cap : Nat} {p : Nat → Nat} {Lr : List xr_E} (h : xr_R σ r cap p Lr) (hf : am_fa P σ σ') (hd : ∀ b, r ≤ b → b < r + 2 + cap → ¬ P b) : xr_R σ' r cap p Lr := by
  obtain ⟨h1, h2, h3, h4, h5, h6, h7, h8, h9⟩ := h
  have f0 := hf r (hd r (by omega) (by omega))
  have f1 := hf (r + 1) (hd (r + 1) (by omega) (by omega))
  refine ⟨by rw [f0.1]; exact h1, by rw [f0.2.2]; exact h2, by rw [f0.2.1]; exact h3, h4, h5, by rw [f1.1]; exact h6, fun i hi => ?_, h8, fun i e he => ?_⟩
  · obtain ⟨a1, a2, a3, a4⟩ := h7 i hi
    exact ⟨by rw [f1.2.2]; exact a1, a2, a3, by rw [(hf _ (hd _ (by omega) a3)).1]; exact a4⟩
  · have hi := (List.getElem?_eq_some_iff.mp he).1
    obtain ⟨a1, a2, a3, a4⟩ := h7 i (by omega)
    have := h9 i e he
    unfold xr_at at this ⊢
    rw [(hf _ (hd _ (by omega) a3)).2.1]
    exact this
theorem xk_C.fa {g : am_G} {P : Nat → Prop} {σ σ' : am_S} {c kd : Nat} {ss : List (Nat × Int32)} (h : xk_C g σ c kd ss) (hf : am_fa P σ σ') (hd : ∀ b, c ≤ b → b < c + 4 → ¬ P b) : xk_C g σ' c kd ss := by
  have f0 := hf c (hd c (by omega) (by omega))
  have f1 := hf (c + 1) (hd (c + 1) (by omega) (by omega))
  have f2 := hf (c + 2) (hd (c + 2) (by omega) (by omega))
  have f3 := hf (c + 3) (hd (c + 3) (by omega) (by omega))
  unfold xk_C
  rw [f0.1, f0.2.1, f0.2.2, f1.1, f1.2.2, f2.1, f2.2.1, f3.1]
  exact h
theorem xn_S.fa {P : Nat → Prop} {σ σ' : am_S} {z : Nat} (h : xn_S σ z) (hf : am_fa P σ σ') (hd : ∀ b, z ≤ b → b < z + 3 → ¬ P b) : xn_S σ' z := by
  have f0 := hf z (hd z (by omega) (by omega))
  have f1 := hf (z + 1) (hd (z + 1) (by omega) (by omega))
  have f2 := hf (z + 2) (hd (z + 2) (by omega) (by omega))
  unfold xn_S
  rw [f0.1, f0.2.2, f1.1, f2.1]
  exact h
/-- a new statement -/
def xs_0 (g : am_G) (σ : am_S) (S : Nat) : Prop :=
  am_sh σ S = some (.inl 6) ∧ am_r σ S 7 = some (S + 1) ∧ am_r σ S 8 = some (S + 2) ∧ am_r σ S 9 = some (S + 6) ∧ am_r σ S 10 = some (S + 10) ∧ am_r σ S 11 = some (S + 14) ∧ am_r σ S 12 = some (S + 15) ∧
  am_sh σ (S + 1) = some (.inr (7, 3)) ∧ (∀ i, i < 3 → am_r σ (S + 1) i = some (S + 19 + 4 * i)) ∧ am_sh σ (S + 14) = some (.inr (2, 3)) ∧ am_sh σ (S + 15) = some (.inr (3, 3)) ∧ (∀ j, j < 3 → am_r σ (S + 15) j = some (S + 16 + j) ∧ am_sh σ (S + 16 + j) = some (.inr (0, 4))) ∧
  xk_C g σ (S + 2) 0 [] ∧ xk_C g σ (S + 6) 0 [] ∧ xk_C g σ (S + 10) 0 [] ∧ ∀ i, i < 3 → xk_C g σ (S + 19 + 4 * i) 0 []
theorem xs_0.fa {g : am_G} {P : Nat → Prop} {σ σ' : am_S} {S : Nat} (h : xs_0 g σ S) (hf : am_fa P σ σ') (hd : ∀ b, S ≤ b → b < S + 31 → ¬ P b) : xs_0 g σ' S := by
  obtain ⟨h1, h2, h3, h4, h5, h6, h7, h8, h9, h10, h11, h12, h13, h14, h15, h16⟩ := h
  have f0 := hf S (hd S (by omega) (by omega))
  have f1 := hf (S + 1) (hd (S + 1) (by omega) (by omega))
  have f14 := hf (S + 14) (hd (S + 14) (by omega) (by omega))
  have f15 := hf (S + 15) (hd (S + 15) (by omega) (by omega))
  unfold xs_0
  rw [f0.1, f0.2.2, f1.1, f1.2.2, f14.1, f15.1, f15.2.2]
  refine ⟨h1, h2, h3, h4, h5, h6, h7, h8, h9, h10, h11, fun j hj => ⟨(h12 j hj).1, ?_⟩, h13.fa hf (fun b x y => hd b (by omega) (by omega)), h14.fa hf (fun b x y => hd b (by omega) (by omega)), h15.fa hf (fun b x y => hd b (by omega) (by omega)), fun i hi => (h16 i hi).fa hf (fun b x y => hd b (by omega) (by omega))⟩
  rw [(hf (S + 16 + j) (hd _ (by omega) (by omega))).1]
  exact (h12 j hj).2
theorem xs_0.S {g : am_G} {σ : am_S} {S : Nat} (h : xs_0 g σ S) : xs_S σ S ∧ xs_CS g σ S (fun _ => 0) (fun _ => []) := by
  obtain ⟨h1, h2, h3, h4, h5, h6, h7, h8, h9, h10, h11, h12, h13, h14, h15, h16⟩ := h
  refine ⟨⟨h1, h2, h3, h4, h5, h6, h7, h8, h9, h10, h11, fun j hj => ⟨_, (h12 j hj).1, (h12 j hj).2⟩⟩, fun j hj => ?_⟩
  rcases xs_ca_in S j hj with ⟨a, e⟩ | ⟨a, e⟩ | ⟨a, e⟩ | ⟨a, e⟩ <;> rw [e]
  · exact h16 j a
  · exact h13
  · exact h14
  · exact h15
theorem xl_S.fa {P : Nat → Prop} {σ σ' : am_S} {e S : Nat} (h : xl_S σ e S) (hf : am_fa P σ σ') (hd : ∀ b, e ≤ b → b < e + 107 → ¬ P b) : xl_S σ' e S := by
  have f0 := hf e (hd e (by omega) (by omega))
  obtain ⟨h1, h2, h3, h4, h5, h6, h7, h8, h9, h10, h11⟩ := h
  unfold xl_S
  rw [f0.1, f0.2.2]
  refine ⟨h1, h2, h3, h4, h5, h6, h7, h8, h9, h10, fun i hi => ?_⟩
  rw [(hf (e + 101 + i) (hd _ (by omega) (by omega))).1]
  exact h11 i hi
theorem xo_S.fa {P : Nat → Prop} {σ σ' : am_S} {s lab n : Nat} {C U : Nat → List xr_E} {hh : Int32} (h : xo_S σ s lab C U hh n) (hf : am_fa P σ σ') (hd : ∀ b, s ≤ b → b < s + 44 → ¬ P b) : xo_S σ' s lab C U hh n := by
  obtain ⟨h1, h2, h3, h4, h5, ⟨p, L, h6⟩, h7⟩ := h
  have f0 := hf s (hd s (by omega) (by omega))
  have f1 := hf (s + 1) (hd (s + 1) (by omega) (by omega))
  have f2 := hf (s + 2) (hd (s + 2) (by omega) (by omega))
  have f11 := hf (s + 11) (hd (s + 11) (by omega) (by omega))
  unfold xo_S xo_H
  rw [f0.1, f0.2.1, f0.2.2, f1.1, f1.2.2, f2.1, f2.2.2, f11.1]
  refine ⟨h1, h2, h3, h4, h5, ⟨p, L, h6.fa hf (fun b x y => hd b (by omega) (by omega))⟩, fun t ht => ?_⟩
  obtain ⟨⟨p1, g1⟩, ⟨p2, g2⟩, g3, g4⟩ := h7 t ht
  exact ⟨⟨p1, g1.fa hf (fun b x y => hd b (by omega) (by omega))⟩, ⟨p2, g2.fa hf (fun b x y => hd b (by omega) (by omega))⟩, g3, g4⟩
theorem xe_S.fa {P : Nat → Prop} {σ σ' : am_S} {e st : Nat} {dr : List Nat} {rr rc : Nat} {rv : Nat → Nat → Int32} (h : xe_S σ e st dr rr rc rv) (hf : am_fa P σ σ') (hd : ∀ b, e ≤ b → b < e + 43 → ¬ P b) : xe_S σ' e st dr rr rc rv := by
  obtain ⟨h1, h2, h3, h4, h5, h6, h7, h8, h9, h10, h11, h12, h13, h14, h15⟩ := h
  have f0 := hf e (hd e (by omega) (by omega))
  have f1 := hf (e + 1) (hd (e + 1) (by omega) (by omega))
  have f2 := hf (e + 2) (hd (e + 2) (by omega) (by omega))
  unfold xe_S
  rw [f0.1, f0.2.1, f0.2.2, f1.1, f1.2.1, f2.1, f2.2.2]
  refine ⟨h1, h2, h3, h4, h5, h6, fun i hi => ⟨(h7 i hi).1, ?_⟩, h8, h9, h10, h11, h12, h13, h14, fun r c hr hc => ?_⟩
  · rw [(hf (e + 3 + i) (hd _ (by omega) (by omega))).1]
    exact (h7 i hi).2
  · rw [(hf (e + 3 + r) (hd _ (by omega) (by omega))).2.1]
    exact h15 r c hr hc
