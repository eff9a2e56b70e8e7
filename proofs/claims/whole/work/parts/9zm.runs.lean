/-! run, whole, on both sides -/
def yRun (W : xp_W) (dr : List Nat) (D : xx_D) (i : Nat) (a : Int32) (D' : xx_D) : Prop :=
  yRes W dr D i a D' ∨ (xp_ok (xn_sc dr 0) W = true ∧ (decide (W.1 3 = W.1 4) || xs_wr (xp_hd (xn_sc dr 0) 0) (W.1 3) (W.1 4) W.2.2.2.2.2.2 3 0) = false ∧ xp_hd (xn_sc dr 0) 0 = 3 ∧ ySel W (yDd D i) i a D')
theorem yRun.one {W : xp_W} {dr : List Nat} {D D1 D2 : xx_D} {i : Nat} {a1 a2 : Int32} (hi : i < 4) (h : yRun W dr D i a1 D1) (h' : yRun W dr D i a2 D2) : a1 = a2 ∧ D1 = D2 := by
  have no : ∀ {a D'}, yRes W dr D i a D' → xp_ok (xn_sc dr 0) W = true → (decide (W.1 3 = W.1 4) || xs_wr (xp_hd (xn_sc dr 0) 0) (W.1 3) (W.1 4) W.2.2.2.2.2.2 3 0) = false → xp_hd (xn_sc dr 0) 0 = 3 → False := by
    intro a D' h p q r
    rcases h with ⟨p1, _⟩ | ⟨p1, p2, _⟩ | ⟨p1, p2, p3, _⟩
    · rw [p1] at p; cases p
    · rw [p2] at q; cases q
    · exact p3 r
  rcases h with h | ⟨p1, p2, p3, p4⟩ <;> rcases h' with h' | ⟨q1, q2, q3, q4⟩
  · exact h.one hi h'
  · exact (no h q1 q2 q3).elim
  · exact (no h' p1 p2 p3).elim
  · exact p4.one q4
theorem yFa.sel {dr : List Nat} {S : ys_S} {f : Nat → Int32} (h : yFa dr S) (hf : f 4 = -1) (hn : ykn S.2.2.2 (decide (xp_hd (xn_sc dr 0) 0 = 0)) S.2.2.1 = false) (h3 : xp_hd (xn_sc dr 0) 0 = 3) : yQ3 (xp_parse (xn_sc dr 0) f) S ∧ yk S.2.2.1 ∧ ykn S.2.2.2 false S.2.2.1 = false ∧ xp_ok (xn_sc dr 0) (xp_parse (xn_sc dr 0) f) = true ∧ (decide ((xp_parse (xn_sc dr 0) f).1 3 = (xp_parse (xn_sc dr 0) f).1 4) || xs_wr (xp_hd (xn_sc dr 0) 0) ((xp_parse (xn_sc dr 0) f).1 3) ((xp_parse (xn_sc dr 0) f).1 4) (xp_parse (xn_sc dr 0) f).2.2.2.2.2.2 3 0) = false := by
  obtain ⟨k1, k2, k3, k4⟩ := h.2 f hf
  have hw := (h.wr hf).1
  rw [hn] at hw
  rw [h3] at hn
  refine ⟨?_, k3, hn, k1, hw.symm⟩
  rcases k4 with ⟨a, b⟩ | ⟨a, b⟩ | ⟨a, b⟩ | ⟨a, b⟩
  · omega
  · omega
  · omega
  · exact b
theorem c_xRun {g : am_G} {l : Launch} {σ : am_S} {X d : Nat} {D : xx_D} {s : Int32} {Q : Option Value → am_S → Prop} (hd : 29 ≤ d) (h : xx_O g σ X D) (hB : xx_wf D) (hc : ∀ i, i < 4 → ∀ c, c ∈ D.2.2.2.2.2.1 i → c < 128)
    (hQ0 : ¬ xx_in s → Q (some (.int (-1))) σ)
    (hQ1 : ∀ i, i < 4 → s = nI i → ∀ (f : Nat → Int32) a D' σ', f 4 = -1 → yRun (xp_parse (xn_sc (D.2.2.2.2.2.1 i) 0) f) (D.2.2.2.2.2.1 i) D i a D' → xx_O g σ' X D' → xx_fr X σ σ' → Q (some (.int a)) σ') :
    am_C g l mX9_run d (am_tp σ, am_us σ) [.ref X, .int s] σ Q := by
  refine c_xrun (ds := 0) hd (by omega) h hB hc hQ0 (fun i hi hs f a D' σ' hf hR hO hfr => hQ1 i hi hs f a D' σ' hf (Or.inl hR) hO hfr) (fun i hi hs f S t hf hFa hn h3 σ' hO hSt hv hfr => ?_)
  obtain ⟨hQ3, hk, hn', hok, hw⟩ := hFa.sel hf hn h3
  obtain ⟨Wh, val, hSf, -⟩ := hQ3.sel hk hn'
  have ht : t = S.2.2.2 1 := by
    have e := hv 3 (by decide) (by decide)
    rw [hSt.2.2.1, hSf.2.2.2.2.1] at e
    exact (nI_inj (by have := hSt.2.2.2.2.2.1; omega) (by have := hSf.1; omega)).mp e
  subst ht
  have e : (am_tp σ, am_us σ) = (am_tp σ', am_us σ') := by rw [hfr.2.1, hfr.2.2.1]
  rw [e]
  exact c_xsel (D := yDd D i) (z1 := .int 1) (by omega) hO hi hSt hv hSf (fun a D' σ2 hS hO2 f2 => hQ1 i hi hs f a D' σ2 hf (Or.inr ⟨hok, hw, h3, hS⟩) hO2 (hfr.tr f2))
theorem c_yRun {g : am_G} {l : Launch} {σ : am_S} {m d : Nat} {D : xx_D} {s : Int32} {f : Nat → Nat → Int32} {Q : Option Value → am_S → Prop} (hd : 10 ≤ d) (hO : ym_O σ m D) (hB : xx_wf D) (hq : ym_q σ m) (hc : ∀ i, i < 4 → ∀ c, c ∈ D.2.2.2.2.2.1 i → c < 128) (hss : ∀ lb, lb < 8 → ∀ t, t < 2 → xo_ss (D.2.1 lb t) ∧ xo_ss (D.2.2.1 lb t)) (hf : ∀ i, f i 4 = -1)
    (hQ0 : ¬ xx_in s → Q (some (.int (-1))) σ)
    (hQ1 : ∀ i, i < 4 → s = nI i → ∀ a D' σ', yRun (xp_parse (xn_sc (D.2.2.2.2.2.1 i) 0) (f i)) (D.2.2.2.2.2.1 i) D i a D' → ym_O σ' m D' → ym_q σ' m → ym_f (fun b => m ≤ b ∧ b ≤ m + 31) σ σ' → Q (some (.int a)) σ') :
    am_C g l mX10_run d (am_tp σ, am_us σ) [.ref m, .int s] σ Q := by
  refine c_yrun (ds := 3) hd (by omega) hO hB hq hc hss hf hQ0 (fun i hi hs a D' σ' hR hO' hq' hfr => hQ1 i hi hs a D' σ' (Or.inl hR) hO' hq' hfr) (fun i hi hs S hFa hn h3 σ' hO' hq' hKn hfr => ?_)
  obtain ⟨hQ3, hk, hn', hok, hw⟩ := hFa.sel (hf i) hn h3
  have hB' : xx_wf (yDd D i) := hB
  exact c_yselect (D := yDd D i) hO' hB' hi hq' hKn hQ3 hn' (fun a D' σ2 hS hO2 hq2 f2 => ⟨a, rfl, hQ1 i hi hs a D' σ2 (Or.inr ⟨hok, hw, h3, hS⟩) hO2 hq2 (hfr.tr f2)⟩)
