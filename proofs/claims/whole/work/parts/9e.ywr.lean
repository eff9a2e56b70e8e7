/-! wrong names: the two agree -/
theorem ykw_may {T : Nat → Nat} {v p : Nat} {f s : Int32} {ins : Bool} (hp : p < 12) (hT1 : T 1 < 2) (hf : f = nI (T 1)) (hs : (T 0 = 1 ∧ s = -1) ∨ (T 0 = 2 ∧ s = nI (T 2) ∧ T 2 < 2)) (hi : ins = decide (v = 0)) (hne : ¬ (T 0 = 2 ∧ T 1 = T 2)) : ykw T ins p = !xs_may v f s (nI (p / 4)) := by
  have h4 : p / 4 < 3 := by omega
  unfold ykw xs_may
  rw [hi]
  by_cases c : v = 0
  · rw [decide_eq_true c, if_pos c]; rfl
  · rw [decide_eq_false c, if_neg c, Bool.false_or]
    have e2 : (nI (p / 4) = 2) ↔ p / 4 = 2 := nI_inj (b := 2) (by omega) (by decide)
    by_cases c2 : p / 4 = 2
    · rw [if_pos c2, if_pos (e2.mpr c2)]
      rcases hs with ⟨a, b⟩ | ⟨a, b, d⟩
      · rw [decide_eq_false (by omega), decide_eq_true b]; rfl
      · have : ¬ s = -1 := by rw [b]; exact nI_m1 (by omega)
        rw [decide_eq_true a, decide_eq_false this]; rfl
    · rw [if_neg c2, if_neg (fun q => c2 (e2.mp q))]
      have ef : (nI (p / 4) = f) ↔ p / 4 = T 1 := by rw [hf]; exact nI_inj (by omega) (by omega)
      congr 1
      rcases hs with ⟨a, b⟩ | ⟨a, b, d⟩
      · have : ¬ nI (p / 4) = s := by rw [b]; exact nI_m1 (by omega)
        rw [decide_eq_false (show ¬ T 0 = 2 by omega), Bool.or_false]
        exact decide_eq_decide.mpr ⟨fun q => Or.inl (ef.mpr q), fun q => q.elim ef.mp (fun z => absurd z this)⟩
      · have es : (nI (p / 4) = s) ↔ p / 4 = T 2 := by rw [b]; exact nI_inj (by omega) (by omega)
        rw [decide_eq_true a, Bool.or_true]
        refine (decide_eq_true ?_).symm
        rw [ef, es]
        have : T 1 ≠ T 2 := fun q => hne ⟨a, q⟩
        omega
theorem ykn_wr {T : Nat → Nat} {v : Nat} {f s : Int32} {ins : Bool} {o : yp_O} {u : Nat → Bool} (hk : yk o) (hu : ∀ t, u t = yc o t) (hT1 : T 1 < 2) (hf : f = nI (T 1)) (hs : (T 0 = 1 ∧ s = -1) ∨ (T 0 = 2 ∧ s = nI (T 2) ∧ T 2 < 2)) (hi : ins = decide (v = 0)) : ykn T ins o = (decide (f = s) || xs_wr v f s u 3 0) := by
  unfold ykn
  have e1 : decide (f = s) = decide (T 0 = 2 ∧ T 1 = T 2) := by
    rcases hs with ⟨a, b⟩ | ⟨a, b, d⟩
    · rw [decide_eq_false (show ¬ (T 0 = 2 ∧ T 1 = T 2) by omega), decide_eq_false (by rw [hf, b]; exact nI_m1 (by omega))]
    · refine decide_eq_decide.mpr ?_
      rw [hf, b, nI_inj (by omega) (by omega)]
      exact ⟨fun q => ⟨a, q⟩, fun q => q.2⟩
  rw [e1]
  by_cases hne : T 0 = 2 ∧ T 1 = T 2
  · rw [decide_eq_true hne]; rfl
  · rw [decide_eq_false hne, Bool.false_or, Bool.false_or]
    have hw : xs_wr v f s u 3 0 = ((u 0 && !xs_may v f s (nI 0)) || ((u 1 && !xs_may v f s (nI 1)) || ((u 2 && !xs_may v f s (nI 2)) || false))) := rfl
    rw [hw, Bool.or_false]
    rw [Bool.eq_iff_iff, List.any_eq_true, Bool.or_eq_true, Bool.or_eq_true, Bool.and_eq_true, Bool.and_eq_true, Bool.and_eq_true, hu, hu, hu]
    have hc : ∀ t, yc o t = true ↔ ∃ q, q ∈ o ∧ q.1 = 2 ∧ q.2.toNatClampNeg / 4 = t := by
      intro t
      unfold yc
      rw [List.any_eq_true]
      constructor
      · rintro ⟨q, h1, h2⟩
        rw [Bool.and_eq_true] at h2
        exact ⟨q, h1, by simpa using h2.1, by simpa using h2.2⟩
      · rintro ⟨q, h1, h2, h3⟩
        exact ⟨q, h1, by simp [h2, h3]⟩
    rw [hc, hc, hc]
    have hp : ∀ q, q ∈ o → q.1 = 2 → ∃ p, p < 12 ∧ q.2.toNatClampNeg = p := fun q hq h2 => by
      obtain ⟨p, h3, h4⟩ := hk q hq h2
      exact ⟨p, h3, by rw [h4]; exact nI_clamp (by omega)⟩
    constructor
    · rintro ⟨q, h1, h2⟩
      rw [Bool.and_eq_true] at h2
      have h3 : q.1 = 2 := by simpa using h2.1
      obtain ⟨p, p1, p2⟩ := hp q h1 h3
      have h4 := h2.2
      rw [p2, ykw_may p1 hT1 hf hs hi hne] at h4
      have : p / 4 = 0 ∨ p / 4 = 1 ∨ p / 4 = 2 := by omega
      rcases this with e | e | e
      · rw [e] at h4; exact Or.inl ⟨⟨q, h1, h3, by rw [p2, e]⟩, h4⟩
      · rw [e] at h4; exact Or.inr (Or.inl ⟨⟨q, h1, h3, by rw [p2, e]⟩, h4⟩)
      · rw [e] at h4; exact Or.inr (Or.inr ⟨⟨q, h1, h3, by rw [p2, e]⟩, h4⟩)
    · have back : ∀ t, (∃ q, q ∈ o ∧ q.1 = 2 ∧ q.2.toNatClampNeg / 4 = t) → (!xs_may v f s (nI t)) = true → ∃ x, x ∈ o ∧ (decide (x.1 = 2) && ykw T ins x.2.toNatClampNeg) = true := by
        rintro t ⟨q, h1, h2, h3⟩ h4
        obtain ⟨p, p1, p2⟩ := hp q h1 h2
        refine ⟨q, h1, ?_⟩
        rw [decide_eq_true h2, Bool.true_and, p2, ykw_may p1 hT1 hf hs hi hne, ← p2, h3]
        exact h4
      rintro (⟨a, b⟩ | ⟨a, b⟩ | ⟨a, b⟩)
      · exact back 0 a b
      · exact back 1 a b
      · exact back 2 a b
/-- no name is wrong: where the columns lie -/
theorem ykn_one {T : Nat → Nat} {ins : Bool} {o : yp_O} (h : ykn T ins o = false) (hT0 : T 0 = 1) : ∀ p, p < 12 → ((2 : Nat), nI p) ∈ o → ykt T p = 0 := by
  intro p hp hm
  unfold ykn at h
  have h2 := bor2 h
  rw [List.any_eq_false] at h2
  have h3 := h2 _ hm
  have ec : ((2 : Nat), nI p).2.toNatClampNeg = p := nI_clamp (by omega)
  rw [ec, Bool.and_eq_true] at h3
  have h4 : ykw T ins p = false := bnt (fun z => h3 ⟨decide_eq_true rfl, z⟩)
  unfold ykw at h4
  have h5 := bor2 h4
  unfold ykt
  by_cases c : p / 4 = 2
  · rw [if_pos c]
  · rw [if_neg c] at h5 ⊢
    rw [Bool.not_eq_false', Bool.or_eq_true, decide_eq_true_eq, decide_eq_true_eq] at h5
    rw [if_pos (by omega)]
theorem ykn_ins {T : Nat → Nat} {o : yp_O} (h : ykn T true o = false) : ∀ p, p < 12 → ((2 : Nat), nI p) ∉ o := by
  intro p hp hm
  unfold ykn at h
  have h2 := bor2 h
  rw [List.any_eq_false] at h2
  have h3 := h2 _ hm
  exact h3 rfl
