/-! select: groups, a step -/
theorem gD_lt {L : List Nat} {x a : Nat} (h : a < L.length) : (L ++ [x]).getD a 0 = L.getD a 0 := by
  rw [List.getD_eq_getElem?_getD, List.getD_eq_getElem?_getD, List.getElem?_append_left h]
theorem gD_eq {L : List Nat} {x : Nat} : (L ++ [x]).getD L.length 0 = x := by
  rw [List.getD_eq_getElem?_getD, List.getElem?_append_right (Nat.le_refl _), Nat.sub_self]
  rfl
theorem yg_x_gb {sm : Bool} {mk : Nat → Int32} {GO FS : List Nat} {q : Nat} (h : yg_I true sm mk GO FS) : (yg_x true sm mk FS q = FS.length ∧ ∀ g, g < FS.length → mk (FS.getD g 0) ≠ mk q) ∨ (yg_x true sm mk FS q < FS.length ∧ mk (FS.getD (yg_x true sm mk FS q) 0) = mk q) := by
  have h6 := (h.2.2.1 rfl).2
  have e : yg_x true sm mk FS q = yg_l mk FS q FS.length 0 FS.length := if_pos rfl
  rw [e]
  by_cases c : ∃ g, g < FS.length ∧ mk (FS.getD g 0) = mk q
  · obtain ⟨g0, a, b⟩ := c
    have := yg_l_some (q := q) b FS.length 0 FS.length (Nat.zero_le _) (by omega) (fun g' _ y z => h6 g' g0 (by omega) a (z.trans b.symm))
    rw [this]
    exact Or.inr ⟨a, b⟩
  · have hn : ∀ g, g < FS.length → mk (FS.getD g 0) ≠ mk q := fun g a b => c ⟨g, a, b⟩
    exact Or.inl ⟨yg_l_none _ 0 _ (fun g' _ y => hn g' (by omega)), hn⟩
theorem yg_I.step {gb sm : Bool} {mk : Nat → Int32} {GO FS : List Nat} (h : yg_I gb sm mk GO FS) : yg_x gb sm mk FS GO.length ≤ FS.length ∧ yg_I gb sm mk (GO ++ [yg_x gb sm mk FS GO.length]) (if yg_x gb sm mk FS GO.length = FS.length then FS ++ [GO.length] else FS) := by
  have hgb : gb = true → _ := fun e => yg_x_gb (sm := sm) (mk := mk) (GO := GO) (FS := FS) (q := GO.length) (by rw [e] at h; exact h)
  have hnb : gb = false → sm = true → (FS.length = 0 ∧ yg_x gb sm mk FS GO.length = 0) ∨ (FS.length ≠ 0 ∧ yg_x gb sm mk FS GO.length = FS.length - 1) := fun e e2 => by
    unfold yg_x
    rw [e, e2, if_neg Bool.false_ne_true, if_pos rfl]
    by_cases z : FS.length = 0
    · exact Or.inl ⟨z, if_pos z⟩
    · exact Or.inr ⟨z, if_neg z⟩
  have hle : yg_x gb sm mk FS GO.length ≤ FS.length := by
    cases hg : gb with
    | true =>
      have := hgb hg
      rcases this with ⟨a, _⟩ | ⟨a, _⟩ <;> omega
    | false =>
      cases hs : sm with
      | true =>
        have := hnb hg hs
        rw [hg, hs] at this
        omega
      | false => exact Nat.le_refl _
  have hgb2 : gb = true → (yg_x gb sm mk FS GO.length = FS.length ∧ ∀ g, g < FS.length → mk (FS.getD g 0) ≠ mk GO.length) ∨ (yg_x gb sm mk FS GO.length < FS.length ∧ mk (FS.getD (yg_x gb sm mk FS GO.length) 0) = mk GO.length) := fun e => by
    have := hgb e
    rw [← e] at this
    exact this
  obtain ⟨h1, h2, h3, h4⟩ := h
  generalize yg_x gb sm mk FS GO.length = x at *
  refine ⟨hle, ?_⟩
  have hGl : (GO ++ [x]).length = GO.length + 1 := by simp
  by_cases c : x = FS.length
  · rw [if_pos c]
    have hFl : (FS ++ [GO.length]).length = FS.length + 1 := by simp
    refine ⟨fun g hg => ?_, fun b hb => ?_, fun e => ⟨fun b hb => ?_, fun g g' hg hg' z => ?_⟩, fun e e2 => ?_⟩
    · rw [hFl] at hg
      rw [hGl]
      by_cases q : g < FS.length
      · obtain ⟨a1, a2⟩ := h1 g q
        rw [gD_lt q, gD_lt a1]
        exact ⟨by omega, a2⟩
      · have : g = FS.length := by omega
        rw [this, gD_eq, gD_eq]
        exact ⟨by omega, c⟩
    · rw [hGl] at hb
      rw [hFl]
      by_cases q : b < GO.length
      · obtain ⟨a1, a2⟩ := h2 b q
        rw [gD_lt q, gD_lt a1]
        exact ⟨by omega, a2⟩
      · have : b = GO.length := by omega
        rw [this, gD_eq, c, gD_eq]
        exact ⟨by omega, Nat.le_refl _⟩
    · rw [hGl] at hb
      by_cases q : b < GO.length
      · rw [gD_lt q, gD_lt (h2 b q).1]
        exact (h3 e).1 b q
      · have : b = GO.length := by omega
        rw [this, gD_eq, c, gD_eq]
    · rw [hFl] at hg hg'
      have hno : ∀ g, g < FS.length → mk (FS.getD g 0) ≠ mk GO.length := by
        rcases hgb2 e with ⟨_, a⟩ | ⟨a, _⟩
        · exact a
        · omega
      by_cases q : g < FS.length
      · by_cases q' : g' < FS.length
        · rw [gD_lt q, gD_lt q'] at z
          exact (h3 e).2 g g' q q' z
        · have : g' = FS.length := by omega
          rw [this, gD_lt q, gD_eq] at z
          exact absurd z (hno g q)
      · have e1 : g = FS.length := by omega
        by_cases q' : g' < FS.length
        · rw [e1, gD_eq, gD_lt q'] at z
          exact absurd z.symm (hno g' q')
        · omega
    · rw [hFl]
      have := hnb e e2
      omega
  · rw [if_neg c]
    have hlt : x < FS.length := by omega
    refine ⟨fun g hg => ?_, fun b hb => ?_, fun e => ⟨fun b hb => ?_, (h3 e).2⟩, h4⟩
    · obtain ⟨a1, a2⟩ := h1 g hg
      rw [hGl, gD_lt a1]
      exact ⟨by omega, a2⟩
    · rw [hGl] at hb
      by_cases q : b < GO.length
      · rw [gD_lt q]
        exact h2 b q
      · have : b = GO.length := by omega
        rw [this, gD_eq]
        exact ⟨hlt, Nat.le_of_lt (h1 x hlt).1⟩
    · rw [hGl] at hb
      by_cases q : b < GO.length
      · rw [gD_lt q]
        exact (h3 e).1 b q
      · have : b = GO.length := by omega
        rw [this, gD_eq]
        rcases hgb2 e with ⟨a, _⟩ | ⟨_, a⟩
        · omega
        · exact a
