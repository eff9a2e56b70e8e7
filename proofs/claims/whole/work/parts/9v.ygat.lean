/-! select: groups, the reference's way and x's -/
def yg_l (mk : Nat → Int32) (FS : List Nat) (q : Nat) : Nat → Nat → Nat → Nat
  | 0, _, r => r
  | n + 1, g, r => yg_l mk FS q n (g + 1) (if mk (FS.getD g 0) = mk q then g else r)
theorem yg_l_none {mk : Nat → Int32} {FS : List Nat} {q : Nat} : ∀ (n g r : Nat), (∀ g', g ≤ g' → g' < g + n → mk (FS.getD g' 0) ≠ mk q) → yg_l mk FS q n g r = r
  | 0, _, _, _ => rfl
  | n + 1, g, r, h => by
    rw [yg_l, if_neg (h g (Nat.le_refl _) (by omega))]
    exact yg_l_none n (g + 1) r (fun g' a b => h g' (by omega) (by omega))
theorem yg_l_some {mk : Nat → Int32} {FS : List Nat} {q g0 : Nat} (h0 : mk (FS.getD g0 0) = mk q) : ∀ (n g r : Nat), g ≤ g0 → g0 < g + n → (∀ g', g ≤ g' → g' < g + n → mk (FS.getD g' 0) = mk q → g' = g0) → yg_l mk FS q n g r = g0
  | 0, g, r, a, b, _ => by omega
  | n + 1, g, r, a, b, h => by
    rw [yg_l]
    by_cases e : g = g0
    · subst e
      rw [if_pos h0]
      exact yg_l_none n (g + 1) g (fun g' x y z => by have := h g' (by omega) (by omega) z; omega)
    · exact yg_l_some h0 n (g + 1) _ (by omega) (by omega) (fun g' x y z => h g' (by omega) (by omega) z)
/-- the group of the found pair q, where FS are the groups' first ones -/
def yg_x (gb sm : Bool) (mk : Nat → Int32) (FS : List Nat) (q : Nat) : Nat := if gb = true then yg_l mk FS q FS.length 0 FS.length else if sm = true then (if FS.length = 0 then 0 else FS.length - 1) else FS.length
def yg_I (gb sm : Bool) (mk : Nat → Int32) (GO FS : List Nat) : Prop :=
  (∀ g, g < FS.length → FS.getD g 0 < GO.length ∧ GO.getD (FS.getD g 0) 0 = g) ∧ (∀ b, b < GO.length → GO.getD b 0 < FS.length ∧ FS.getD (GO.getD b 0) 0 ≤ b) ∧
  (gb = true → (∀ b, b < GO.length → mk (FS.getD (GO.getD b 0) 0) = mk b) ∧ ∀ g g', g < FS.length → g' < FS.length → mk (FS.getD g 0) = mk (FS.getD g' 0) → g = g') ∧ (gb = false → sm = true → FS.length ≤ 1)
theorem xl_fm_spec {mk : Nat → Int32} {i : Nat} : ∀ (n b : Nat), (xl_fm mk i n b = none ∧ ∀ c, b ≤ c → c < b + n → mk c ≠ mk i) ∨ ∃ c, xl_fm mk i n b = some c ∧ b ≤ c ∧ c < b + n ∧ mk c = mk i
  | 0, b => Or.inl ⟨rfl, fun c x y => by omega⟩
  | n + 1, b => by
    rw [xl_fm]
    by_cases e : mk b = mk i
    · rw [if_pos e]
      exact Or.inr ⟨b, rfl, Nat.le_refl _, by omega, e⟩
    · rw [if_neg e]
      rcases xl_fm_spec (mk := mk) (i := i) n (b + 1) with ⟨h1, h2⟩ | ⟨c, h1, h2, h3, h4⟩
      · refine Or.inl ⟨h1, fun c x y => ?_⟩
        by_cases q : c = b
        · rw [q]; exact e
        · exact h2 c (by omega) (by omega)
      · exact Or.inr ⟨c, h1, by omega, by omega, h4⟩
theorem yg_x_eq {gb sm : Bool} {kd : Nat} {mk : Nat → Int32} {GO FS : List Nat} (hkd : gb = true ↔ kd ≠ 0) (h : yg_I gb sm mk GO FS) : yg_x gb sm mk FS GO.length = (match xl_lk kd sm mk GO.length with | none => FS.length | some b => GO.getD b 0) := by
  obtain ⟨h1, h2, h3, h4⟩ := h
  unfold yg_x xl_lk
  cases hg : gb with
  | true =>
    have hk := hkd.mp hg
    rw [if_pos rfl, if_neg hk]
    obtain ⟨h5, h6⟩ := h3 hg
    rcases xl_fm_spec (mk := mk) (i := GO.length) GO.length 0 with ⟨e1, e2⟩ | ⟨c, e1, _, e3, e4⟩
    · rw [e1]
      exact yg_l_none _ 0 _ (fun g' _ b => e2 _ (Nat.zero_le _) (by rw [Nat.zero_add]; exact (h1 g' (by omega)).1))
    · rw [e1]
      have hc : c < GO.length := by omega
      obtain ⟨g1, g2⟩ := h2 c hc
      show yg_l mk FS GO.length FS.length 0 FS.length = GO.getD c 0
      refine yg_l_some (by rw [h5 c hc]; exact e4) _ 0 _ (Nat.zero_le _) (by omega) (fun g' _ b z => h6 g' _ (by omega) g1 ?_)
      rw [z, h5 c hc, e4]
  | false =>
    have hk : kd = 0 := by
      by_cases q : kd = 0
      · exact q
      · have := hkd.mpr q
        rw [hg] at this
        cases this
    rw [if_neg Bool.false_ne_true, if_pos hk]
    cases hs : sm with
    | false => simp
    | true =>
      have hl := h4 hg hs
      rw [if_pos rfl]
      by_cases q : GO.length = 0
      · have hF : FS.length = 0 := by
          by_cases z : FS.length = 0
          · exact z
          · have := (h1 0 (by omega)).1
            omega
        rw [if_pos hF, if_neg (by omega)]
        exact hF.symm
      · have := (h2 0 (by omega)).1
        rw [if_neg (by omega), if_pos ⟨rfl, by omega⟩]
        show FS.length - 1 = GO.getD 0 0
        omega
