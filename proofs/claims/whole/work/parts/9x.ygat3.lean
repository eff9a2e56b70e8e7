/-! select: groups, all of them -/
def yg_r (gb sm : Bool) (mk : Nat → Int32) : Nat → List Nat → List Nat → List Nat × List Nat
  | 0, GO, FS => (GO, FS)
  | n + 1, GO, FS => yg_r gb sm mk n (GO ++ [yg_x gb sm mk FS GO.length]) (if yg_x gb sm mk FS GO.length = FS.length then FS ++ [GO.length] else FS)
theorem yg_r_pt {gb sm : Bool} {kd : Nat} {mk : Nat → Int32} (hkd : gb = true ↔ kd ≠ 0) : ∀ (n : Nat) (GO FS : List Nat), yg_I gb sm mk GO FS → xl_pt kd sm mk n GO.length GO FS.length = ((yg_r gb sm mk n GO FS).1, (yg_r gb sm mk n GO FS).2.length) ∧ yg_I gb sm mk (yg_r gb sm mk n GO FS).1 (yg_r gb sm mk n GO FS).2
  | 0, GO, FS, h => ⟨rfl, h⟩
  | n + 1, GO, FS, h => by
    have hx := yg_x_eq hkd h
    obtain ⟨s1, s2⟩ := h.step
    have ih := yg_r_pt hkd n _ _ s2
    rw [List.length_append, List.length_cons, List.length_nil] at ih
    rw [xl_pt, yg_r]
    refine ⟨?_, ih.2⟩
    rw [← ih.1]
    cases e : xl_lk kd sm mk GO.length with
    | none =>
      rw [e] at hx
      have hx : yg_x gb sm mk FS GO.length = FS.length := hx
      rw [hx, if_pos rfl]
      show xl_pt kd sm mk n (GO.length + 1) (GO ++ [FS.length]) (FS.length + 1) = _
      rw [List.length_append]
      rfl
    | some b =>
      rw [e] at hx
      have hx : yg_x gb sm mk FS GO.length = GO.getD b 0 := hx
      have hlt := (h.2.1 b (xl_lk_lt e)).1
      rw [hx, if_neg (by omega)]
theorem yg_I.nil {gb sm : Bool} {mk : Nat → Int32} : yg_I gb sm mk [] [] := ⟨fun g h => absurd h (Nat.not_lt_zero _), fun b h => absurd h (Nat.not_lt_zero _), fun _ => ⟨fun b h => absurd h (Nat.not_lt_zero _), fun g g' h => absurd h (Nat.not_lt_zero _)⟩, fun _ _ => Nat.zero_le _⟩
theorem xl_vf_first {v : Nat → Int32} {gp : Nat} : ∀ (GO : List Nat) (i f : Nat) (t : Int32), i ≤ f → f - i < GO.length → GO.getD (f - i) 0 = gp → (∀ b, b < f - i → GO.getD b 0 ≠ gp) → xl_vf 1 v gp GO i t = v f
  | [], i, f, t, _, h, _, _ => absurd h (Nat.not_lt_zero _)
  | x :: GO, i, f, t, h1, h2, h3, h4 => by
    rw [xl_vf]
    by_cases c : f = i
    · subst c
      rw [Nat.sub_self] at h3
      have h3 : x = gp := h3
      rw [if_pos h3, if_pos rfl]
    · have e : f - i = (f - (i + 1)) + 1 := by omega
      have h40 : x ≠ gp := h4 0 (by omega)
      rw [if_neg h40]
      rw [e] at h2 h3 h4
      exact xl_vf_first GO (i + 1) f t (by omega) (by simpa using h2) h3 (fun b hb => h4 (b + 1) (by omega))
/-- a group's value by its first pair -/
theorem yg_I.first {gb sm : Bool} {mk v : Nat → Int32} {GO FS : List Nat} {g : Nat} (h : yg_I gb sm mk GO FS) (hg : g < FS.length) : xl_vf 1 v g GO 0 0 = v (FS.getD g 0) := by
  obtain ⟨a1, a2⟩ := h.1 g hg
  refine xl_vf_first GO 0 (FS.getD g 0) 0 (Nat.zero_le _) a1 a2 (fun b hb e => ?_)
  obtain ⟨c1, c2⟩ := h.2.1 b (by omega)
  rw [e] at c2
  omega
