/-! conditions: the reference's reading as a function; the two do the same -/
/-- place, bad, codes, outer nests, what is held (the top first), step -/
abbrev yc_S : Type := Nat × Bool × yp_O × Int32 × List Nat × Nat
def yc_nt : List Nat → Int32 → yp_O → yp_O × List Nat × Int32
  | [], n, o => (o, [], n)
  | w :: W, n, o => if w = 10 then yc_nt W (n - 1) (o ++ [(10, 0)]) else (o, w :: W, n)
def yc_nts (S : yc_S) : yc_S := (S.1, S.2.1, (yc_nt S.2.2.2.2.1 S.2.2.2.1 S.2.2.1).1, (yc_nt S.2.2.2.2.1 S.2.2.2.1 S.2.2.1).2.2, (yc_nt S.2.2.2.2.1 S.2.2.2.1 S.2.2.1).2.1, S.2.2.2.2.2)
def yc_wh (h : Nat) : Nat := if h = 30 then 7 else if h = 31 then 8 else if h = 32 then 9 else 0
/-- behind the first E of a comparison -/
def yc_e2 (ts : List (Nat × Int32)) (ou : Int32) (E : Nat × Bool × yp_O) : Nat × Bool × yp_O := if (E.2.1 || decide (yc_wh (xp_hd ts E.1) = 0)) = true then (E.1 + 1, true, E.2.2) else yp_ex ts ou (E.1 + 1) E.2.2
def yc_single (ts : List (Nat × Int32)) (S : yc_S) : yc_S :=
  if xp_hd ts S.1 = 14 ∨ xp_hd ts S.1 = 25 then (S.1 + 1, S.2.1 || decide (5 < S.2.2.2.1.toInt), S.2.2.1, S.2.2.2.1 + 1, (if xp_hd ts S.1 = 14 then 10 else 13) :: S.2.2.2.2.1, 2)
  else yc_nts ((yc_e2 ts S.2.2.2.1 (yp_ex ts S.2.2.2.1 S.1 S.2.2.1)).1, (yc_e2 ts S.2.2.2.1 (yp_ex ts S.2.2.2.1 S.1 S.2.2.1)).2.1, (yc_e2 ts S.2.2.2.1 (yp_ex ts S.2.2.2.1 S.1 S.2.2.1)).2.2 ++ [(yc_wh (xp_hd ts (yp_ex ts S.2.2.2.1 S.1 S.2.2.1).1), 0)], S.2.2.2.1, S.2.2.2.2.1, 1)
def yc_cp (and : Bool) : List Nat → yp_O → yp_O × List Nat
  | [], o => (o, [])
  | w :: W, o => if w = 11 ∨ (and = false ∧ w = 12) then yc_cp and W (o ++ [(w, 0)]) else (o, w :: W)
def yc_conn (ts : List (Nat × Int32)) (S : yc_S) : yc_S :=
  if xp_hd ts S.1 = 12 ∨ xp_hd ts S.1 = 13 then (S.1 + 1, S.2.1, (yc_cp (decide (xp_hd ts S.1 = 12)) S.2.2.2.2.1 S.2.2.1).1, S.2.2.2.1, (if xp_hd ts S.1 = 12 then 11 else 12) :: (yc_cp (decide (xp_hd ts S.1 = 12)) S.2.2.2.2.1 S.2.2.1).2, 2)
  else if 13 ∈ S.2.2.2.2.1 ∧ xp_hd ts S.1 = 26 then yc_nts (S.1 + 1, S.2.1, (yp_po S.2.2.2.2.1 S.2.2.1).1, S.2.2.2.1 - 1, (yp_po S.2.2.2.2.1 S.2.2.1).2, 1)
  else (S.1, S.2.1, S.2.2.1, S.2.2.2.1, S.2.2.2.2.1, 0)
def yc_go (ts : List (Nat × Int32)) : Nat → yc_S → yc_S
  | 0, S => S
  | n + 1, S => if S.2.2.2.2.2 = 0 ∨ S.2.1 = true then S else if S.2.2.2.2.2 = 2 then yc_go ts n (yc_single ts S) else yc_go ts n (yc_conn ts S)
def yc_mu (ts : List (Nat × Int32)) (S : yc_S) : Nat := 3 * (ts.length - S.1) + S.2.2.2.2.2
theorem yp_rand_ge (ts : List (Nat × Int32)) (ou : Int32) (S : yp_S) : S.1 ≤ (yp_rand ts ou S).1 := by
  unfold yp_rand
  split
  · exact Nat.le_succ _
  · split
    · exact Nat.le_succ _
    · exact yp_ca_ge ts S.1
theorem yp_rtor_ge (ts : List (Nat × Int32)) (S : yp_S) : S.1 ≤ (yp_rtor ts S).2.1 := by
  unfold yp_rtor
  split
  · exact Nat.le_succ _
  · split
    · exact Nat.le_succ _
    · exact Nat.le_refl _
theorem yp_go_ge (ts : List (Nat × Int32)) (ou : Int32) : ∀ (n : Nat) (S : yp_S), S.1 ≤ (yp_go ts ou n S).1
  | 0, S => Nat.le_refl _
  | n + 1, S => by
    rw [yp_go]
    split
    · exact Nat.le_refl _
    · split
      · exact Nat.le_trans (yp_rand_ge ts ou S) (yp_go_ge ts ou n _)
      · split
        · exact Nat.le_trans (yp_rtor_ge ts S) (yp_go_ge ts ou n _)
        · exact Nat.le_refl _
theorem yp_ex_ge (ts : List (Nat × Int32)) (ou : Int32) (a : Nat) (o : yp_O) : a ≤ (yp_ex ts ou a o).1 := yp_go_ge ts ou (yp_mu ts (a, false, o, [], 0, true) + 1) (a, false, o, [], 0, true)
theorem yc_e2_ge (ts : List (Nat × Int32)) (ou : Int32) (E : Nat × Bool × yp_O) : E.1 ≤ (yc_e2 ts ou E).1 := by
  unfold yc_e2
  split
  · exact Nat.le_succ _
  · exact Nat.le_trans (Nat.le_succ _) (yp_ex_ge ts ou _ _)
theorem yc_mu_single {ts : List (Nat × Int32)} {S : yc_S} (h : S.2.2.2.2.2 = 2) : yc_mu ts (yc_single ts S) < yc_mu ts S := by
  unfold yc_mu
  rw [h]
  unfold yc_single
  split
  · rename_i q
    have : S.1 < ts.length := xp_hd_lt rfl (by omega)
    show 3 * (ts.length - (S.1 + 1)) + 2 < _
    omega
  · have h1 := yp_ex_ge ts S.2.2.2.1 S.1 S.2.2.1
    have h2 := yc_e2_ge ts S.2.2.2.1 (yp_ex ts S.2.2.2.1 S.1 S.2.2.1)
    show 3 * (ts.length - (yc_e2 ts S.2.2.2.1 (yp_ex ts S.2.2.2.1 S.1 S.2.2.1)).1) + 1 < _
    omega
theorem yc_mu_conn {ts : List (Nat × Int32)} {S : yc_S} (h : S.2.2.2.2.2 ≠ 0) : yc_mu ts (yc_conn ts S) < yc_mu ts S := by
  unfold yc_mu
  unfold yc_conn
  split
  · rename_i q
    have : S.1 < ts.length := xp_hd_lt rfl (by omega)
    show 3 * (ts.length - (S.1 + 1)) + 2 < _
    omega
  · split
    · rename_i q
      have : S.1 < ts.length := xp_hd_lt q.2 (by decide)
      show 3 * (ts.length - (S.1 + 1)) + 1 < _
      omega
    · show 3 * (ts.length - S.1) + 0 < _
      omega
theorem yc_go_eq {ts : List (Nat × Int32)} : ∀ (n n' : Nat) (S : yc_S), yc_mu ts S < n → yc_mu ts S < n' → yc_go ts n S = yc_go ts n' S
  | 0, _, _, h, _ => absurd h (Nat.not_lt_zero _)
  | _ + 1, 0, _, _, h => absurd h (Nat.not_lt_zero _)
  | n + 1, n' + 1, S, h, h' => by
    rw [yc_go, yc_go]
    by_cases q : S.2.2.2.2.2 = 0 ∨ S.2.1 = true
    · rw [if_pos q, if_pos q]
    · rw [if_neg q, if_neg q]
      by_cases q2 : S.2.2.2.2.2 = 2
      · rw [if_pos q2, if_pos q2]
        have := yc_mu_single (ts := ts) q2
        exact yc_go_eq n n' _ (by omega) (by omega)
      · rw [if_neg q2, if_neg q2]
        have := yc_mu_conn (ts := ts) (fun e => q (Or.inl e))
        exact yc_go_eq n n' _ (by omega) (by omega)
def yc_R (ts : List (Nat × Int32)) (S : yc_S) : yc_S := yc_go ts (yc_mu ts S + 1) S
theorem yc_R_stop {ts : List (Nat × Int32)} {S : yc_S} (h : S.2.2.2.2.2 = 0 ∨ S.2.1 = true) : yc_R ts S = S := by
  unfold yc_R
  rw [yc_go, if_pos h]
theorem yc_R_single {ts : List (Nat × Int32)} {S : yc_S} (h : S.2.1 = false) (h2 : S.2.2.2.2.2 = 2) : yc_R ts S = yc_R ts (yc_single ts S) := by
  have := yc_mu_single (ts := ts) h2
  unfold yc_R
  rw [yc_go, if_neg (by rw [h, h2]; decide), if_pos h2]
  exact yc_go_eq _ _ _ (by omega) (by omega)
theorem yc_R_conn {ts : List (Nat × Int32)} {S : yc_S} (h : S.2.1 = false) (h1 : S.2.2.2.2.2 = 1) : yc_R ts S = yc_R ts (yc_conn ts S) := by
  have := yc_mu_conn (ts := ts) (S := S) (by omega)
  unfold yc_R
  rw [yc_go, if_neg (by rw [h, h1]; decide), if_neg (by rw [h1]; decide)]
  exact yc_go_eq _ _ _ (by omega) (by omega)
def yc_fin (S : yc_S) : Nat × Bool × yp_O := (S.1, S.2.1 || decide (13 ∈ S.2.2.2.2.1), S.2.2.1 ++ qe S.2.2.2.2.1)
def yc_co (ts : List (Nat × Int32)) (a : Nat) (o : yp_O) : Nat × Bool × yp_O := yc_fin (yc_R ts (a, false, o, 0, [], 2))
/-! monotony -/
theorem xp_Mo.cmp {ts : List (Nat × Int32)} {e : xp_M → xp_M} (he : xp_Mo e) : xp_Mo (xp_cmp ts e) := fun m h => he _ (xp_Mo.need ts _ _ (he m h))
theorem xp_Mo.Nb {ts : List (Nat × Int32)} {e fC fN : xp_M → xp_M} (he : xp_Mo e) (hC : xp_Mo fC) (hN : xp_Mo fN) : xp_Mo (xp_Nb ts e fC fN) := fun m h => by
  unfold xp_Nb
  split
  · exact xp_Mo.need ts 26 _ (hC _ h)
  · split
    · exact hN _ h
    · exact he.cmp m h
theorem xp_Mo.Kf {ts : List (Nat × Int32)} {f : xp_M → xp_M} (hf : xp_Mo f) : xp_Mo (xp_Kf ts f) := fun m h => xp_Mo.loop hf 80 _ (hf m h)
theorem xp_Mo.Cf {ts : List (Nat × Int32)} {f : xp_M → xp_M} (hf : xp_Mo f) : xp_Mo (xp_Cf ts f) := fun m h => xp_Mo.loop hf.Kf 80 _ (hf.Kf m h)
theorem xp_Mo.N (ts : List (Nat × Int32)) : ∀ n, xp_Mo (xp_N ts n)
  | 0 => .Nb (xp_Mo.E ts 0) .bad .bad
  | n + 1 => .Nb (xp_Mo.E ts (n + 1)) (xp_Mo.N ts n).Cf (xp_Mo.N ts n)
theorem xp_Mo.C (ts : List (Nat × Int32)) (n : Nat) : xp_Mo (xp_C ts n) := (xp_Mo.N ts n).Cf
/-! values -/
def yb (b : Bool) : Int32 := if b = true then 1 else 0
theorem yv_B.not {c : List (Nat × Int32)} {cm : yp_O} (h : yv_B c cm) : yv_B (c ++ [(14, 0)]) (cm ++ [(10, 0)]) := by
  obtain ⟨val, h1, h2⟩ := h
  have e : ∀ b : Bool, (1 : Int32) - (if b = true then 1 else 0) = if (!b) = true then 1 else 0 := by decide
  refine ⟨fun env => !val env, fun env st => ?_, fun env st => ?_⟩
  · rw [xk_run_app, h1]
    show xk_run env [(14, 0)] ((if val env = true then 1 else 0) :: st) = _
    simp only [xk_run]
    rw [if_neg (by decide), if_neg (by decide), if_pos trivial, e]
  · rw [ym_run_app, h2]
    show ym_run env [(10, 0)] ((if val env = true then 1 else 0) :: st) = _
    simp only [ym_run, ym_st]
    rw [if_neg (by decide), if_neg (by decide), if_neg (by decide), if_pos trivial, e]
    rfl
theorem yv_B.bin {c c' : List (Nat × Int32)} {cm cm' : yp_O} {t w : Nat} (h : yv_B c cm) (h' : yv_B c' cm') (ht : t ≠ 33 ∧ t ≠ 34 ∧ t ≠ 14) (hw : w ≠ 1 ∧ w ≠ 2 ∧ w ≠ 6 ∧ w ≠ 10 ∧ w ≠ 0) (op : Bool → Bool → Bool) (hx : ∀ a b, xk_jn t (if a = true then 1 else 0) (if b = true then 1 else 0) = if op a b = true then 1 else 0) (hy : ∀ a b, yj w (if a = true then 1 else 0) (if b = true then 1 else 0) = if op a b = true then 1 else 0) : yv_B (c ++ c' ++ [(t, 0)]) (cm ++ cm' ++ [(w, 0)]) := by
  obtain ⟨val, h1, h2⟩ := h
  obtain ⟨val', h1', h2'⟩ := h'
  refine ⟨fun env => op (val env) (val' env), fun env st => ?_, fun env st => ?_⟩
  · rw [xk_run_app, xk_run_app, h1]
    show ((xk_run env c' ((if val env = true then 1 else 0) :: st)).bind _) = _
    rw [h1']
    show xk_run env [(t, 0)] ((if val' env = true then 1 else 0) :: (if val env = true then 1 else 0) :: st) = _
    simp only [xk_run]
    rw [if_neg ht.1, if_neg ht.2.1, if_neg ht.2.2, hx]
  · rw [ym_run_app, ym_run_app, h2]
    show ((ym_run env cm' ((if val env = true then 1 else 0) :: st)).bind _) = _
    rw [h2']
    show ym_run env [(w, 0)] ((if val' env = true then 1 else 0) :: (if val env = true then 1 else 0) :: st) = _
    simp only [ym_run, ym_st]
    rw [if_neg hw.1, if_neg hw.2.1, if_neg hw.2.2.1, if_neg hw.2.2.2.1, if_neg hw.2.2.2.2, hy]
    rfl
theorem yv_E.cmp {c c' : List (Nat × Int32)} {cm cm' : yp_O} {t w : Nat} (h : yv_E c cm) (h' : yv_E c' cm') (htw : (t = 30 ∧ w = 7) ∨ (t = 31 ∧ w = 8) ∨ (t = 32 ∧ w = 9)) : yv_B (c ++ c' ++ [(t, 0)]) (cm ++ cm' ++ [(w, 0)]) := by
  have hj : ∀ x y, xk_jn t x y = yj w x y := by
    rcases htw with ⟨rfl, rfl⟩ | ⟨rfl, rfl⟩ | ⟨rfl, rfl⟩
    · exact xy_jn.2.2.2.1
    · exact xy_jn.2.2.2.2.1
    · exact xy_jn.2.2.2.2.2
  obtain ⟨val, h1, h2⟩ := h.bin h' (by omega) (by omega) hj
  have hb : ∀ env, val env = 0 ∨ val env = 1 := by
    intro env
    obtain ⟨v1, a1, -⟩ := h
    obtain ⟨v2, a2, -⟩ := h'
    have := h1 env []
    rw [xk_run_app, xk_run_app, a1] at this
    change ((xk_run env c' (v1 env :: [])).bind _) = _ at this
    rw [a2] at this
    change xk_run env [(t, 0)] (v2 env :: v1 env :: []) = _ at this
    simp only [xk_run] at this
    rw [if_neg (by omega), if_neg (by omega), if_neg (by omega), Option.some.injEq, List.cons.injEq] at this
    rw [← this.1]
    rcases htw with ⟨rfl, rfl⟩ | ⟨rfl, rfl⟩ | ⟨rfl, rfl⟩
    · simp only [xk_jn]; simp; by_cases e : v1 env = v2 env <;> simp [e]
    · simp only [xk_jn]; simp; by_cases e : (v1 env).toInt < (v2 env).toInt <;> simp [e] <;> omega
    · simp only [xk_jn]; simp; by_cases e : (v2 env).toInt < (v1 env).toInt <;> simp [e] <;> omega
  have he : ∀ env, val env = if (val env == 1) = true then 1 else 0 := fun env => by
    rcases hb env with e | e <;> rw [e] <;> decide
  exact ⟨fun env => val env == 1, fun env st => by rw [h1, ← he], fun env st => by rw [h2, ← he]⟩
