/-! ===== the reference's parser, as a function over the same tokens ===== -/
/-- codes: 1 a number, 2 a column, 3 + 4 - 5 * 6 negation 7 = 8 < 9 > 10 not 11 and 12 or; 13 an open nest -/
abbrev yp_O : Type := List (Nat × Int32)
/-- place, bad, codes, what waits (the top first), nests, is an F wanted -/
abbrev yp_S : Type := Nat × Bool × yp_O × List Nat × Int32 × Bool
def yp_ct (ts : List (Nat × Int32)) (a : Nat) : Nat := if xp_hd ts a = 19 then 0 else if xp_hd ts a = 20 then 1 else 2
def yp_c1 (ts : List (Nat × Int32)) (a : Nat) : Nat := if xp_hd ts a = 19 ∨ xp_hd ts a = 20 then (if xp_hd ts (a + 1) = 21 then a + 2 else a + 1) else a
def yp_cb (ts : List (Nat × Int32)) (a : Nat) : Bool := decide (xp_hd ts a = 19 ∨ xp_hd ts a = 20) && !decide (xp_hd ts (a + 1) = 21)
def yp_isW (h : Nat) : Bool := decide (h < 19) || decide (h = 35)
def yp_ca (ts : List (Nat × Int32)) (a : Nat) : Nat := if yp_isW (xp_hd ts (yp_c1 ts a)) then yp_c1 ts a + 1 else yp_c1 ts a
def yp_cx (ts : List (Nat × Int32)) (a : Nat) : Bool := yp_cb ts a || !(decide (15 ≤ xp_hd ts (yp_c1 ts a)) && decide (xp_hd ts (yp_c1 ts a) ≤ 18))
def yp_cc (h : Nat) : Nat := if h = 15 then 0 else if h = 16 then 1 else if h = 17 then 2 else 3
def yp_co (ts : List (Nat × Int32)) (a : Nat) : Nat := 4 * yp_ct ts a + yp_cc (xp_hd ts (yp_c1 ts a))
def yp_sg : List Nat → Int32 → yp_O → yp_O × List Nat × Int32
  | [], n, o => (o, [], n)
  | w :: W, n, o => if w = 6 then yp_sg W (n - 1) (o ++ [(6, 0)]) else (o, w :: W, n)
def yp_sgs (S : yp_S) : yp_S := (S.1, S.2.1, (yp_sg S.2.2.2.1 S.2.2.2.2.1 S.2.2.1).1, (yp_sg S.2.2.2.1 S.2.2.2.2.1 S.2.2.1).2.1, (yp_sg S.2.2.2.1 S.2.2.2.2.1 S.2.2.1).2.2, S.2.2.2.2.2)
def yp_rand (ts : List (Nat × Int32)) (ou : Int32) (S : yp_S) : yp_S :=
  if xp_hd ts S.1 = 23 ∨ xp_hd ts S.1 = 28 then (S.1 + 1, S.2.1 || decide (5 < (S.2.2.2.2.1 + ou).toInt), S.2.2.1, (if xp_hd ts S.1 = 23 then 13 else 6) :: S.2.2.2.1, S.2.2.2.2.1 + 1, true)
  else if xp_hd ts S.1 = 33 then yp_sgs (S.1 + 1, S.2.1, S.2.2.1 ++ [(1, xp_nm ts S.1)], S.2.2.2.1, S.2.2.2.2.1, false)
  else yp_sgs (yp_ca ts S.1, S.2.1 || yp_cx ts S.1, S.2.2.1 ++ [(2, nI (yp_co ts S.1))], S.2.2.2.1, S.2.2.2.2.1, false)
def yp_wh (h : Nat) : Nat := if h = 27 then 3 else if h = 28 then 4 else if h = 29 then 5 else 0
def yp_pp (what : Nat) : List Nat → yp_O → yp_O × List Nat
  | [], o => (o, [])
  | w :: W, o => if w = 5 ∨ (what < 5 ∧ (w = 3 ∨ w = 4)) then yp_pp what W (o ++ [(w, 0)]) else (o, w :: W)
def yp_po : List Nat → yp_O → yp_O × List Nat
  | [], o => (o, [])
  | w :: W, o => if w = 13 then (o, W) else yp_po W (o ++ [(w, 0)])
def yp_rtor (ts : List (Nat × Int32)) (S : yp_S) : Bool × yp_S :=
  if yp_wh (xp_hd ts S.1) ≠ 0 then (true, (S.1 + 1, S.2.1, (yp_pp (yp_wh (xp_hd ts S.1)) S.2.2.2.1 S.2.2.1).1, yp_wh (xp_hd ts S.1) :: (yp_pp (yp_wh (xp_hd ts S.1)) S.2.2.2.1 S.2.2.1).2, S.2.2.2.2.1, true))
  else if 13 ∈ S.2.2.2.1 ∧ xp_hd ts S.1 = 24 then (true, yp_sgs (S.1 + 1, S.2.1, (yp_po S.2.2.2.1 S.2.2.1).1, (yp_po S.2.2.2.1 S.2.2.1).2, S.2.2.2.2.1 - 1, false))
  else (false, S)
def yp_go (ts : List (Nat × Int32)) (ou : Int32) : Nat → yp_S → yp_S
  | 0, S => S
  | n + 1, S => if S.2.1 = true then S else if S.2.2.2.2.2 = true then yp_go ts ou n (yp_rand ts ou S) else if (yp_rtor ts S).1 = true then yp_go ts ou n (yp_rtor ts S).2 else S
/-- what is left to do at most -/
def yp_mu (ts : List (Nat × Int32)) (S : yp_S) : Nat := 2 * (ts.length - S.1) + (if S.2.2.2.2.2 = true then 1 else 0)
theorem yp_c1_ge (ts : List (Nat × Int32)) (a : Nat) : a ≤ yp_c1 ts a := by
  unfold yp_c1
  split
  · split <;> omega
  · omega
theorem yp_ca_ge (ts : List (Nat × Int32)) (a : Nat) : a ≤ yp_ca ts a := by
  have := yp_c1_ge ts a
  unfold yp_ca
  split <;> omega
theorem yp_mu_rand {ts : List (Nat × Int32)} {ou : Int32} {S : yp_S} (hw : S.2.2.2.2.2 = true) : yp_mu ts (yp_rand ts ou S) < yp_mu ts S := by
  unfold yp_mu
  rw [if_pos hw]
  unfold yp_rand
  split
  · rename_i h
    have : S.1 < ts.length := by
      rcases h with h | h
      · exact xp_hd_lt h (by decide)
      · exact xp_hd_lt h (by decide)
    show 2 * (ts.length - (S.1 + 1)) + 1 < _
    omega
  · split
    · show 2 * (ts.length - (S.1 + 1)) + 0 < _
      omega
    · have := yp_ca_ge ts S.1
      show 2 * (ts.length - yp_ca ts S.1) + 0 < _
      omega
theorem yp_mu_rtor {ts : List (Nat × Int32)} {S : yp_S} (hm : (yp_rtor ts S).1 = true) : yp_mu ts (yp_rtor ts S).2 < yp_mu ts S := by
  unfold yp_rtor at hm ⊢
  unfold yp_mu
  by_cases h : yp_wh (xp_hd ts S.1) ≠ 0
  · have : S.1 < ts.length := xp_hd_lt rfl (fun e => by rw [e] at h; exact h rfl)
    rw [if_pos h]
    show 2 * (ts.length - (S.1 + 1)) + 1 < _
    omega
  · rw [if_neg h] at hm ⊢
    by_cases h2 : 13 ∈ S.2.2.2.1 ∧ xp_hd ts S.1 = 24
    · have : S.1 < ts.length := xp_hd_lt h2.2 (by decide)
      rw [if_pos h2]
      show 2 * (ts.length - (S.1 + 1)) + 0 < _
      omega
    · rw [if_neg h2] at hm
      cases hm
theorem yp_go_eq {ts : List (Nat × Int32)} {ou : Int32} : ∀ (n n' : Nat) (S : yp_S), yp_mu ts S < n → yp_mu ts S < n' → yp_go ts ou n S = yp_go ts ou n' S
  | 0, _, _, h, _ => absurd h (Nat.not_lt_zero _)
  | _ + 1, 0, _, _, h => absurd h (Nat.not_lt_zero _)
  | n + 1, n' + 1, S, h, h' => by
    rw [yp_go, yp_go]
    split
    · rfl
    · split
      · rename_i hw
        have := yp_mu_rand (ts := ts) (ou := ou) hw
        exact yp_go_eq n n' _ (by omega) (by omega)
      · split
        · rename_i hm
          have := yp_mu_rtor hm
          exact yp_go_eq n n' _ (by omega) (by omega)
        · rfl
/-- the loop's end -/
def yp_R (ts : List (Nat × Int32)) (ou : Int32) (S : yp_S) : yp_S := yp_go ts ou (yp_mu ts S + 1) S
theorem yp_R_bad {ts : List (Nat × Int32)} {ou : Int32} {S : yp_S} (h : S.2.1 = true) : yp_R ts ou S = S := by
  unfold yp_R
  rw [yp_go, if_pos h]
theorem yp_R_rand {ts : List (Nat × Int32)} {ou : Int32} {S : yp_S} (h : S.2.1 = false) (hw : S.2.2.2.2.2 = true) : yp_R ts ou S = yp_R ts ou (yp_rand ts ou S) := by
  have := yp_mu_rand (ts := ts) (ou := ou) hw
  unfold yp_R
  rw [yp_go, if_neg (by rw [h]; decide), if_pos hw]
  exact yp_go_eq _ _ _ (by omega) (by omega)
theorem yp_R_rtor {ts : List (Nat × Int32)} {ou : Int32} {S : yp_S} (h : S.2.1 = false) (hw : S.2.2.2.2.2 = false) (hm : (yp_rtor ts S).1 = true) : yp_R ts ou S = yp_R ts ou (yp_rtor ts S).2 := by
  have := yp_mu_rtor hm
  unfold yp_R
  rw [yp_go, if_neg (by rw [h]; decide), if_neg (by rw [hw]; decide), if_pos hm]
  exact yp_go_eq _ _ _ (by omega) (by omega)
theorem yp_R_stop {ts : List (Nat × Int32)} {ou : Int32} {S : yp_S} (hw : S.2.2.2.2.2 = false) (hm : (yp_rtor ts S).1 = false) : yp_R ts ou S = S := by
  unfold yp_R
  rw [yp_go]
  split
  · rfl
  · rw [if_neg (by rw [hw]; decide), if_neg (by rw [hm]; decide)]
/-- expression, from place a with the codes o: place, bad, codes -/
def yp_fin (S : yp_S) : Nat × Bool × yp_O := (S.1, S.2.1 || decide (13 ∈ S.2.2.2.1), S.2.2.1 ++ S.2.2.2.1.map (fun w => (w, (0 : Int32))))
def yp_ex (ts : List (Nat × Int32)) (ou : Int32) (a : Nat) (o : yp_O) : Nat × Bool × yp_O := yp_fin (yp_R ts ou (a, false, o, [], 0, true))
/-! what codes are worth -/
def yj (t : Nat) (x y : Int32) : Int32 := if t = 3 then x + y else if t = 4 then x - y else if t = 5 then x * y else if t = 7 then (if x = y then 1 else 0) else if t = 8 then (if x.toInt < y.toInt then 1 else 0) else if t = 9 then (if y.toInt < x.toInt then 1 else 0) else if t = 11 then (if x + y = 2 then 1 else 0) else (if 0 < (x + y).toInt then 1 else 0)
def ym_st (env : Nat → Int32) (q : Nat × Int32) (st : List Int32) : Option (List Int32) := if q.1 = 1 then some (q.2 :: st) else if q.1 = 2 then some (env q.2.toNatClampNeg :: st) else if q.1 = 6 then (match st with
    | x :: r => some ((0 - x) :: r)
    | [] => none) else if q.1 = 10 then (match st with
    | x :: r => some ((1 - x) :: r)
    | [] => none) else if q.1 = 0 then none else (match st with
    | y :: x :: r => some (yj q.1 x y :: r)
    | _ => none)
def ym_run (env : Nat → Int32) : yp_O → List Int32 → Option (List Int32)
  | [], st => some st
  | q :: ss, st => (ym_st env q st).bind (ym_run env ss)
theorem ym_run_app (env : Nat → Int32) : ∀ (a b : yp_O) (st : List Int32), ym_run env (a ++ b) st = (ym_run env a st).bind (ym_run env b)
  | [], b, st => rfl
  | q :: a, b, st => by
    rw [List.cons_append, ym_run, ym_run]
    cases ym_st env q st with
    | none => rfl
    | some st' => exact ym_run_app env a b st'
theorem xk_run_app (env : Nat → Int32) : ∀ (a b : List (Nat × Int32)) (st : List Int32), xk_run env (a ++ b) st = (xk_run env a st).bind (xk_run env b)
  | [], b, st => rfl
  | (t, o) :: a, b, [] => by
    simp only [List.cons_append, xk_run]
    split
    · exact xk_run_app env a b _
    · split
      · split
        · exact xk_run_app env a b _
        · rfl
      · split <;> rfl
  | (t, o) :: a, b, [x] => by
    simp only [List.cons_append, xk_run]
    split
    · exact xk_run_app env a b _
    · split
      · split
        · exact xk_run_app env a b _
        · rfl
      · split
        · exact xk_run_app env a b _
        · rfl
  | (t, o) :: a, b, y :: x :: r => by
    simp only [List.cons_append, xk_run]
    split
    · exact xk_run_app env a b _
    · split
      · split
        · exact xk_run_app env a b _
        · rfl
      · split
        · exact xk_run_app env a b _
        · exact xk_run_app env a b _
/-- x's code c and the reference's code cm are worth the same -/
def yv_E (c : List (Nat × Int32)) (cm : yp_O) : Prop := ∃ val : (Nat → Int32) → Int32, (∀ env st, xk_run env c st = some (val env :: st)) ∧ ∀ env st, ym_run env cm st = some (val env :: st)
def yv_B (c : List (Nat × Int32)) (cm : yp_O) : Prop := ∃ val : (Nat → Int32) → Bool, (∀ env st, xk_run env c st = some ((if val env = true then 1 else 0) :: st)) ∧ ∀ env st, ym_run env cm st = some ((if val env = true then 1 else 0) :: st)
/-- the tables of the columns in a code -/
def yc (cm : yp_O) (t : Nat) : Bool := cm.any (fun q => q.1 == 2 && q.2.toNatClampNeg / 4 == t)
theorem yc_app (a b : yp_O) (t : Nat) : yc (a ++ b) t = (yc a t || yc b t) := List.any_append
/-- the columns in a code are columns -/
def yk (cm : yp_O) : Prop := ∀ q, q ∈ cm → q.1 = 2 → ∃ o, o < 12 ∧ q.2 = nI o
theorem yk_app {a b : yp_O} (ha : yk a) (hb : yk b) : yk (a ++ b) := fun q hq => (List.mem_append.mp hq).elim (ha q) (hb q)
theorem yk_op {w : Nat} {o : Int32} (h : w ≠ 2) : yk [(w, o)] := fun q hq e => by
  rw [List.mem_singleton.mp hq] at e
  exact absurd e h
/-- from m to m' with x's code c, which the reference writes as cm -/
def yv_X (m m' : xp_M) (c : List (Nat × Int32)) (cm : yp_O) : Prop := m'.2.2.1 = m.2.2.1 ++ c ∧ (∀ t, m'.2.2.2 t = (m.2.2.2 t || yc cm t)) ∧ yk cm
theorem yv_X.tr {m m' m'' : xp_M} {c c' : List (Nat × Int32)} {cm cm' : yp_O} (h : yv_X m m' c cm) (h' : yv_X m' m'' c' cm') : yv_X m m'' (c ++ c') (cm ++ cm') :=
  ⟨by rw [h'.1, h.1, List.append_assoc], fun t => by rw [h'.2.1, h.2.1, yc_app, Bool.or_assoc], yk_app h.2.2 h'.2.2⟩
