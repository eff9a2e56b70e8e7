/-! a code's worth over a row: the same on both sides -/
theorem ym_st_dep {env env' : Nat → Int32} {q : Nat × Int32} (h : q.1 = 2 → env q.2.toNatClampNeg = env' q.2.toNatClampNeg) (st : List Int32) : ym_st env q st = ym_st env' q st := by
  unfold ym_st
  by_cases c : q.1 = 2
  · rw [h c]
  · rw [if_neg c, if_neg c]
theorem ym_run_dep {env env' : Nat → Int32} : ∀ (cm : yp_O) (st : List Int32), (∀ q, q ∈ cm → q.1 = 2 → env q.2.toNatClampNeg = env' q.2.toNatClampNeg) → ym_run env cm st = ym_run env' cm st
  | [], _, _ => rfl
  | q :: cm, st, h => by
    rw [ym_run, ym_run, ym_st_dep (h q List.mem_cons_self) st]
    congr 1
    funext st'
    exact ym_run_dep cm st' (fun p hp => h p (List.mem_cons_of_mem _ hp))
theorem yz.mem {o cm : yp_O} {i j : Nat} (h : yz o i j cm) {q : Nat × Int32} (hq : q ∈ cm) : q ∈ o := by
  rw [← h.2.2] at hq
  exact List.mem_of_mem_drop (List.mem_of_mem_take hq)
/-- the columns are those of table f alone -/
def yOnly (o : yp_O) (f : Nat) : Prop := ∀ q, q ∈ o → q.1 = 2 → ∃ p, p < 12 ∧ q.2 = nI p ∧ (p / 4 = 2 ∨ p / 4 = f)
theorem ykn_only {T : Nat → Nat} {ins : Bool} {o : yp_O} (hk : yk o) (h : ykn T ins o = false) (hT0 : T 0 = 1) : yOnly o (T 1) := by
  intro q hq h2
  obtain ⟨p, hp, ep⟩ := hk q hq h2
  refine ⟨p, hp, ep, ?_⟩
  have hm : ((2 : Nat), nI p) ∈ o := by rw [← h2, ← ep]; exact hq
  have h0 := ykn_one h hT0 p hp hm
  unfold ykt at h0
  by_cases c : p / 4 = 2
  · exact Or.inl c
  · rw [if_neg c] at h0
    by_cases c2 : p / 4 = T 1
    · exact Or.inr c2
    · rw [if_neg c2] at h0; cases h0
theorem yv1_env {o : yp_O} {f : Nat} {e : xr_E} {env : Nat → Int32} (h : yOnly o f) (h1 : xs_m env f e) (h2 : xs_m env 2 e) : ∀ q, q ∈ o → q.1 = 2 → env q.2.toNatClampNeg = yv1 e q.2.toNatClampNeg := by
  intro q hq c
  obtain ⟨p, hp, ep, hpf⟩ := h q hq c
  have ec : q.2.toNatClampNeg = p := by rw [ep]; exact nI_clamp (by omega)
  rw [ec]
  unfold yv1
  rcases hpf with e2 | e2
  · rw [← h2 (p % 4) (Nat.mod_lt _ (by decide))]
    congr 1
    omega
  · rw [← h1 (p % 4) (Nat.mod_lt _ (by decide))]
    congr 1
    omega
theorem ye.one {W : xp_W} {S : ys_S} {j pf pt f : Nat} (h : ye W S j pf pt) (ho : yOnly S.2.2.1 f) : ∃ (cm : yp_O) (val : xr_E → Int32), yz S.2.2.1 (S.2.2.2 pf) (S.2.2.2 pt) cm ∧ (∀ e, ym_run (yv1 e) cm [] = some [val e]) ∧ ∀ e env, xs_m env f e → xs_m env 2 e → xk_run env (W.2.2.1 j) [] = some [val e] := by
  obtain ⟨cm, ⟨val, h1, h2⟩, hz⟩ := h
  refine ⟨cm, fun e => val (yv1 e), hz, fun e => h2 _ _, fun e env a b => ?_⟩
  have hd := ym_run_dep (env := env) (env' := yv1 e) cm [] (fun q hq c => yv1_env ho a b q (hz.mem hq) c)
  rw [h2, h2] at hd
  rw [h1]
  exact hd
theorem yw.one {W : xp_W} {S : ys_S} {f : Nat} (h : yw W S) (ho : yOnly S.2.2.1 f) : ∃ (cm : yp_O) (B : xr_E → Bool), (∀ e, (S.2.2.2 17 = 0 ∧ B e = true) ∨ (S.2.2.2 17 = 1 ∧ yz S.2.2.1 (S.2.2.2 18) (S.2.2.2 19) cm ∧ ym_run (yv1 e) cm [] = some [if B e = true then 1 else 0])) ∧ ∀ e, xo_wh B f W.2.1 W.2.2.1 e := by
  rcases h with ⟨a, b⟩ | ⟨a, b, cm, ⟨val, h1, h2⟩, hz⟩
  · exact ⟨[], fun _ => true, fun e => Or.inl ⟨b, rfl⟩, fun e env _ _ => Or.inl ⟨a, rfl⟩⟩
  · refine ⟨cm, fun e => val (yv1 e), fun e => Or.inr ⟨b, hz, h2 _ _⟩, fun e env q1 q2 => Or.inr ⟨a, ?_⟩⟩
    have hd := ym_run_dep (env := env) (env' := yv1 e) cm [] (fun q hq c => yv1_env ho q1 q2 q (hz.mem hq) c)
    rw [h2, h2] at hd
    rw [h1]
    exact hd
theorem ye.none {W : xp_W} {S : ys_S} {j pf pt : Nat} (h : ye W S j pf pt) (ho : ∀ q, q ∈ S.2.2.1 → q.1 ≠ 2) : ∃ (cm : yp_O) (v : Int32), yz S.2.2.1 (S.2.2.2 pf) (S.2.2.2 pt) cm ∧ (∀ env, ym_run env cm [] = some [v]) ∧ ∀ env, xk_run env (W.2.2.1 j) [] = some [v] := by
  obtain ⟨cm, ⟨val, h1, h2⟩, hz⟩ := h
  have hd : ∀ env, val env = val (fun _ => 0) := fun env => by
    have hd := ym_run_dep (env := env) (env' := fun _ => 0) cm [] (fun q hq c => absurd c (ho q (hz.mem hq)))
    rw [h2, h2, Option.some.injEq, List.cons.injEq] at hd
    exact hd.1
  exact ⟨cm, val (fun _ => 0), hz, fun env => by rw [h2, hd], fun env => by rw [h1, hd]⟩
/-- what a changing statement with the codes W makes of the rows U of label lab, where V is seen: its answer, and the rows -/
def yRs (W : xp_W) (v t lab : Nat) (V U : List xr_E) (Bz : Int32) (L' : List xr_E) : Prop :=
  (v = 0 ∧ ∃ x : Nat → Int32, (∀ j, j < 3 → ∀ env, xk_run env (W.2.2.1 j) [] = some [x j]) ∧ xo_ins U (x 0, x 1, x 2, nI lab) = (Bz, L')) ∨
  (v = 2 ∧ ∃ B : xr_E → Bool, (∀ e, xo_wh B t W.2.1 W.2.2.1 e) ∧ Bz = nI (U.filter B).length ∧ L' = U.filter (fun e => !B e)) ∨
  (v = 1 ∧ ∃ (B : xr_E → Bool) (val : xr_E → Int32) (col : Nat), (∀ e, xo_wh B t W.2.1 W.2.2.1 e) ∧ (∀ e env, xs_m env t e → xs_m env 2 e → xk_run env (W.2.2.1 0) [] = some [val e]) ∧ (col = 1 ∨ col = 2) ∧ W.1 5 = nI col ∧
    ((xo_up B val lab col V U 0 = none ∧ Bz = (-5 : Int32) ∧ L' = U) ∨ ∃ c, xo_up B val lab col V U 0 = some (L', c) ∧ Bz = nI c))
def xr_env (e : xr_E) : Nat → Int32 := fun o => xr_col e (o % 4)
theorem xr_env_m (e : xr_E) (j : Nat) : xs_m (xr_env e) j e := fun c hc => by
  show xr_col e ((4 * j + c) % 4) = _
  congr 1
  omega
theorem xo_wh_one {B B' : xr_E → Bool} {t : Nat} {k : Nat → Nat} {ss : Nat → List (Nat × Int32)} {e : xr_E} (h : xo_wh B t k ss e) (h' : xo_wh B' t k ss e) : B e = B' e := by
  have a := h (xr_env e) (xr_env_m e t) (xr_env_m e 2)
  have b := h' (xr_env e) (xr_env_m e t) (xr_env_m e 2)
  rcases a with ⟨a1, a2⟩ | ⟨a1, a2⟩ <;> rcases b with ⟨b1, b2⟩ | ⟨b1, b2⟩
  · rw [a2, b2]
  · omega
  · omega
  · rw [a2, Option.some.injEq, List.cons.injEq] at b2
    have c := b2.1
    revert c
    cases B e <;> cases B' e <;> simp
theorem yRs.one {W : xp_W} {v t lab : Nat} {V U L1 L2 : List xr_E} {b1 b2 : Int32} (h : yRs W v t lab V U b1 L1) (h' : yRs W v t lab V U b2 L2) : b1 = b2 ∧ L1 = L2 := by
  rcases h with ⟨a, x, x1, x2⟩ | ⟨a, B, x1, x2, x3⟩ | ⟨a, B, val, col, x1, x2, x3, x4, x5⟩
  · rcases h' with ⟨a', y, y1, y2⟩ | ⟨a', _⟩ | ⟨a', _⟩
    · have e : ∀ j, j < 3 → x j = y j := fun j hj => by
        have p := x1 j hj (fun _ => 0)
        rw [y1 j hj (fun _ => 0), Option.some.injEq, List.cons.injEq] at p
        exact p.1.symm
      rw [e 0 (by decide), e 1 (by decide), e 2 (by decide), y2, Prod.mk.injEq] at x2
      exact ⟨x2.1.symm, x2.2.symm⟩
    · omega
    · omega
  · rcases h' with ⟨a', _⟩ | ⟨a', B', y1, y2, y3⟩ | ⟨a', _⟩
    · omega
    · have e : B = B' := funext fun e => xo_wh_one (x1 e) (y1 e)
      subst e
      exact ⟨x2.trans y2.symm, x3.trans y3.symm⟩
    · omega
  · rcases h' with ⟨a', _⟩ | ⟨a', _⟩ | ⟨a', B', val', col', y1, y2, y3, y4, y5⟩
    · omega
    · omega
    · have e : B = B' := funext fun e => xo_wh_one (x1 e) (y1 e)
      have e2 : val = val' := funext fun e => by
        have p := x2 e (xr_env e) (xr_env_m e t) (xr_env_m e 2)
        rw [y2 e (xr_env e) (xr_env_m e t) (xr_env_m e 2), Option.some.injEq, List.cons.injEq] at p
        exact p.1.symm
      have e3 : col = col' := by
        rw [x4] at y4
        exact (nI_inj (by omega) (by omega)).mp y4
      subst e e2 e3
      rcases x5 with ⟨p1, p2, p3⟩ | ⟨c, p1, p2⟩ <;> rcases y5 with ⟨q1, q2, q3⟩ | ⟨c', q1, q2⟩
      · exact ⟨p2.trans q2.symm, p3.trans q3.symm⟩
      · rw [p1] at q1; cases q1
      · rw [p1] at q1; cases q1
      · rw [p1, Option.some.injEq, Prod.mk.injEq] at q1
        exact ⟨by rw [p2, q2, q1.2], q1.1⟩
