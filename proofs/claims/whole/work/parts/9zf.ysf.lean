/-! select: what the codes are worth over two rows, and the outcome in x's words -/
def ysRel (W : xp_W) (n0 c : Nat) : Prop := (c < n0 ∧ W.2.1 c ≠ 2) ∨ (c = 4 ∧ W.2.1 4 ≠ 0) ∨ (c = 5 ∧ W.2.1 5 ≠ 0 ∧ W.2.1 5 ≠ 2)
def ySj (W : xp_W) (f s n0 : Nat) (two top : Bool) (Wh : xr_E → xr_E → Bool) (val : Nat → xr_E → xr_E → Int32) : Prop :=
  f < 2 ∧ s < 2 ∧ (two = true → f ≠ s) ∧ (two = false → s = 0) ∧ W.1 3 = nI f ∧ W.1 4 = (if two = true then nI s else -1) ∧ W.1 1 = (if top = true then 1 else 0) ∧ W.1 6 = nI n0 ∧ n0 ≤ 3 ∧
  (∀ a b env, xl_en two f s env a b → (W.2.1 3 = 0 ∧ Wh a b = true) ∨ (W.2.1 3 = 1 ∧ xk_run env (W.2.2.1 3) [] = some [if Wh a b = true then 1 else 0])) ∧
  ∀ c, (ysRel W n0 c ∧ ∀ a b env, xl_en two f s env a b → xk_run env (W.2.2.1 c) [] = some [val c a b]) ∨ (¬ ysRel W n0 c ∧ val c = fun _ _ => 0)
def xl_env2 (two : Bool) (s : Nat) (a b : xr_E) : Nat → Int32 := fun o => if two = true ∧ o / 4 = s then xr_col b (o % 4) else xr_col a (o % 4)
theorem xl_env2_en {two : Bool} {f s : Nat} {a b : xr_E} (hs : s < 2) (h : two = true → f ≠ s) : xl_en two f s (xl_env2 two s a b) a b := by
  refine ⟨fun c hc => ?_, fun c hc => ?_, fun ht c hc => ?_⟩
  · unfold xl_env2
    rw [if_neg (fun z => h z.1 (by have := z.2; omega))]
    congr 1
    omega
  · unfold xl_env2
    rw [if_neg (fun z => by have := z.2; omega)]
    congr 1
    omega
  · unfold xl_env2
    rw [if_pos ⟨ht, by omega⟩]
    congr 1
    omega
def ySl (Wh : xr_E → xr_E → Bool) (val : Nat → xr_E → xr_E → Int32) (k : Nat → Nat) (n0 : Nat) (two top desc : Bool) (V1 V2 : List xr_E) (D : xx_D) (i : Nat) (a : Int32) (D' : xx_D) : Prop :=
  (xl_out (xl_fd Wh two top V1 V2) (xl_n2 two V2) V1.length 0 [] = none ∧ a = -7 ∧ D' = D) ∨
  ∃ FL, xl_out (xl_fd Wh two top V1 V2) (xl_n2 two V2) V1.length 0 [] = some FL ∧ a = nI (xl_GR k n0 val V1 V2 FL).2 ∧ D' = xx_es D i (D.2.2.2.2.2.1 i) (xl_GR k n0 val V1 V2 FL).2 n0 (xl_rv k val V1 V2 FL (xl_GR k n0 val V1 V2 FL).1 (xl_SR desc k n0 val V1 V2 FL))
def ySel (W : xp_W) (D : xx_D) (i : Nat) (a : Int32) (D' : xx_D) : Prop :=
  ∃ f s n0 two top Wh val, ySj W f s n0 two top Wh val ∧ ySl Wh val W.2.1 n0 two top (decide (W.1 2 ≠ 0)) (xx_V D (D.1 i) f) (if two = true then xx_V D (D.1 i) s else []) D i a D'
theorem ySl.one {Wh : xr_E → xr_E → Bool} {val : Nat → xr_E → xr_E → Int32} {k : Nat → Nat} {n0 : Nat} {two top desc : Bool} {V1 V2 : List xr_E} {D D1 D2 : xx_D} {i : Nat} {a1 a2 : Int32} (h : ySl Wh val k n0 two top desc V1 V2 D i a1 D1) (h' : ySl Wh val k n0 two top desc V1 V2 D i a2 D2) : a1 = a2 ∧ D1 = D2 := by
  rcases h with ⟨p1, p2, p3⟩ | ⟨FL, p1, p2, p3⟩ <;> rcases h' with ⟨q1, q2, q3⟩ | ⟨FL', q1, q2, q3⟩
  · exact ⟨p2.trans q2.symm, p3.trans q3.symm⟩
  · rw [p1] at q1; cases q1
  · rw [p1] at q1; cases q1
  · rw [p1, Option.some.injEq] at q1
    subst q1
    exact ⟨p2.trans q2.symm, p3.trans q3.symm⟩
theorem ySel.one {W : xp_W} {D D1 D2 : xx_D} {i : Nat} {a1 a2 : Int32} (h : ySel W D i a1 D1) (h' : ySel W D i a2 D2) : a1 = a2 ∧ D1 = D2 := by
  obtain ⟨f, s, n0, two, top, Wh, val, ⟨p1, p2, p3, p4, p5, p6, p7, p8, p9, p10, p11⟩, hL⟩ := h
  obtain ⟨f', s', n0', two', top', Wh', val', ⟨q1, q2, q3, q4, q5, q6, q7, q8, q9, q10, q11⟩, hL'⟩ := h'
  have ef : f = f' := by rw [p5] at q5; exact (nI_inj (by omega) (by omega)).mp q5
  have en : n0 = n0' := by rw [p8] at q8; exact (nI_inj (by omega) (by omega)).mp q8
  have et : two = two' := by
    rw [p6] at q6
    cases two <;> cases two'
    · rfl
    · rw [if_neg Bool.false_ne_true, if_pos rfl] at q6; exact absurd q6.symm (nI_m1 (by omega))
    · rw [if_neg Bool.false_ne_true, if_pos rfl] at q6; exact absurd q6 (nI_m1 (by omega))
    · rfl
  have eo : top = top' := by
    rw [p7] at q7
    revert q7
    cases top <;> cases top' <;> decide
  subst ef en et eo
  have es : s = s' := by
    cases two with
    | false => rw [p4 rfl, q4 rfl]
    | true =>
      rw [if_pos rfl] at p6 q6
      rw [p6] at q6
      exact (nI_inj (by omega) (by omega)).mp q6
  subst es
  have eW : Wh = Wh' := by
    funext a b
    have hen := xl_env2_en (a := a) (b := b) p2 p3
    rcases p10 a b _ hen with ⟨a1, a2⟩ | ⟨a1, a2⟩ <;> rcases q10 a b _ hen with ⟨b1, b2⟩ | ⟨b1, b2⟩
    · rw [a2, b2]
    · omega
    · omega
    · rw [a2, Option.some.injEq, List.cons.injEq] at b2
      have c := b2.1
      revert c
      cases Wh a b <;> cases Wh' a b <;> simp
  have eV : val = val' := by
    funext c
    rcases p11 c with ⟨a1, a2⟩ | ⟨a1, a2⟩ <;> rcases q11 c with ⟨b1, b2⟩ | ⟨b1, b2⟩
    · funext a b
      have hen := xl_env2_en (a := a) (b := b) p2 p3
      have := a2 a b _ hen
      rw [b2 a b _ hen, Option.some.injEq, List.cons.injEq] at this
      exact this.1.symm
    · exact absurd a1 b1
    · exact absurd b1 a1
    · rw [a2, b2]
  subst eW eV
  exact hL.one hL'
/-! from what the reference read -/
theorem yv2_env {T : Nat → Nat} {o : yp_O} {env : Nat → Int32} {a b : xr_E} (hk : yk o) (hn : ykn T false o = false) (hT0 : T 0 = 1 ∨ T 0 = 2) (hT2 : T 0 = 2 → T 2 < 2) (hT1 : T 1 < 2) (h : xl_en (decide (T 0 = 2)) (T 1) (if T 0 = 2 then T 2 else 0) env a b) : ∀ q, q ∈ o → q.1 = 2 → env q.2.toNatClampNeg = yv2 T a b q.2.toNatClampNeg := by
  intro q hq c
  obtain ⟨p, hp, ep⟩ := hk q hq c
  have ec : q.2.toNatClampNeg = p := by rw [ep]; exact nI_clamp (by omega)
  obtain ⟨h1, h2, h3⟩ := h
  have hn2 := bor2 hn
  rw [List.any_eq_false] at hn2
  have hw := hn2 q hq
  rw [ec]
  rw [ec, decide_eq_true c, Bool.true_and] at hw
  unfold ykw at hw
  rw [Bool.false_or] at hw
  unfold yv2 ykt
  by_cases c2 : p / 4 = 2
  · rw [if_pos c2, if_pos rfl, ← h2 (p % 4) (Nat.mod_lt _ (by decide))]
    congr 1
    omega
  · rw [if_neg c2] at hw
    rw [if_neg c2]
    by_cases c3 : p / 4 = T 1
    · rw [if_pos c3, if_pos rfl, ← h1 (p % 4) (Nat.mod_lt _ (by decide))]
      congr 1
      omega
    · rw [if_neg c3, if_neg (by decide)]
      have ht : T 0 = 2 := by
        rcases hT0 with t | t
        · exfalso
          apply hw
          rw [decide_eq_false c3, decide_eq_false (by omega)]
          rfl
        · exact t
      have hne : T 1 ≠ T 2 := fun e => by
        have := (Bool.or_eq_false_iff.mp hn).1
        exact of_decide_eq_false this ⟨ht, e⟩
      have := hT2 ht
      rw [if_pos ht] at h3
      rw [← h3 (decide_eq_true ht) (p % 4) (Nat.mod_lt _ (by decide))]
      congr 1
      omega
