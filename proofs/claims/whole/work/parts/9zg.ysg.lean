/-! select: both sides' worth of the codes -/
theorem ye.two {W : xp_W} {S : ys_S} {c pf pt : Nat} (h : ye W S c pf pt) (hk : yk S.2.2.1) (hn : ykn S.2.2.2 false S.2.2.1 = false) (hT0 : S.2.2.2 0 = 1 ∨ S.2.2.2 0 = 2) (hT2 : S.2.2.2 0 = 2 → S.2.2.2 2 < 2) (hT1 : S.2.2.2 1 < 2) : ∃ (cv : yp_O) (v : xr_E → xr_E → Int32), yz S.2.2.1 (S.2.2.2 pf) (S.2.2.2 pt) cv ∧ (∀ a b, ym_run (yv2 S.2.2.2 a b) cv [] = some [v a b]) ∧ ∀ a b env, xl_en (decide (S.2.2.2 0 = 2)) (S.2.2.2 1) (if S.2.2.2 0 = 2 then S.2.2.2 2 else 0) env a b → xk_run env (W.2.2.1 c) [] = some [v a b] := by
  obtain ⟨cm, ⟨val, h1, h2⟩, hz⟩ := h
  refine ⟨cm, fun a b => val (yv2 S.2.2.2 a b), hz, fun a b => h2 _ _, fun a b env hen => ?_⟩
  have hd := ym_run_dep (env := env) (env' := yv2 S.2.2.2 a b) cm [] (fun q hq c => yv2_env hk hn hT0 hT2 hT1 hen q (hz.mem hq) c)
  rw [h2, h2] at hd
  rw [h1]
  exact hd
theorem yw.two {W : xp_W} {S : ys_S} (h : yw W S) (hk : yk S.2.2.1) (hn : ykn S.2.2.2 false S.2.2.1 = false) (hT0 : S.2.2.2 0 = 1 ∨ S.2.2.2 0 = 2) (hT2 : S.2.2.2 0 = 2 → S.2.2.2 2 < 2) (hT1 : S.2.2.2 1 < 2) : ∃ Wh : xr_E → xr_E → Bool, yWh S.2.2.2 S.2.2.1 Wh ∧ ∀ a b env, xl_en (decide (S.2.2.2 0 = 2)) (S.2.2.2 1) (if S.2.2.2 0 = 2 then S.2.2.2 2 else 0) env a b → (W.2.1 3 = 0 ∧ Wh a b = true) ∨ (W.2.1 3 = 1 ∧ xk_run env (W.2.2.1 3) [] = some [if Wh a b = true then 1 else 0]) := by
  rcases h with ⟨p, q⟩ | ⟨p, q, cm, ⟨val, h1, h2⟩, hz⟩
  · exact ⟨fun _ _ => true, ⟨[], fun a b => Or.inl ⟨q, rfl⟩⟩, fun a b env _ => Or.inl ⟨p, rfl⟩⟩
  · refine ⟨fun a b => val (yv2 S.2.2.2 a b), ⟨cm, fun a b => Or.inr ⟨q, hz, h2 _ _⟩⟩, fun a b env hen => Or.inr ⟨p, ?_⟩⟩
    have hd := ym_run_dep (env := env) (env' := yv2 S.2.2.2 a b) cm [] (fun q hq c => yv2_env hk hn hT0 hT2 hT1 hen q (hz.mem hq) c)
    rw [h2, h2] at hd
    rw [h1]
    exact hd
theorem ykn_two {T : Nat → Nat} {o : yp_O} (hn : ykn T false o = false) (hT0 : T 0 = 1 ∨ T 0 = 2) : yTwo T o → T 0 = 2 := by
  rintro ⟨p, hp, hm, h1⟩
  rcases hT0 with t | t
  · have := ykn_one hn t p hp hm
    omega
  · exact t
theorem yQ3.sel {W : xp_W} {S : ys_S} (h : yQ3 W S) (hk : yk S.2.2.1) (hn : ykn S.2.2.2 false S.2.2.1 = false) : ∃ Wh val, ySj W (S.2.2.2 1) (if S.2.2.2 0 = 2 then S.2.2.2 2 else 0) (S.2.2.2 4) (decide (S.2.2.2 0 = 2)) (decide (S.2.2.2 20 = 1)) Wh val ∧ yWh S.2.2.2 S.2.2.1 Wh ∧
    (∀ c, c < S.2.2.2 4 → S.2.2.2 (5 + c) ≠ 1 → yTm S.2.2.2 S.2.2.1 c (val c)) ∧ (S.2.2.2 22 = 1 → S.2.2.2 8 ≠ 1 → yTm S.2.2.2 S.2.2.1 3 (val 5)) ∧ (S.2.2.2 21 = 1 → ∃ cv, yz S.2.2.1 (S.2.2.2 24) (S.2.2.2 24 + 1) cv ∧ ∀ a b, ym_run (yv2 S.2.2.2 a b) cv [] = some [val 4 a b]) := by
  obtain ⟨c1, hT1, c3, hT20, c5, ⟨t1, t2, t3, t4⟩, hw, hG, hO⟩ := h
  have hT0 : S.2.2.2 0 = 1 ∨ S.2.2.2 0 = 2 := by rcases c1 with ⟨x, _⟩ | ⟨x, _⟩ <;> omega
  have hT2 : S.2.2.2 0 = 2 → S.2.2.2 2 < 2 := fun e => by rcases c1 with ⟨x, _⟩ | ⟨x, _, y⟩ <;> omega
  obtain ⟨Wh, hW1, hW2⟩ := hw.two hk hn hT0 hT2 hT1
  have hval : ∀ c, ∃ v : xr_E → xr_E → Int32, ((ysRel W (S.2.2.2 4) c ∧ ∀ a b env, xl_en (decide (S.2.2.2 0 = 2)) (S.2.2.2 1) (if S.2.2.2 0 = 2 then S.2.2.2 2 else 0) env a b → xk_run env (W.2.2.1 c) [] = some [v a b]) ∨ (¬ ysRel W (S.2.2.2 4) c ∧ v = fun _ _ => 0)) ∧
      (c < S.2.2.2 4 → S.2.2.2 (5 + c) ≠ 1 → yTm S.2.2.2 S.2.2.1 c v) ∧ (c = 5 → S.2.2.2 22 = 1 → S.2.2.2 8 ≠ 1 → yTm S.2.2.2 S.2.2.1 3 v) ∧ (c = 4 → S.2.2.2 21 = 1 → ∃ cv, yz S.2.2.1 (S.2.2.2 24) (S.2.2.2 24 + 1) cv ∧ ∀ a b, ym_run (yv2 S.2.2.2 a b) cv [] = some [v a b]) := by
    intro c
    by_cases hc : c < S.2.2.2 4
    · obtain ⟨x1, x2, x3, x4⟩ := t4 c hc
      by_cases hk2 : W.2.1 c = 2
      · refine ⟨fun _ _ => 0, Or.inr ⟨?_, rfl⟩, fun _ n1 => absurd (show S.2.2.2 (5 + c) = 1 by omega) n1, fun e => by omega, fun e => by omega⟩
        rintro (⟨_, r⟩ | ⟨r, _⟩ | ⟨r, _⟩)
        · exact r hk2
        · omega
        · omega
      · obtain ⟨cv, v, y1, y2, y3⟩ := (x4 hk2).two hk hn hT0 hT2 hT1
        exact ⟨v, Or.inl ⟨Or.inl ⟨hc, hk2⟩, y3⟩, fun _ _ => ⟨cv, y1, y2⟩, fun e => by omega, fun e => by omega⟩
    · by_cases h4 : c = 4
      · subst h4
        rcases hG with ⟨p, q⟩ | ⟨p, q, cm, ⟨val, h1, h2⟩, hz⟩
        · refine ⟨fun _ _ => 0, Or.inr ⟨?_, rfl⟩, fun n1 => absurd n1 hc, fun e => by omega, fun _ e => by omega⟩
          rintro (⟨r, _⟩ | ⟨_, r⟩ | ⟨r, _⟩)
          · exact hc r
          · exact r p
          · omega
        · refine ⟨fun a b => val (yv2 S.2.2.2 a b), Or.inl ⟨Or.inr (Or.inl ⟨rfl, by omega⟩), fun a b env hen => ?_⟩, fun n1 => absurd n1 hc, fun e => by omega, fun _ _ => ⟨cm, hz, fun a b => h2 _ _⟩⟩
          have hd := ym_run_dep (env := env) (env' := yv2 S.2.2.2 a b) cm [] (fun q hq c => yv2_env hk hn hT0 hT2 hT1 hen q (hz.mem hq) c)
          rw [h2, h2] at hd
          rw [h1]
          exact hd
      · by_cases h5 : c = 5
        · subst h5
          rcases hO with ⟨p, q⟩ | ⟨p, ⟨x1, x2, x3, x4⟩, -⟩
          · refine ⟨fun _ _ => 0, Or.inr ⟨?_, rfl⟩, fun n1 => absurd n1 hc, fun _ e => by omega, fun e => by omega⟩
            rintro (⟨r, _⟩ | ⟨r, _⟩ | ⟨_, r, _⟩)
            · exact hc r
            · omega
            · exact r p
          · by_cases hk2 : W.2.1 5 = 2
            · refine ⟨fun _ _ => 0, Or.inr ⟨?_, rfl⟩, fun n1 => absurd n1 hc, fun _ _ n1 => absurd (show S.2.2.2 8 = 1 by omega) n1, fun e => by omega⟩
              rintro (⟨r, _⟩ | ⟨r, _⟩ | ⟨_, _, r⟩)
              · exact hc r
              · omega
              · exact r hk2
            · obtain ⟨cv, v, y1, y2, y3⟩ := (x4 hk2).two hk hn hT0 hT2 hT1
              exact ⟨v, Or.inl ⟨Or.inr (Or.inr ⟨rfl, by omega, hk2⟩), y3⟩, fun n1 => absurd n1 hc, fun _ _ _ => ⟨cv, y1, y2⟩, fun e => by omega⟩
        · refine ⟨fun _ _ => 0, Or.inr ⟨?_, rfl⟩, fun n1 => absurd n1 hc, fun e => absurd e h5, fun e => absurd e h4⟩
          rintro (⟨r, _⟩ | ⟨r, _⟩ | ⟨r, _⟩)
          · exact hc r
          · exact h4 r
          · exact h5 r
  obtain ⟨val, hv⟩ := Classical.axiomOfChoice hval
  refine ⟨Wh, val, ⟨hT1, ?_, fun e => ?_, fun e => ?_, c3, ?_, ?_, t3, t2, hW2, fun c => (hv c).1⟩, hW1, fun c hc => (hv c).2.1 hc, (hv 5).2.2.1 rfl, (hv 4).2.2.2 rfl⟩
  · split
    · rename_i e
      exact hT2 e
    · decide
  · have e := of_decide_eq_true e
    rw [if_pos e]
    intro z
    exact of_decide_eq_false (Bool.or_eq_false_iff.mp hn).1 ⟨e, z⟩
  · rw [if_neg (of_decide_eq_false e)]
  · rcases c1 with ⟨x, y⟩ | ⟨x, y, z⟩
    · rw [decide_eq_false (show ¬ S.2.2.2 0 = 2 by omega), if_neg Bool.false_ne_true]
      exact y
    · rw [decide_eq_true x, if_pos rfl, if_pos x]
      exact y
  · rw [c5]
    by_cases e : S.2.2.2 20 = 1
    · rw [e]; rfl
    · rw [decide_eq_false e, show S.2.2.2 20 = 0 by omega]; rfl
