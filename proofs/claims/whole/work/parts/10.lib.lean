/-! ===== frames, and the plainest methods ===== -/
/-- nothing is changed but at the addresses of P -/
def am_fr (P : Nat → Prop) (σ σ' : am_S) : Prop := am_sh σ' = am_sh σ ∧ am_tp σ' = am_tp σ ∧ am_us σ' = am_us σ ∧ ∀ a, ¬ P a → am_i σ' a = am_i σ a ∧ am_r σ' a = am_r σ a
theorem am_fr.rf {P : Nat → Prop} {σ : am_S} : am_fr P σ σ := ⟨rfl, rfl, rfl, fun _ _ => ⟨rfl, rfl⟩⟩
theorem am_fr.mono {P P' : Nat → Prop} {σ σ' : am_S} (h : am_fr P σ σ') (hp : ∀ a, P a → P' a) : am_fr P' σ σ' := ⟨h.1, h.2.1, h.2.2.1, fun a ha => h.2.2.2 a (fun q => ha (hp a q))⟩
theorem am_fr.tr {P : Nat → Prop} {σ σ' σ'' : am_S} (h : am_fr P σ σ') (h' : am_fr P σ' σ'') : am_fr P σ σ'' := ⟨h'.1.trans h.1, h'.2.1.trans h.2.1, h'.2.2.1.trans h.2.2.1, fun a ha => ⟨(h'.2.2.2 a ha).1.trans (h.2.2.2 a ha).1, (h'.2.2.2 a ha).2.trans (h.2.2.2 a ha).2⟩⟩
theorem am_fr.wi {P : Nat → Prop} {σ σ' : am_S} {a k : Nat} {v : Int32} (h : am_fr P σ σ') (ha : P a) : am_fr P σ (am_wi σ' a k v) := h.tr ⟨rfl, rfl, rfl, fun b hb => ⟨funext fun j => by rw [am_i_wi, if_neg (fun q => hb (q.1 ▸ ha))], rfl⟩⟩
theorem am_fr.wr {P : Nat → Prop} {σ σ' : am_S} {a k : Nat} {v : Option Nat} (h : am_fr P σ σ') (ha : P a) : am_fr P σ (am_wr σ' a k v) := h.tr ⟨rfl, rfl, rfl, fun b hb => ⟨rfl, funext fun j => by rw [am_r_wr, if_neg (fun q => hb (q.1 ▸ ha))]⟩⟩
/-- a contract's use at a call -/
theorem am_call {g : am_G} {l : Launch} {d d' : Nat} {lim lim' : Nat × Nat} {M' : am_M} {ci : Option Nat} {n : Nat} {K : am_K} {L : List (Option Value)} {args rest : List Value} {σ : am_S} {Qc : Option Value → am_S → Prop} {st : List Value} (hC : am_C g l M' d' lim' args σ Qc) (hst : st = args.reverse ++ rest) (hd : d' < d) (h1 : lim'.1 ≤ lim.1) (h2 : lim'.2 ≤ lim.2) (hn : args.length = n) (hc : (rest.map fun v => v.category).sum ≤ 8)
    (hr : ∀ c, ci = some c → ∃ b, args.head? = some (.ref b) ∧ am_sh σ b = some (.inl c)) (hk : ∀ v σ', Qc v σ' → am_tp σ' = lim'.1 → am_us σ' = lim'.2 → K L (v.toList ++ rest) σ') : ax_call g l d lim M' ci n K L st σ := by
  have hl : args.reverse.length = n := by rw [List.length_reverse, hn]
  have e1 : st.take n = args.reverse := by rw [hst, ← hl, List.take_left]
  have e2 : st.drop n = rest := by rw [hst, ← hl, List.drop_left]
  refine ⟨d', lim', Qc, hd, h1, h2, by rw [hst, List.length_append]; omega, by rw [e2]; exact hc, fun c hc => ?_, by rw [e1, List.reverse_reverse]; exact hC, by rw [e2]; exact hk⟩
  obtain ⟨b, hb, hs⟩ := hr c hc
  refine ⟨b, ?_, hs⟩
  cases args with
  | nil => cases hb
  | cons x xs =>
    simp only [List.head?_cons, Option.some.injEq] at hb
    subst hb
    rw [hst, ← hn]
    simp
theorem am_C.mono {g : am_G} {l : Launch} {M : am_M} {d : Nat} {lim : Nat × Nat} {args : List Value} {σ : am_S} {Q Q' : Option Value → am_S → Prop} (h : am_C g l M d lim args σ Q) (hq : ∀ v σ', Q v σ' → Q' v σ') : am_C g l M d lim args σ Q' := by
  obtain ⟨h1, h2, h3⟩ := h
  refine ⟨h1, h2, ?_⟩
  exact MetFree.mono h3 (fun _ _ h => h) (fun _ _ _ _ _ h => h) (fun a s o s' _ h => ⟨by
    obtain ⟨v, σ', a1, a2, a3⟩ := h.1
    exact ⟨v, σ', a1, hq v σ' a2, a3⟩, h.2⟩)
theorem c_isSession {g : am_G} {l : Launch} {σ : am_S} {s : Int32} : am_C g l mX9_isSession 0 (am_tp σ, am_us σ) [.int s] σ (fun v σ' => σ' = σ ∧ v = some (.int (if 0 ≤ s.toInt ∧ s.toInt < 4 then 1 else 0))) := by
  refine am_C.of (by decide +kernel) (Nat.le_refl _) (Nat.le_refl _) (by decide) (kX9_isSession_0 ?_)
  simp only [ax_const, ax_iload, ax_lload, ax_aload, ax_istore, ax_astore, ax_iinc, ax_i2, ax_i2n, ax_l2, ax_lsh, ax_ii, ax_il, ax_li, ax_pop, ax_dup, ax_dup2, ax_if, ax_cmp, ax_acmp, ax_goto, ax_getI, ax_getR, ax_putI, ax_putR, ax_gets, ax_getsT, ax_aldI, ax_aldR, ax_astI, ax_astR, ax_alen, ax_ret, ax_aret, ax_vret, am_st, am_kl, List.getElem?_cons_zero, List.getElem?_cons_succ, List.set_cons_zero, List.set_cons_succ, Value.category, true_and, and_true, if_true, if_false, reduceCtorEq, Bool.false_eq_true, false_implies, forall_const, IsEmpty.forall_iff, Option.some.injEq, exists_eq_left', exists_eq_left, Sum.inl.injEq, Sum.inr.injEq, Prod.mk.injEq, am_ini, am_ent]
  sorry
