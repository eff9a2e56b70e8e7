/-! ===== frames, and the plainest methods ===== -/
/-- nothing is changed but at the addresses of P -/
def am_fm (P : Nat → Prop) (σ σ' : am_S) : Prop := am_sh σ' = am_sh σ ∧ am_tp σ' = am_tp σ ∧ am_us σ' = am_us σ ∧ ∀ a, ¬ P a → am_i σ' a = am_i σ a ∧ am_r σ' a = am_r σ a
theorem am_fm.rf {P : Nat → Prop} {σ : am_S} : am_fm P σ σ := ⟨rfl, rfl, rfl, fun _ _ => ⟨rfl, rfl⟩⟩
theorem am_fm.mono {P P' : Nat → Prop} {σ σ' : am_S} (h : am_fm P σ σ') (hp : ∀ a, P a → P' a) : am_fm P' σ σ' := ⟨h.1, h.2.1, h.2.2.1, fun a ha => h.2.2.2 a (fun q => ha (hp a q))⟩
theorem am_fm.tr {P : Nat → Prop} {σ σ' σ'' : am_S} (h : am_fm P σ σ') (h' : am_fm P σ' σ'') : am_fm P σ σ'' := ⟨h'.1.trans h.1, h'.2.1.trans h.2.1, h'.2.2.1.trans h.2.2.1, fun a ha => ⟨(h'.2.2.2 a ha).1.trans (h.2.2.2 a ha).1, (h'.2.2.2 a ha).2.trans (h.2.2.2 a ha).2⟩⟩
theorem am_fm.wi {P : Nat → Prop} {σ σ' : am_S} {a k : Nat} {v : Int32} (h : am_fm P σ σ') (ha : P a) : am_fm P σ (am_wi σ' a k v) := h.tr ⟨rfl, rfl, rfl, fun b hb => ⟨funext fun j => by rw [am_i_wi, if_neg (fun (q : b = a ∧ j = k) => hb (q.1 ▸ ha))], rfl⟩⟩
theorem am_fm.wr {P : Nat → Prop} {σ σ' : am_S} {a k : Nat} {v : Option Nat} (h : am_fm P σ σ') (ha : P a) : am_fm P σ (am_wr σ' a k v) := h.tr ⟨rfl, rfl, rfl, fun b hb => ⟨rfl, funext fun j => by rw [am_r_wr, if_neg (fun (q : b = a ∧ j = k) => hb (q.1 ▸ ha))]⟩⟩
/-- a contract's use at a call -/
theorem am_call {g : am_G} {l : Launch} {d d' : Nat} {lim lim' : Nat × Nat} {M' : am_M} {ci : Option Nat} {n : Nat} {K : am_K} {L : List (Option Value)} {args rest : List Value} {σ : am_S} {Qc : Option Value → am_S → Prop} {st : List Value} (hC : am_C g l M' d' lim' args σ Qc) (hst : st = args.reverse ++ rest) (hd : d' < d) (h1 : lim'.1 ≤ lim.1) (h2 : lim'.2 ≤ lim.2) (hn : args.length = n) (hc : (rest.map fun v => v.category).sum ≤ 8)
    (hr : ∀ c, ci = some c → ∃ b, args.head? = some (.ref b) ∧ am_sh σ b = some (.inl c)) (hk : ∀ v σ', Qc v σ' → am_tp σ' = lim'.1 → am_us σ' = lim'.2 → K L (v.toList ++ rest) σ') : ax_call g l d lim M' ci n K L st σ := by
  have hl : args.reverse.length = n := by rw [List.length_reverse, hn]
  have e1 : st.take n = args.reverse := by rw [hst, ← hl, List.take_left]
  have e2 : st.drop n = rest := by rw [hst, ← hl, List.drop_left]
  refine ⟨d', lim', Qc, hd, h1, h2, by rw [hst, List.length_append]; omega, by rw [e2]; exact hc, fun c hc => ?_, by rw [e1, List.reverse_reverse]; exact hC, by rw [e2]; exact hk⟩
  obtain ⟨b, hb, hs⟩ := hr c hc
  refine ⟨b, ?_, hs⟩
  cases args with
  | nil => cases hb
  | cons x xs =>
    simp only [List.head?_cons, Option.some.injEq] at hb
    subst hb
    rw [hst, ← hn]
    simp
/-- a call, its contract's answer being what follows -/
theorem am_callK {g : am_G} {l : Launch} {d d' : Nat} {lim lim' : Nat × Nat} {M' : am_M} {ci : Option Nat} {n : Nat} {K : am_K} {L : List (Option Value)} (args rest : List Value) {σ : am_S} {st : List Value} (hst : st = args.reverse ++ rest) (hd : d' < d) (h1 : lim'.1 ≤ lim.1) (h2 : lim'.2 ≤ lim.2) (hn : args.length = n) (hc : (rest.map fun v => v.category).sum ≤ 8)
    (hr : ∀ c, ci = some c → ∃ b, args.head? = some (.ref b) ∧ am_sh σ b = some (.inl c)) (hC : am_C g l M' d' lim' args σ (fun v σ' => am_tp σ' = lim'.1 → am_us σ' = lim'.2 → K L (v.toList ++ rest) σ')) : ax_call g l d lim M' ci n K L st σ :=
  am_call hC hst hd h1 h2 hn hc hr (fun _ _ h a b => h a b)
/-- .. of a method of an object of class c -/
theorem am_recv {σ : am_S} {c b : Nat} {as : List Value} (h : am_sh σ b = some (.inl c)) : ∀ c', some c = some c' → ∃ b', (Value.ref b :: as).head? = some (.ref b') ∧ am_sh σ b' = some (.inl c') := fun c' hc => ⟨b, rfl, by cases hc; exact h⟩
theorem am_stat {σ : am_S} {as : List Value} : ∀ c' : Nat, (none : Option Nat) = some c' → ∃ b', as.head? = some (.ref b') ∧ am_sh σ b' = some (.inl c') := fun c' hc => by cases hc
theorem am_C.mono {g : am_G} {l : Launch} {M : am_M} {d : Nat} {lim : Nat × Nat} {args : List Value} {σ : am_S} {Q Q' : Option Value → am_S → Prop} (h : am_C g l M d lim args σ Q) (hq : ∀ v σ', Q v σ' → Q' v σ') : am_C g l M d lim args σ Q' := by
  obtain ⟨h1, h2, h3⟩ := h
  refine ⟨h1, h2, ?_⟩
  exact MetFree.mono h3 (fun _ _ h => h) (fun _ _ _ _ _ h => h) (fun a s o s' _ h => ⟨by
    obtain ⟨v, σ', a1, a2, a3⟩ := h.1
    exact ⟨v, σ', a1, hq v σ' a2, a3⟩, h.2⟩)
/-! numbers -/
theorem am_ix_nI {k n : Nat} (h : k < 2 ^ 31) : am_ix (nI k) n ↔ k < n := by
  unfold am_ix
  rw [nI_toInt h]
  omega
theorem am_ix_0 {n : Nat} : am_ix 0 n ↔ 0 < n := am_ix_nI (k := 0) (by decide)
theorem am_ix_1 {n : Nat} : am_ix 1 n ↔ 1 < n := am_ix_nI (k := 1) (by decide)
theorem am_ix_2 {n : Nat} : am_ix 2 n ↔ 2 < n := am_ix_nI (k := 2) (by decide)
theorem am_ix_3 {n : Nat} : am_ix 3 n ↔ 3 < n := am_ix_nI (k := 3) (by decide)
theorem am_n0 : Int32.toNatClampNeg 0 = 0 := rfl
theorem am_n1 : Int32.toNatClampNeg 1 = 1 := rfl
theorem am_n2 : Int32.toNatClampNeg 2 = 2 := rfl
theorem am_n3 : Int32.toNatClampNeg 3 = 3 := rfl
theorem am_n4 : Int32.toNatClampNeg 4 = 4 := rfl
theorem am_t0 : Int32.toInt 0 = 0 := rfl
theorem am_t1 : Int32.toInt 1 = 1 := rfl
theorem am_t2 : Int32.toInt 2 = 2 := rfl
theorem am_t3 : Int32.toInt 3 = 3 := rfl
theorem am_t4 : Int32.toInt 4 = 4 := rfl
theorem am_tm1 : Int32.toInt (-1) = -1 := rfl
theorem am_nS (n : Nat) : nI n + 1 = nI (n + 1) := (nI_succ n).symm
theorem am_nP {n : Nat} (h : 0 < n) : nI n - 1 = nI (n - 1) := by
  obtain ⟨m, rfl⟩ : ∃ m, n = m + 1 := ⟨n - 1, by omega⟩
  rw [Nat.add_sub_cancel, nI_succ]
  exact Int32.add_sub_cancel _ _
theorem am_nM {n : Nat} (h : 0 < n) : nI n + (-1) = nI (n - 1) := by
  rw [← am_nP h, Int32.sub_eq_add_neg]
theorem am_z : (0 : Int32) = nI 0 := rfl
theorem nI_inj {a b : Nat} (ha : a < 2 ^ 31) (hb : b < 2 ^ 31) : nI a = nI b ↔ a = b := by
  constructor
  · intro h
    have h1 := congrArg Int32.toInt h
    rw [nI_toInt ha, nI_toInt hb] at h1
    omega
  · rintro rfl
    rfl
/-- the state behind arraycopy -/
def am_cp (σ : am_S) (a b sp dp n : Nat) : am_S := (σ.1, fun c j => if c = b ∧ dp ≤ j ∧ j < dp + n then am_i σ a (sp + (j - dp)) else am_i σ c j, σ.2.2)
theorem am_sh_cp (σ : am_S) (a b sp dp n : Nat) : am_sh (am_cp σ a b sp dp n) = am_sh σ := rfl
theorem am_r_cp (σ : am_S) (a b sp dp n : Nat) : am_r (am_cp σ a b sp dp n) = am_r σ := rfl
theorem am_tp_cp (σ : am_S) (a b sp dp n : Nat) : am_tp (am_cp σ a b sp dp n) = am_tp σ := rfl
theorem am_us_cp (σ : am_S) (a b sp dp n : Nat) : am_us (am_cp σ a b sp dp n) = am_us σ := rfl
theorem am_i_cp (σ : am_S) (a b sp dp n c j : Nat) : am_i (am_cp σ a b sp dp n) c j = if c = b ∧ dp ≤ j ∧ j < dp + n then am_i σ a (sp + (j - dp)) else am_i σ c j := rfl
theorem am_fm.cp {P : Nat → Prop} {σ σ' : am_S} {a b sp dp n : Nat} (h : am_fm P σ σ') (hb : P b) : am_fm P σ (am_cp σ' a b sp dp n) := h.tr ⟨rfl, rfl, rfl, fun c hc => ⟨funext fun j => by rw [am_i_cp, if_neg (fun (q : c = b ∧ dp ≤ j ∧ j < dp + n) => hc (q.1 ▸ hb))], rfl⟩⟩
/-- four ints from place 0 on -/
theorem am_copy4 {K : am_K} {L : List (Option Value)} {σ : am_S} {a b : Nat} {r : List Value} (hne : a ≠ b) (ha : am_sh σ a = some (.inr (0, 4))) (hb : am_sh σ b = some (.inr (0, 4))) (hc : (r.map fun v => v.category).sum ≤ 8) (hk : K L r (am_cp σ a b 0 0 4)) : ax_copy K L (.int 4 :: .int 0 :: .ref b :: .int 0 :: .ref a :: r) σ :=
  ⟨4, 4, hne, ha, hb, by decide, by decide, by decide, by decide, by decide, hc, hk⟩
/-- a contract, its locals given -/
theorem am_C.at {g : am_G} {l : Launch} {M : am_M} {d : Nat} {lim : Nat × Nat} {args : List Value} {σ : am_S} {Q : Option Value → am_S → Prop} (L : List (Option Value)) (hp : plainName M.1.cls = true) (hlen : (lg_sl args).length ≤ M.2.2.1) (hL : am_ini args M.2.2.1 = L) (ht : am_tp σ ≤ lim.1) (hu : am_us σ ≤ lim.2)
    (h : am_W g l M d lim Q 0 L [] σ) : am_C g l M d lim args σ Q := am_C.of hp ht hu hlen (hL ▸ h)
/-- .. of a method that makes nothing -/
theorem am_C.go {g : am_G} {l : Launch} {M : am_M} {d : Nat} {args : List Value} {σ : am_S} {Q : Option Value → am_S → Prop} (L : List (Option Value)) (hp : plainName M.1.cls = true) (hlen : (lg_sl args).length ≤ M.2.2.1) (hL : am_ini args M.2.2.1 = L)
    (h : am_W g l M d (am_tp σ, am_us σ) Q 0 L [] σ) : am_C g l M d (am_tp σ, am_us σ) args σ Q := am_C.of hp (Nat.le_refl _) (Nat.le_refl _) hlen (hL ▸ h)
theorem c_isSession {g : am_G} {l : Launch} {σ : am_S} {s : Int32} {Q : Option Value → am_S → Prop} (hQ : Q (some (.int (if 0 ≤ s.toInt ∧ s.toInt < 4 then 1 else 0))) σ) : am_C g l mX9_isSession 0 (am_tp σ, am_us σ) [.int s] σ Q := by
  refine am_C.go [some (.int s)] (by decide +kernel) (Nat.le_of_ble_eq_true rfl) rfl (kX9_isSession_0 ?_)
  simp (disch := omega) only [ax_const, ax_iload, ax_lload, ax_aload, ax_istore, ax_astore, ax_iinc, ax_i2, ax_i2n, ax_l2, ax_lsh, ax_ii, ax_il, ax_li, ax_pop, ax_dup, ax_dup2, ax_if, ax_cmp, ax_acmp, ax_goto, ax_getI, ax_getR, ax_putI, ax_putR, ax_gets, ax_getsT, ax_aldI, ax_aldR, ax_astI, ax_astR, ax_alen, ax_ret, ax_aret, ax_vret, am_st, am_kl, List.getElem?_cons_zero, List.getElem?_cons_succ, List.set_cons_zero, List.set_cons_succ, Value.category, true_and, and_true, if_true, if_false, reduceCtorEq, Bool.false_eq_true, false_implies, forall_const, Option.some.injEq, exists_eq_left', exists_eq_left, Sum.inl.injEq, Sum.inr.injEq, Prod.mk.injEq, nI_toInt, nI_clamp, am_ix_nI, am_ix_0, am_ix_1, am_ix_2, am_ix_3, am_n0, am_n1, am_n2, am_n3, am_n4, am_t0, am_t1, am_t2, am_t3, am_t4, am_tm1, am_nS, am_nP, am_nM, Int.ofNat_lt, Int.ofNat_le]
  refine ⟨fun h => ⟨by simp, ?_⟩, fun h => ⟨fun h2 => ⟨by simp, ?_⟩, fun h2 => ⟨by simp, ?_⟩⟩⟩
  · rwa [if_neg (by omega)] at hQ
  · rwa [if_pos (by omega)] at hQ
  · rwa [if_neg (by omega)] at hQ
