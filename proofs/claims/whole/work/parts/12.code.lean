/-! ===== tokens as constants; Code ===== -/
/-- the column that a token means -/
def xt_col (t : Nat) : Int32 := if t = 15 then 0 else if t = 16 then 1 else if t = 17 then 2 else if t = 18 then 3 else -1
def xt_K (g : am_G) (σ : am_S) : Prop := ∀ t, t < 37 → am_sh σ (am_tk g t) = some (.inl 8) ∧ am_tk g t < g.2.2.1.size ∧ am_i σ (am_tk g t) 1 = xt_col t ∧ am_i σ (am_tk g t) 2 = nI t
theorem xt_K.inj {g : am_G} {σ : am_S} (h : xt_K g σ) {a b : Nat} (ha : a < 37) (hb : b < 37) : am_tk g a = am_tk g b ↔ a = b := by
  constructor
  · intro e
    have h1 := (h a ha).2.2.2
    rw [e, (h b hb).2.2.2] at h1
    exact ((nI_inj (by omega) (by omega)).mp h1).symm
  · rintro rfl
    rfl
theorem xt_K.fm {g : am_G} {P : Nat → Prop} {σ σ' : am_S} (h : xt_K g σ) (hf : am_fm P σ σ') (hP : ∀ a, P a → g.2.2.1.size ≤ a) : xt_K g σ' := by
  intro t ht
  obtain ⟨h1, h2, h3, h4⟩ := h t ht
  have hn : ¬ P (am_tk g t) := fun q => by have := hP _ q; omega
  rw [hf.1, (hf.2.2.2 _ hn).1]
  exact ⟨h1, h2, h3, h4⟩
/-- Code c: its kind, its steps -/
def xk_C (g : am_G) (σ : am_S) (c : Nat) (kd : Nat) (ss : List (Nat × Int32)) : Prop :=
  am_sh σ c = some (.inl 0) ∧ am_r σ c 1 = some (c + 1) ∧ am_r σ c 2 = some (c + 2) ∧ am_r σ c 3 = some (c + 3) ∧ am_sh σ (c + 1) = some (.inr (8, 160)) ∧ am_sh σ (c + 2) = some (.inr (0, 160)) ∧ am_sh σ (c + 3) = some (.inr (0, 160)) ∧
  am_i σ c 0 = nI kd ∧ am_i σ c 4 = nI ss.length ∧ ss.length ≤ 160 ∧ kd ≤ 3 ∧ ∀ i t o, ss[i]? = some (t, o) → t < 37 ∧ am_r σ (c + 1) i = some (am_tk g t) ∧ (t = 33 ∨ t = 34 → am_i σ (c + 2) i = o)
theorem xk_C.fm {g : am_G} {P : Nat → Prop} {σ σ' : am_S} {c kd : Nat} {ss : List (Nat × Int32)} (h : xk_C g σ c kd ss) (hf : am_fm P σ σ') (hd : ∀ b, c ≤ b → b < c + 3 → ¬ P b) : xk_C g σ' c kd ss := by
  obtain ⟨h1, h2, h3, h4, h5, h6, h7, h8, h9, h10, h11, h12⟩ := h
  obtain ⟨e1, e2⟩ := hf.2.2.2 c (hd c (by omega) (by omega))
  obtain ⟨e3, e4⟩ := hf.2.2.2 (c + 1) (hd (c + 1) (by omega) (by omega))
  obtain ⟨e5, e6⟩ := hf.2.2.2 (c + 2) (hd (c + 2) (by omega) (by omega))
  unfold xk_C
  rw [hf.1, e1, e2, e4, e5]
  exact ⟨h1, h2, h3, h4, h5, h6, h7, h8, h9, h10, h11, h12⟩
theorem c_kclear {g : am_G} {l : Launch} {σ : am_S} {c kd : Nat} {ss : List (Nat × Int32)} {Q : Option Value → am_S → Prop} (h : xk_C g σ c kd ss) (hQ : ∀ σ', xk_C g σ' c 0 [] → am_fm (fun b => b = c) σ σ' → Q none σ') : am_C g l mX0_clear 0 (am_tp σ, am_us σ) [.ref c] σ Q := by
  obtain ⟨h1, h2, h3, h4, h5, h6, h7, h8, h9, h10, h11, h12⟩ := h
  refine am_C.go [some (.ref c)] (by decide +kernel) (Nat.le_of_ble_eq_true rfl) rfl (kX0_clear_0 ?_)
  simp (disch := omega) only [ax_const, ax_iload, ax_lload, ax_aload, ax_istore, ax_astore, ax_iinc, ax_i2, ax_i2n, ax_l2, ax_lsh, ax_ii, ax_il, ax_li, ax_pop, ax_dup, ax_dup2, ax_if, ax_cmp, ax_acmp, ax_goto, ax_getI, ax_getR, ax_putI, ax_putR, ax_gets, ax_getsT, ax_aldI, ax_aldR, ax_astI, ax_astR, ax_alen, ax_ret, ax_aret, ax_vret, am_st, am_kl, List.getElem?_cons_zero, List.getElem?_cons_succ, List.set_cons_zero, List.set_cons_succ, Value.category, true_and, and_true, if_true, if_false, reduceCtorEq, Bool.false_eq_true, false_implies, forall_const, Option.some.injEq, exists_eq_left', exists_eq_left, Sum.inl.injEq, Sum.inr.injEq, Prod.mk.injEq, nI_toInt, nI_clamp, am_ix_nI, am_ix_0, am_ix_1, am_ix_2, am_ix_3, am_n0, am_n1, am_n2, am_n3, am_n4, am_t0, am_t1, am_t2, am_t3, am_t4, am_tm1, am_nS, am_nP, am_nM, Int.ofNat_lt, Int.ofNat_le, am_sh_wi, am_sh_wr, am_r_wi, am_i_wr, am_tp_wi, am_tp_wr, am_us_wi, am_us_wr, am_i_wi, am_r_wr, h1]
  refine hQ _ ⟨h1, h2, h3, h4, h5, h6, h7, by simp [am_i_wi]; rfl, by simp [am_i_wi]; rfl, by decide, by decide, fun i t o hi => by simp at hi⟩ (((am_fm.rf (P := fun b => b = c)).wi rfl).wi rfl)
theorem c_kisSummary {g : am_G} {l : Launch} {σ : am_S} {c kd : Nat} {ss : List (Nat × Int32)} {Q : Option Value → am_S → Prop} (h : xk_C g σ c kd ss) (hQ : Q (some (.int (if kd = 2 ∨ kd = 3 then 1 else 0))) σ) : am_C g l mX0_isSummary 0 (am_tp σ, am_us σ) [.ref c] σ Q := by
  obtain ⟨h1, h2, h3, h4, h5, h6, h7, h8, h9, h10, h11, h12⟩ := h
  have e2 : nI kd = 2 ↔ kd = 2 := nI_inj (b := 2) (by omega) (by omega)
  have e3 : nI kd = 3 ↔ kd = 3 := nI_inj (b := 3) (by omega) (by omega)
  refine am_C.go [some (.ref c)] (by decide +kernel) (Nat.le_of_ble_eq_true rfl) rfl (kX0_isSummary_0 ?_)
  simp (disch := omega) only [ax_const, ax_iload, ax_lload, ax_aload, ax_istore, ax_astore, ax_iinc, ax_i2, ax_i2n, ax_l2, ax_lsh, ax_ii, ax_il, ax_li, ax_pop, ax_dup, ax_dup2, ax_if, ax_cmp, ax_acmp, ax_goto, ax_getI, ax_getR, ax_putI, ax_putR, ax_gets, ax_getsT, ax_aldI, ax_aldR, ax_astI, ax_astR, ax_alen, ax_ret, ax_aret, ax_vret, am_st, am_kl, List.getElem?_cons_zero, List.getElem?_cons_succ, List.set_cons_zero, List.set_cons_succ, Value.category, true_and, and_true, if_true, if_false, reduceCtorEq, Bool.false_eq_true, false_implies, forall_const, Option.some.injEq, exists_eq_left', exists_eq_left, Sum.inl.injEq, Sum.inr.injEq, Prod.mk.injEq, nI_toInt, nI_clamp, am_ix_nI, am_ix_0, am_ix_1, am_ix_2, am_ix_3, am_n0, am_n1, am_n2, am_n3, am_n4, am_t0, am_t1, am_t2, am_t3, am_t4, am_tm1, am_nS, am_nP, am_nM, Int.ofNat_lt, Int.ofNat_le, am_sh_wi, am_sh_wr, am_r_wi, am_i_wr, am_tp_wi, am_tp_wr, am_us_wi, am_us_wr, am_i_wi, am_r_wr, h1, h8, e2, e3]
  refine ⟨fun h => ⟨by simp, ?_⟩, fun h => ⟨fun h' => ⟨by simp, ?_⟩, fun h' => ⟨by simp, ?_⟩⟩⟩
  · rwa [if_pos (Or.inl h)] at hQ
  · rwa [if_pos (Or.inr h')] at hQ
  · rwa [if_neg (by omega)] at hQ
theorem c_kjoin {g : am_G} {l : Launch} {σ : am_S} {c kd t : Nat} {o : Int32} {ss : List (Nat × Int32)} {Q : Option Value → am_S → Prop} (hK : xt_K g σ) (h : xk_C g σ c kd ss) (ht : t < 37) (hl : ss.length < 160) (ho : t = 33 ∨ t = 34 → am_i σ (c + 2) ss.length = o)
    (hQ : ∀ σ', xk_C g σ' c kd (ss ++ [(t, o)]) → am_fm (fun b => c ≤ b ∧ b < c + 2) σ σ' → Q none σ') : am_C g l mX0_join 0 (am_tp σ, am_us σ) [.ref c, .ref (am_tk g t)] σ Q := by
  obtain ⟨h1, h2, h3, h4, h5, h6, h7, h8, h9, h10, h11, h12⟩ := h
  have hac : am_ac 8 = 8 := rfl
  refine am_C.go [some (.ref c), some (.ref (am_tk g t))] (by decide +kernel) (Nat.le_of_ble_eq_true rfl) rfl (kX0_join_0 ?_)
  simp (disch := omega) only [ax_const, ax_iload, ax_lload, ax_aload, ax_istore, ax_astore, ax_iinc, ax_i2, ax_i2n, ax_l2, ax_lsh, ax_ii, ax_il, ax_li, ax_pop, ax_dup, ax_dup2, ax_if, ax_cmp, ax_acmp, ax_goto, ax_getI, ax_getR, ax_putI, ax_putR, ax_gets, ax_getsT, ax_aldI, ax_aldR, ax_astI, ax_astR, ax_alen, ax_ret, ax_aret, ax_vret, am_st, am_kl, List.getElem?_cons_zero, List.getElem?_cons_succ, List.set_cons_zero, List.set_cons_succ, Value.category, true_and, and_true, if_true, if_false, reduceCtorEq, Bool.false_eq_true, false_implies, forall_const, Option.some.injEq, exists_eq_left', exists_eq_left, Sum.inl.injEq, Sum.inr.injEq, Prod.mk.injEq, nI_toInt, nI_clamp, am_ix_nI, am_ix_0, am_ix_1, am_ix_2, am_ix_3, am_n0, am_n1, am_n2, am_n3, am_n4, am_t0, am_t1, am_t2, am_t3, am_t4, am_tm1, am_nS, am_nP, am_nM, Int.ofNat_lt, Int.ofNat_le, am_sh_wi, am_sh_wr, am_r_wi, am_i_wr, am_tp_wi, am_tp_wr, am_us_wi, am_us_wr, am_i_wi, am_r_wr, h1, h2, h5, h9, hac, (hK t ht).1, show ¬ (8 : Nat) = 3 by decide]
  refine ⟨hl, hQ _ ⟨h1, ?_, ?_, ?_, h5, h6, h7, ?_, ?_, by simp; omega, h11, fun i t' o' hi => ?_⟩ ((am_fm.rf.wr ⟨by omega, by omega⟩).wi ⟨by omega, by omega⟩)⟩
  · rw [am_r_wi, am_r_wr, if_neg (by omega)]; exact h2
  · rw [am_r_wi, am_r_wr, if_neg (by omega)]; exact h3
  · rw [am_r_wi, am_r_wr, if_neg (by omega)]; exact h4
  · rw [am_i_wi, if_neg (by omega)]; exact h8
  · rw [am_i_wi, if_pos ⟨rfl, rfl⟩]; simp
  · rw [am_r_wi, am_r_wr, am_i_wi, am_i_wr, if_neg (by omega : ¬ (c + 2 = c ∧ i = 4))]
    by_cases e : i < ss.length
    · rw [List.getElem?_append_left e] at hi
      rw [if_neg (by omega)]
      exact h12 i t' o' hi
    · rw [List.getElem?_append_right (by omega)] at hi
      have e2 : i = ss.length := by
        have := (List.getElem?_eq_some_iff.mp hi).1
        simp at this
        omega
      subst e2
      simp at hi
      obtain ⟨rfl, rfl⟩ := hi
      rw [if_pos ⟨rfl, rfl⟩]
      exact ⟨ht, rfl, ho⟩
theorem c_kput {g : am_G} {l : Launch} {σ : am_S} {c kd t : Nat} {o : Int32} {ss : List (Nat × Int32)} {Q : Option Value → am_S → Prop} (hK : xt_K g σ) (h : xk_C g σ c kd ss) (hB : g.2.2.1.size ≤ c) (ht : t < 37) (hl : ss.length < 160)
    (hQ : ∀ σ', xk_C g σ' c kd (ss ++ [(t, o)]) → am_fm (fun b => c ≤ b ∧ b < c + 3) σ σ' → Q none σ') : am_C g l mX0_put 1 (am_tp σ, am_us σ) [.ref c, .ref (am_tk g t), .int o] σ Q := by
  have h0 := h
  obtain ⟨h1, h2, h3, h4, h5, h6, h7, h8, h9, h10, h11, h12⟩ := h
  have hf : am_fm (fun b => c ≤ b ∧ b < c + 3) σ (am_wi σ (c + 2) ss.length o) := am_fm.rf.wi ⟨by omega, by omega⟩
  refine am_C.go [some (.ref c), some (.ref (am_tk g t)), some (.int o)] (by decide +kernel) (Nat.le_of_ble_eq_true rfl) rfl (kX0_put_0 ?_)
  simp (disch := omega) only [ax_const, ax_iload, ax_lload, ax_aload, ax_istore, ax_astore, ax_iinc, ax_i2, ax_i2n, ax_l2, ax_lsh, ax_ii, ax_il, ax_li, ax_pop, ax_dup, ax_dup2, ax_if, ax_cmp, ax_acmp, ax_goto, ax_getI, ax_getR, ax_putI, ax_putR, ax_gets, ax_getsT, ax_aldI, ax_aldR, ax_astI, ax_astR, ax_alen, ax_ret, ax_aret, ax_vret, am_st, am_kl, List.getElem?_cons_zero, List.getElem?_cons_succ, List.set_cons_zero, List.set_cons_succ, Value.category, true_and, and_true, if_true, if_false, reduceCtorEq, Bool.false_eq_true, false_implies, forall_const, Option.some.injEq, exists_eq_left', exists_eq_left, Sum.inl.injEq, Sum.inr.injEq, Prod.mk.injEq, nI_toInt, nI_clamp, am_ix_nI, am_ix_0, am_ix_1, am_ix_2, am_ix_3, am_n0, am_n1, am_n2, am_n3, am_n4, am_t0, am_t1, am_t2, am_t3, am_t4, am_tm1, am_nS, am_nP, am_nM, Int.ofNat_lt, Int.ofNat_le, am_sh_wi, am_sh_wr, am_r_wi, am_i_wr, am_tp_wi, am_tp_wr, am_us_wi, am_us_wr, am_i_wi, am_r_wr, h1, h3, h6, h9]
  refine ⟨hl, ?_⟩
  refine am_callK [.ref c, .ref (am_tk g t)] [] (d' := 0) (lim' := (am_tp σ, am_us σ)) rfl (by decide) (Nat.le_refl _) (Nat.le_refl _) rfl (by decide) (am_recv h1) ?_
  refine c_kjoin (σ := am_wi σ (c + 2) ss.length o) (kd := kd) (ss := ss) (o := o) (hK.fm hf (fun a x => by omega)) ⟨h1, h2, h3, h4, h5, h6, h7, ?_, ?_, h10, h11, fun i t' o' hi => ?_⟩ ht hl (fun _ => by rw [am_i_wi, if_pos ⟨rfl, rfl⟩]) (fun σ' x y z w => ?_)
  · rw [am_i_wi, if_neg (by omega)]; exact h8
  · rw [am_i_wi, if_neg (by omega)]; exact h9
  · have := (List.getElem?_eq_some_iff.mp hi).1
    rw [am_r_wi, am_i_wi, if_neg (by omega)]
    exact h12 i t' o' hi
  · simp only [ax_const, ax_iload, ax_lload, ax_aload, ax_istore, ax_astore, ax_iinc, ax_i2, ax_i2n, ax_l2, ax_lsh, ax_ii, ax_il, ax_li, ax_pop, ax_dup, ax_dup2, ax_if, ax_cmp, ax_acmp, ax_goto, ax_getI, ax_getR, ax_putI, ax_putR, ax_gets, ax_getsT, ax_aldI, ax_aldR, ax_astI, ax_astR, ax_alen, ax_ret, ax_aret, ax_vret, am_st, am_kl, List.getElem?_cons_zero, List.getElem?_cons_succ, List.set_cons_zero, List.set_cons_succ, Value.category, true_and, and_true, if_true, if_false, reduceCtorEq, Bool.false_eq_true, false_implies, forall_const, Option.some.injEq, exists_eq_left', exists_eq_left, Sum.inl.injEq, Sum.inr.injEq, Prod.mk.injEq, Option.toList_none, List.nil_append, List.append_nil]
    exact ⟨z, w, hQ σ' x (hf.tr (y.mono (fun b hb => ⟨hb.1, by omega⟩)))⟩
/-! workOut -/
def xk_jn (t : Nat) (x y : Int32) : Int32 := if t = 27 then x + y else if t = 28 then x - y else if t = 29 then x * y else if t = 12 then x &&& y else if t = 13 then x ||| y else if t = 30 then (if x = y then 1 else 0) else if t = 31 then (if x.toInt < y.toInt then 1 else 0) else (if y.toInt < x.toInt then 1 else 0)
theorem c_joined {g : am_G} {l : Launch} {σ : am_S} {t : Nat} {x y : Int32} {Q : Option Value → am_S → Prop} (hK : xt_K g σ) (ht : t < 37) (hQ : Q (some (.int (xk_jn t x y))) σ) : am_C g l mX0_joined 0 (am_tp σ, am_us σ) [.int x, .ref (am_tk g t), .int y] σ Q := by
  have j : ∀ b, b < 37 → (am_tk g t = am_tk g b ↔ t = b) := fun b hb => hK.inj ht hb
  refine am_C.go [some (.int x), some (.ref (am_tk g t)), some (.int y)] (by decide +kernel) (Nat.le_of_ble_eq_true rfl) rfl (kX0_joined_0 ?_)
  simp (disch := omega) only [ax_const, ax_iload, ax_lload, ax_aload, ax_istore, ax_astore, ax_iinc, ax_i2, ax_i2n, ax_l2, ax_lsh, ax_ii, ax_il, ax_li, ax_pop, ax_dup, ax_dup2, ax_if, ax_cmp, ax_acmp, ax_goto, ax_getI, ax_getR, ax_putI, ax_putR, ax_gets, ax_getsT, ax_aldI, ax_aldR, ax_astI, ax_astR, ax_alen, ax_ret, ax_aret, ax_vret, am_st, am_kl, List.getElem?_cons_zero, List.getElem?_cons_succ, List.set_cons_zero, List.set_cons_succ, Value.category, true_and, and_true, if_true, if_false, reduceCtorEq, Bool.false_eq_true, false_implies, forall_const, Option.some.injEq, exists_eq_left', exists_eq_left, Sum.inl.injEq, Sum.inr.injEq, Prod.mk.injEq, nI_toInt, nI_clamp, am_ix_nI, am_ix_0, am_ix_1, am_ix_2, am_ix_3, am_n0, am_n1, am_n2, am_n3, am_n4, am_t0, am_t1, am_t2, am_t3, am_t4, am_tm1, am_nS, am_nP, am_nM, Int.ofNat_lt, Int.ofNat_le, j]
  unfold xk_jn at hQ
  refine ⟨fun h => ?_, fun h => ⟨fun h1 => ?_, fun h1 => ⟨fun h2 => ?_, fun h2 => ⟨fun h3 => ?_, fun h3 => ⟨fun h4 => ?_, fun h4 => ⟨fun h5 => ⟨fun h6 => ?_, fun h6 => ?_⟩, fun h5 => ⟨fun h6 => ⟨fun h7 => ?_, fun h7 => ?_⟩, fun h6 => ⟨fun h7 => ?_, fun h7 => ?_⟩⟩⟩⟩⟩⟩⟩⟩
  all_goals simp_all
/-- the steps worked out, on a stack -/
def xk_run (env : Nat → Int32) : List (Nat × Int32) → List Int32 → Option (List Int32)
  | [], st => some st
  | (t, o) :: ss, st => if t = 33 then xk_run env ss (o :: st) else if t = 34 then (if 0 ≤ o.toInt ∧ o.toInt < 12 then xk_run env ss (env o.toNatClampNeg :: st) else none) else if t = 14 then (match st with
    | x :: r => xk_run env ss ((1 - x) :: r)
    | [] => none) else (match st with
    | y :: x :: r => xk_run env ss (xk_jn t x y :: r)
    | _ => none)
/-- what the three rows hold -/
def xk_env (σ : am_S) (q : Nat) (env : Nat → Int32) : Prop := am_sh σ q = some (.inr (3, 3)) ∧ ∀ o, o < 12 → ∃ b, am_r σ q (o / 4) = some b ∧ am_sh σ b = some (.inr (0, 4)) ∧ am_i σ b (o % 4) = env o
theorem am_d4 {a : Nat} (h : a < 2 ^ 31) : nI a / 4 = nI (a / 4) := pk_div (d := 4) h (by decide) (by decide)
theorem am_m4 {a : Nat} (h : a < 2 ^ 31) : nI a - nI (a / 4) * 4 = nI (a % 4) := by
  rw [← am_d4 h]
  exact pk_rem (d := 4) h (by decide) (by decide)
theorem am_nz4 : ¬ (4 : Int32) = 0 := by decide
/-- the stack's array holds st, its top last -/
def xk_st (σ : am_S) (a : Nat) (st : List Int32) : Prop := ∀ j v, st.reverse[j]? = some v → am_i σ a j = v
theorem xk_st.push {σ : am_S} {a : Nat} {st : List Int32} {v : Int32} (h : xk_st σ a st) : xk_st (am_wi σ a st.length v) a (v :: st) := by
  intro j w hw
  rw [am_i_wi]
  rw [List.reverse_cons] at hw
  by_cases e : j = st.length
  · rw [if_pos ⟨rfl, e⟩]
    rw [e, List.getElem?_append_right (by simp)] at hw
    simpa using hw
  · rw [if_neg (fun z => e z.2)]
    have hl := (List.getElem?_eq_some_iff.mp hw).1
    rw [List.length_append, List.length_reverse] at hl
    simp at hl
    rw [List.getElem?_append_left (by rw [List.length_reverse]; omega)] at hw
    exact h j w hw
theorem xk_st.pop {σ : am_S} {a : Nat} {st : List Int32} {v : Int32} (h : xk_st σ a (v :: st)) : xk_st σ a st ∧ am_i σ a st.length = v := by
  refine ⟨fun j w hw => h j w ?_, h _ v ?_⟩
  · rw [List.reverse_cons, List.getElem?_append_left (List.getElem?_eq_some_iff.mp hw).1]
    exact hw
  · rw [List.reverse_cons, List.getElem?_append_right (by simp)]
    simp
theorem xk_work_loop {g : am_G} {l : Launch} {σ : am_S} {d c kd q : Nat} {ss : List (Nat × Int32)} {env : Nat → Int32} {v : Int32} {Q : Option Value → am_S → Prop} (hd : 1 ≤ d) (hK : xt_K g σ) (hB : g.2.2.1.size ≤ c) (h : xk_C g σ c kd ss) (hE : xk_env σ q env) (hq : ∀ o, o < 12 → ∀ b, am_r σ q (o / 4) = some b → b ≠ c + 3) (hQ : ∀ σ', am_fm (fun b => b = c + 3) σ σ' → Q (some (.int v)) σ') :
    ∀ (T pre : List (Nat × Int32)) (st : List Int32) (σ' : am_S), ss = pre ++ T → am_fm (fun b => b = c + 3) σ σ' → st.length ≤ pre.length → xk_st σ' (c + 3) st → (∃ fin, xk_run env T st = some fin ∧ fin.getLast? = some v) →
    am_W g l mX0_workOut d (am_tp σ, am_us σ) Q 4 [some (.ref c), some (.ref q), some (.int (nI st.length)), some (.int (nI pre.length))] [] σ' := by
  intro T
  induction T with
  | nil =>
    intro pre st σ' hT hf hl hst hfin
    obtain ⟨fin, hfin, hv⟩ := hfin
    have hn : ss.length = pre.length := by rw [hT]; simp
    obtain ⟨h1, h2, h3, h4, h5, h6, h7, h8, h9, h10, h11, h12⟩ := h.fm hf (fun b x y => by omega)
    have e0 : am_i σ' (c + 3) 0 = v := by
      refine hst 0 v ?_
      simp only [xk_run, Option.some.injEq] at hfin
      subst hfin
      rw [List.getLast?_eq_head?_reverse] at hv
      rw [← List.head?_eq_getElem?]
      exact hv
    refine kX0_workOut_4 ?_
    simp (disch := omega) only [ax_const, ax_iload, ax_lload, ax_aload, ax_istore, ax_astore, ax_iinc, ax_i2, ax_i2n, ax_l2, ax_lsh, ax_ii, ax_il, ax_li, ax_pop, ax_dup, ax_dup2, ax_if, ax_cmp, ax_acmp, ax_goto, ax_getI, ax_getR, ax_putI, ax_putR, ax_gets, ax_getsT, ax_aldI, ax_aldR, ax_astI, ax_astR, ax_alen, ax_ret, ax_aret, ax_vret, am_st, am_kl, List.getElem?_cons_zero, List.getElem?_cons_succ, List.set_cons_zero, List.set_cons_succ, Value.category, true_and, and_true, if_true, if_false, reduceCtorEq, Bool.false_eq_true, false_implies, forall_const, Option.some.injEq, exists_eq_left', exists_eq_left, Sum.inl.injEq, Sum.inr.injEq, Prod.mk.injEq, nI_toInt, nI_clamp, am_ix_nI, am_ix_0, am_ix_1, am_ix_2, am_ix_3, am_n0, am_n1, am_n2, am_n3, am_n4, am_t0, am_t1, am_t2, am_t3, am_t4, am_tm1, am_nS, am_nP, am_nM, Int.ofNat_lt, Int.ofNat_le, h1, h4, h7, h9, e0]
    exact ⟨fun x => by omega, fun _ => ⟨by decide, hf.2.1, hf.2.2.1, hQ σ' hf⟩⟩
  | cons z T ih =>
    obtain ⟨t, o⟩ := z
    intro pre st σ' hT hf hl hst hfin
    obtain ⟨fin, hfin, hv⟩ := hfin
    have hn : ss.length = pre.length + (T.length + 1) := by rw [hT]; simp
    obtain ⟨h1, h2, h3, h4, h5, h6, h7, h8, h9, h10, h11, h12⟩ := h.fm hf (fun b x y => by omega)
    obtain ⟨ht, hs, ho⟩ := h12 pre.length t o (by rw [hT]; simp)
    have hnx : (pre ++ [(t, o)]).length = pre.length + 1 := by simp
    have hK' := hK.fm hf (fun a x => by omega)
    have j : ∀ b, b < 37 → (am_tk g t = am_tk g b ↔ t = b) := fun b hb => hK'.inj ht hb
    have hE' : am_sh σ' q = some (.inr (3, 3)) := by rw [hf.1]; exact hE.1
    rw [xk_run.eq_def] at hfin
    dsimp only at hfin
    refine kX0_workOut_4 ?_
    simp (disch := omega) only [ax_const, ax_iload, ax_lload, ax_aload, ax_istore, ax_astore, ax_iinc, ax_i2, ax_i2n, ax_l2, ax_lsh, ax_ii, ax_il, ax_li, ax_pop, ax_dup, ax_dup2, ax_if, ax_cmp, ax_acmp, ax_goto, ax_getI, ax_getR, ax_putI, ax_putR, ax_gets, ax_getsT, ax_aldI, ax_aldR, ax_astI, ax_astR, ax_alen, ax_ret, ax_aret, ax_vret, am_st, am_kl, List.getElem?_cons_zero, List.getElem?_cons_succ, List.set_cons_zero, List.set_cons_succ, Value.category, true_and, and_true, if_true, if_false, reduceCtorEq, Bool.false_eq_true, false_implies, forall_const, Option.some.injEq, exists_eq_left', exists_eq_left, Sum.inl.injEq, Sum.inr.injEq, Prod.mk.injEq, nI_toInt, nI_clamp, am_ix_nI, am_ix_0, am_ix_1, am_ix_2, am_ix_3, am_n0, am_n1, am_n2, am_n3, am_n4, am_t0, am_t1, am_t2, am_t3, am_t4, am_tm1, am_nS, am_nP, am_nM, Int.ofNat_lt, Int.ofNat_le, h1, h2, h5, h9, hs, j]
    refine ⟨fun _ => ⟨by omega, fun e33 => ?_, fun e33 => ⟨by omega, fun e34 => ?_, fun e34 => ⟨by omega, fun e14 => ?_, fun e14 => ?_⟩⟩⟩, fun x => by omega⟩
    · have ho' := ho (Or.inl e33)
      rw [if_pos e33] at hfin
      simp (disch := omega) only [ax_const, ax_iload, ax_lload, ax_aload, ax_istore, ax_astore, ax_iinc, ax_i2, ax_i2n, ax_l2, ax_lsh, ax_ii, ax_il, ax_li, ax_pop, ax_dup, ax_dup2, ax_if, ax_cmp, ax_acmp, ax_goto, ax_getI, ax_getR, ax_putI, ax_putR, ax_gets, ax_getsT, ax_aldI, ax_aldR, ax_astI, ax_astR, ax_alen, ax_ret, ax_aret, ax_vret, am_st, am_kl, List.getElem?_cons_zero, List.getElem?_cons_succ, List.set_cons_zero, List.set_cons_succ, Value.category, true_and, and_true, if_true, if_false, reduceCtorEq, Bool.false_eq_true, false_implies, forall_const, Option.some.injEq, exists_eq_left', exists_eq_left, Sum.inl.injEq, Sum.inr.injEq, Prod.mk.injEq, nI_toInt, nI_clamp, am_ix_nI, am_ix_0, am_ix_1, am_ix_2, am_ix_3, am_n0, am_n1, am_n2, am_n3, am_n4, am_t0, am_t1, am_t2, am_t3, am_t4, am_tm1, am_nS, am_nP, am_nM, Int.ofNat_lt, Int.ofNat_le, h1, h3, h4, h6, h7, ho']
      refine ⟨by omega, by omega, ?_⟩
      have := ih (pre ++ [(t, o)]) (o :: st) _ (by rw [hT]; simp) (hf.wi (a := c + 3) (k := st.length) (v := o) rfl) (by simp; omega) hst.push ⟨fin, hfin, hv⟩
      rw [hnx] at this
      exact this
    · have ho' := ho (Or.inr e34)
      rw [if_neg e33, if_pos e34] at hfin
      split at hfin
      · rename_i hoo
        obtain ⟨oN, hoN, rfl⟩ : ∃ n : Nat, n < 12 ∧ o = nI n := by
          refine ⟨o.toInt.toNat, by omega, Int32.toInt_inj.mp ?_⟩
          rw [nI_toInt (by omega)]
          omega
        rw [nI_clamp (by omega)] at hfin
        obtain ⟨b, b1, b2, b3⟩ := hE.2 oN hoN
        have hbne := hq oN hoN b b1
        have c1 : am_r σ' q (oN / 4) = some b := by
          by_cases e : q = c + 3
          · rw [e] at hE'
            rw [h7] at hE'
            simp at hE'
          · rw [(hf.2.2.2 q e).2]; exact b1
        have c2 : am_sh σ' b = some (.inr (0, 4)) := by rw [hf.1]; exact b2
        have c3 : am_i σ' b (oN % 4) = env oN := by rw [(hf.2.2.2 b hbne).1]; exact b3
        simp (disch := omega) only [ax_const, ax_iload, ax_lload, ax_aload, ax_istore, ax_astore, ax_iinc, ax_i2, ax_i2n, ax_l2, ax_lsh, ax_ii, ax_il, ax_li, ax_pop, ax_dup, ax_dup2, ax_if, ax_cmp, ax_acmp, ax_goto, ax_getI, ax_getR, ax_putI, ax_putR, ax_gets, ax_getsT, ax_aldI, ax_aldR, ax_astI, ax_astR, ax_alen, ax_ret, ax_aret, ax_vret, am_st, am_kl, List.getElem?_cons_zero, List.getElem?_cons_succ, List.set_cons_zero, List.set_cons_succ, Value.category, true_and, and_true, if_true, if_false, reduceCtorEq, Bool.false_eq_true, false_implies, forall_const, Option.some.injEq, exists_eq_left', exists_eq_left, Sum.inl.injEq, Sum.inr.injEq, Prod.mk.injEq, nI_toInt, nI_clamp, am_ix_nI, am_ix_0, am_ix_1, am_ix_2, am_ix_3, am_n0, am_n1, am_n2, am_n3, am_n4, am_t0, am_t1, am_t2, am_t3, am_t4, am_tm1, am_nS, am_nP, am_nM, Int.ofNat_lt, Int.ofNat_le, h1, h3, h4, h6, h7, ho', am_d4, am_m4, hE', c1, c2, c3, am_nz4, not_false_eq_true]
        refine ⟨by omega, by omega, by omega, by omega, by omega, ?_⟩
        have := ih (pre ++ [(t, nI oN)]) (env oN :: st) _ (by rw [hT]; simp) (hf.wi (a := c + 3) (k := st.length) (v := env oN) rfl) (by simp; omega) hst.push ⟨fin, hfin, hv⟩
        rw [List.length_append] at this
        exact this
      · cases hfin
    · rw [if_neg e33, if_neg e34, if_pos e14] at hfin
      cases st with
      | nil => cases hfin
      | cons x r =>
        dsimp only at hfin
        obtain ⟨s1, s2⟩ := hst.pop
        rw [List.length_cons] at hl
        simp (disch := omega) only [ax_const, ax_iload, ax_lload, ax_aload, ax_istore, ax_astore, ax_iinc, ax_i2, ax_i2n, ax_l2, ax_lsh, ax_ii, ax_il, ax_li, ax_pop, ax_dup, ax_dup2, ax_if, ax_cmp, ax_acmp, ax_goto, ax_getI, ax_getR, ax_putI, ax_putR, ax_gets, ax_getsT, ax_aldI, ax_aldR, ax_astI, ax_astR, ax_alen, ax_ret, ax_aret, ax_vret, am_st, am_kl, List.getElem?_cons_zero, List.getElem?_cons_succ, List.set_cons_zero, List.set_cons_succ, Value.category, true_and, and_true, if_true, if_false, reduceCtorEq, Bool.false_eq_true, false_implies, forall_const, Option.some.injEq, exists_eq_left', exists_eq_left, Sum.inl.injEq, Sum.inr.injEq, Prod.mk.injEq, nI_toInt, nI_clamp, am_ix_nI, am_ix_0, am_ix_1, am_ix_2, am_ix_3, am_n0, am_n1, am_n2, am_n3, am_n4, am_t0, am_t1, am_t2, am_t3, am_t4, am_tm1, am_nS, am_nP, am_nM, Int.ofNat_lt, Int.ofNat_le, h1, h4, h7, List.length_cons, Nat.add_sub_cancel, s2]
        refine ⟨by omega, by omega, ?_⟩
        have := ih (pre ++ [(t, o)]) ((1 - x) :: r) _ (by rw [hT]; simp) (hf.wi (a := c + 3) (k := r.length) (v := 1 - x) rfl) (by simp; omega) s1.push ⟨fin, hfin, hv⟩
        rw [hnx] at this
        exact this
    · rw [if_neg e33, if_neg e34, if_neg e14] at hfin
      match st, hfin with
      | y :: x :: r, hfin =>
        dsimp only at hfin
        obtain ⟨s1, s2⟩ := hst.pop
        obtain ⟨s3, s4⟩ := s1.pop
        rw [List.length_cons] at s2
        rw [List.length_cons, List.length_cons] at hl
        simp (disch := omega) only [ax_const, ax_iload, ax_lload, ax_aload, ax_istore, ax_astore, ax_iinc, ax_i2, ax_i2n, ax_l2, ax_lsh, ax_ii, ax_il, ax_li, ax_pop, ax_dup, ax_dup2, ax_if, ax_cmp, ax_acmp, ax_goto, ax_getI, ax_getR, ax_putI, ax_putR, ax_gets, ax_getsT, ax_aldI, ax_aldR, ax_astI, ax_astR, ax_alen, ax_ret, ax_aret, ax_vret, am_st, am_kl, List.getElem?_cons_zero, List.getElem?_cons_succ, List.set_cons_zero, List.set_cons_succ, Value.category, true_and, and_true, if_true, if_false, reduceCtorEq, Bool.false_eq_true, false_implies, forall_const, Option.some.injEq, exists_eq_left', exists_eq_left, Sum.inl.injEq, Sum.inr.injEq, Prod.mk.injEq, nI_toInt, nI_clamp, am_ix_nI, am_ix_0, am_ix_1, am_ix_2, am_ix_3, am_n0, am_n1, am_n2, am_n3, am_n4, am_t0, am_t1, am_t2, am_t3, am_t4, am_tm1, am_nS, am_nP, am_nM, Int.ofNat_lt, Int.ofNat_le, h1, h2, h4, h5, h7, hs, List.length_cons, Nat.add_sub_cancel, s2, s4]
        refine ⟨by omega, by omega, by omega, ?_⟩
        refine am_callK [.int x, .ref (am_tk g t), .int y] [.int (nI r.length), .ref (c + 3)] (d' := 0) (lim' := (am_tp σ', am_us σ')) rfl (by omega) (by rw [hf.2.1]; exact Nat.le_refl _) (by rw [hf.2.2.1]; exact Nat.le_refl _) rfl (Nat.le_of_ble_eq_true rfl) am_stat ?_
        refine c_joined hK' ht (fun _ _ => ?_)
        simp (disch := omega) only [ax_const, ax_iload, ax_lload, ax_aload, ax_istore, ax_astore, ax_iinc, ax_i2, ax_i2n, ax_l2, ax_lsh, ax_ii, ax_il, ax_li, ax_pop, ax_dup, ax_dup2, ax_if, ax_cmp, ax_acmp, ax_goto, ax_getI, ax_getR, ax_putI, ax_putR, ax_gets, ax_getsT, ax_aldI, ax_aldR, ax_astI, ax_astR, ax_alen, ax_ret, ax_aret, ax_vret, am_st, am_kl, List.getElem?_cons_zero, List.getElem?_cons_succ, List.set_cons_zero, List.set_cons_succ, Value.category, true_and, and_true, if_true, if_false, reduceCtorEq, Bool.false_eq_true, false_implies, forall_const, Option.some.injEq, exists_eq_left', exists_eq_left, Sum.inl.injEq, Sum.inr.injEq, Prod.mk.injEq, nI_toInt, nI_clamp, am_ix_nI, am_ix_0, am_ix_1, am_ix_2, am_ix_3, am_n0, am_n1, am_n2, am_n3, am_n4, am_t0, am_t1, am_t2, am_t3, am_t4, am_tm1, am_nS, am_nP, am_nM, Int.ofNat_lt, Int.ofNat_le, Option.toList_some, List.cons_append, List.nil_append, h7]
        refine ⟨by omega, ?_⟩
        have := ih (pre ++ [(t, o)]) (xk_jn t x y :: r) _ (by rw [hT]; simp) (hf.wi (a := c + 3) (k := r.length) (v := xk_jn t x y) rfl) (by simp; omega) s3.push ⟨fin, hfin, hv⟩
        rw [hnx] at this
        exact this
/-- Code.workOut -/
theorem c_kwork {g : am_G} {l : Launch} {σ : am_S} {c kd q : Nat} {ss : List (Nat × Int32)} {env : Nat → Int32} {v : Int32} {Q : Option Value → am_S → Prop} (hK : xt_K g σ) (hB : g.2.2.1.size ≤ c) (h : xk_C g σ c kd ss) (hE : xk_env σ q env) (hq : ∀ o, o < 12 → ∀ b, am_r σ q (o / 4) = some b → b ≠ c + 3) (hr : xk_run env ss [] = some [v])
    (hQ : ∀ σ', am_fm (fun b => b = c + 3) σ σ' → Q (some (.int v)) σ') : am_C g l mX0_workOut 1 (am_tp σ, am_us σ) [.ref c, .ref q] σ Q := by
  refine am_C.go [some (.ref c), some (.ref q), none, none] (by decide +kernel) (Nat.le_of_ble_eq_true rfl) rfl (kX0_workOut_0 ?_)
  simp (disch := omega) only [ax_const, ax_iload, ax_lload, ax_aload, ax_istore, ax_astore, ax_iinc, ax_i2, ax_i2n, ax_l2, ax_lsh, ax_ii, ax_il, ax_li, ax_pop, ax_dup, ax_dup2, ax_if, ax_cmp, ax_acmp, ax_goto, ax_getI, ax_getR, ax_putI, ax_putR, ax_gets, ax_getsT, ax_aldI, ax_aldR, ax_astI, ax_astR, ax_alen, ax_ret, ax_aret, ax_vret, am_st, am_kl, List.getElem?_cons_zero, List.getElem?_cons_succ, List.set_cons_zero, List.set_cons_succ, Value.category, true_and, and_true, if_true, if_false, reduceCtorEq, Bool.false_eq_true, false_implies, forall_const, Option.some.injEq, exists_eq_left', exists_eq_left, Sum.inl.injEq, Sum.inr.injEq, Prod.mk.injEq, nI_toInt, nI_clamp, am_ix_nI, am_ix_0, am_ix_1, am_ix_2, am_ix_3, am_n0, am_n1, am_n2, am_n3, am_n4, am_t0, am_t1, am_t2, am_t3, am_t4, am_tm1, am_nS, am_nP, am_nM, Int.ofNat_lt, Int.ofNat_le]
  exact xk_work_loop (Nat.le_refl _) hK hB h hE hq hQ ss [] [] σ rfl .rf (Nat.le_refl _) (fun j v hj => by simp at hj) ⟨[v], hr, rfl⟩
