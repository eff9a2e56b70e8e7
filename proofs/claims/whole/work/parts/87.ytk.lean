/-! the reference's tokens against x's -/
def yvr : List Nat → Nat
  | [] => 0
  | c :: r => 32 * yvr r + (c - 96)
def yla (c : Nat) : Prop := 97 ≤ c ∧ c ≤ 122
theorem yvr_lt : ∀ r : List Nat, (∀ c, c ∈ r → yla c) → yvr r < 32 ^ r.length
  | [], _ => by decide
  | c :: r, h => by
    have h1 := yvr_lt r (fun c hc => h c (List.mem_cons_of_mem _ hc))
    have h2 := h c List.mem_cons_self
    unfold yla at h2
    rw [yvr, List.length_cons, Nat.pow_succ]
    omega
theorem yvr_inj : ∀ r r' : List Nat, (∀ c, c ∈ r → yla c) → (∀ c, c ∈ r' → yla c) → yvr r = yvr r' → r = r'
  | [], [], _, _, _ => rfl
  | [], c :: r', _, h', e => by
    have h2 := h' c List.mem_cons_self
    unfold yla at h2
    rw [yvr, yvr] at e
    omega
  | c :: r, [], h, _, e => by
    have h2 := h c List.mem_cons_self
    unfold yla at h2
    rw [yvr, yvr] at e
    omega
  | c :: r, c' :: r', h, h', e => by
    have h2 := h c List.mem_cons_self
    have h3 := h' c' List.mem_cons_self
    unfold yla at h2 h3
    rw [yvr, yvr] at e
    have e1 : c = c' := by omega
    have e2 : yvr r = yvr r' := by omega
    rw [e1, yvr_inj r r' (fun c hc => h c (List.mem_cons_of_mem _ hc)) (fun c hc => h' c (List.mem_cons_of_mem _ hc)) e2]
theorem yw_c_app (w : List Nat) (c : Nat) : yw_c (w ++ [c]) = 32 * yw_c w + nI c - 96 := by
  unfold yw_c
  rw [List.foldl_append]
  rfl
theorem yw_c_rev : ∀ r : List Nat, (∀ c, c ∈ r → yla c) → yw_c r.reverse = nI (yvr r)
  | [], _ => rfl
  | c :: r, h => by
    have h2 := h c List.mem_cons_self
    unfold yla at h2
    have e32 : (32 : Int32) = nI 32 := rfl
    have e96 : (96 : Int32) = nI 96 := rfl
    rw [List.reverse_cons, yw_c_app, yw_c_rev r (fun c hc => h c (List.mem_cons_of_mem _ hc)), yvr, e32, e96, pk_mul, nI_add, pk_sub (by omega)]
    congr 1
    omega
theorem yw_c_eq {w w' : List Nat} (h : ∀ c, c ∈ w → yla c) (h' : ∀ c, c ∈ w' → yla c) (hl : w.length ≤ 6) (hl' : w'.length ≤ 6) (e : yw_c w = yw_c w') : w = w' := by
  have r : ∀ v : List Nat, (∀ c, c ∈ v → yla c) → v.length ≤ 6 → yw_c v = nI (yvr v.reverse) ∧ yvr v.reverse < 2 ^ 31 := by
    intro v hv hl
    have hv' : ∀ c, c ∈ v.reverse → yla c := fun c hc => hv c (List.mem_reverse.mp hc)
    have h1 := yw_c_rev v.reverse hv'
    rw [List.reverse_reverse] at h1
    have h2 := yvr_lt v.reverse hv'
    rw [List.length_reverse] at h2
    have h3 : 32 ^ v.length ≤ 32 ^ 6 := Nat.pow_le_pow_right (by decide) hl
    exact ⟨h1, Nat.lt_of_lt_of_le (Nat.lt_of_lt_of_le h2 h3) (by decide)⟩
  obtain ⟨a1, a2⟩ := r w h hl
  obtain ⟨b1, b2⟩ := r w' h' hl'
  rw [a1, b1, nI_inj a2 b2] at e
  have := yvr_inj _ _ (fun c hc => h c (List.mem_reverse.mp hc)) (fun c hc => h' c (List.mem_reverse.mp hc)) e
  have := congrArg List.reverse this
  rwa [List.reverse_reverse, List.reverse_reverse] at this
theorem xt_w19 : ∀ s, s < 19 → (∀ c, c ∈ xt_w s → 97 ≤ c ∧ c ≤ 122) ∧ (xt_w s).length ≤ 6 ∧ xt_of (xt_w s) = s ∧ yw_c (xt_w s) ≠ -1 := by decide +kernel
theorem xt_w37 : ∀ t, t < 37 → 19 ≤ t → ∀ c, (xt_w t).head? = some c → ¬ (97 ≤ c ∧ c ≤ 122) := by decide +kernel
theorem xt_wl : ∀ t, t < 37 → (xt_w t).length ≤ 6 := by decide +kernel
/-- a word -/
theorem ytk_word {w : List Nat} (h : ∀ c, c ∈ w → yla c) (h0 : w ≠ []) : yw_ok 1 (if w.length ≤ 6 then yw_c w else -1) (xt_of w) 0 := by
  have hlt := xt_fd_lt w 37 0 rfl
  have hlt : xt_of w < 37 := hlt
  have key : xt_of w = 35 → ∀ s, s < 19 → (if w.length ≤ 6 then yw_c w else -1) ≠ yw_c (xt_w s) := by
    intro e s hs q
    obtain ⟨a1, a2, a3, a4⟩ := xt_w19 s hs
    split at q
    · rename_i hl
      have := yw_c_eq h a1 hl a2 q
      rw [this, a3] at e
      omega
    · exact a4 q.symm
  rcases xt_of_w w with e | e
  · exact Or.inr (Or.inr (Or.inr (Or.inr (Or.inr ⟨e, rfl, key e⟩))))
  · by_cases c : xt_of w < 19
    · refine Or.inr (Or.inr (Or.inr (Or.inr (Or.inl ⟨c, rfl, ?_⟩))))
      have := xt_wl _ hlt
      rw [e] at this
      rw [if_pos this, e]
    · exfalso
      cases w with
      | nil => exact h0 rfl
      | cons x w => exact xt_w37 _ hlt (by omega) x (by rw [e]; rfl) (h x List.mem_cons_self)
def ysg (c : Nat) : Bool := (decide (40 ≤ c) && decide (c ≤ 46)) || decide (c = 61) || decide (c = 60) || decide (c = 62) || decide (c = 91) || decide (c = 93)
theorem ytk_sign : ∀ c, c < 128 → ysg c = true → 21 ≤ xt_of [c] ∧ xt_of [c] ≤ 32 ∧ c = yw_s (xt_of [c]) ∧ xn_kd c = 0 ∧ c ≠ 65 ∧ c ≠ 66 := by decide +kernel
theorem ytk_oth : ∀ c, c < 128 → ysg c = false → c ≠ 65 → c ≠ 66 → xn_kd c = 0 → xt_of [c] = 35 := by decide +kernel
theorem ytk_AB : xt_of [65] = 19 ∧ xt_of [66] = 20 ∧ xn_kd 65 = 0 ∧ xn_kd 66 = 0 ∧ ysg 65 = false ∧ ysg 66 = false ∧ xn_kd 32 = 0 ∧ ysg 32 = false := by decide +kernel
theorem ytk_ls : ∀ c, c < 128 → xn_kd c ≠ 0 → ysg c = false ∧ c ≠ 65 ∧ c ≠ 66 ∧ c ≠ 32 := by decide +kernel
def yd (w : List Nat) : Int32 := w.foldl (fun v c => 10 * v + nI c - 48) 0
theorem yd_app (w : List Nat) (c : Nat) : yd (w ++ [c]) = 10 * yd w + nI c - 48 := by
  unfold yd
  rw [List.foldl_append]
  rfl
theorem yd_num (w : List Nat) : xn_num w = yd w := by
  unfold xn_num yd
  congr 1
  funext n c
  rw [Int32.mul_comm, Int32.sub_eq_add_neg, Int32.sub_eq_add_neg, Int32.add_assoc]
theorem xn_sc_drop : ∀ (r : List Nat) (k : Nat), xn_sc r k = xn_sc (r.drop k) 0
  | [], k => by rw [List.drop_nil, xn_sc, xn_sc]
  | c :: r, 0 => rfl
  | c :: r, k + 1 => by rw [xn_sc, List.drop_succ_cons]; exact xn_sc_drop r k
theorem xn_tw (c : Nat) (r : List Nat) (h : xn_kd c ≠ 0) : c :: r.take (xn_run c r) = (c :: r).takeWhile (fun x => xn_kd x == xn_kd c) := by
  unfold xn_run
  rw [if_neg h, List.takeWhile_cons, if_pos (by simp)]
  congr 1
  exact (List.prefix_iff_eq_take.mp (List.takeWhile_prefix _)).symm
