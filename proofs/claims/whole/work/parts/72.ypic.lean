/-! ===== the reference's parser on the machine: pictures ===== -/
/-- a word as a number -/
def yw_c (w : List Nat) : Int32 := w.foldl (fun v c => 32 * v + nI c - 96) 0
def yw_s (t : Nat) : Nat := (xt_w t).getD 0 0
/-- the reference's token (kind, worth) against x's -/
def yw_ok (k w : Int32) (t : Nat) (o : Int32) : Prop :=
  (t = 36 ∧ k = 0) ∨ (t = 33 ∧ k = 3 ∧ w = o) ∨ ((t = 19 ∨ t = 20) ∧ k = 2 ∧ w = nI (t - 19)) ∨ (21 ≤ t ∧ t ≤ 32 ∧ k = 4 ∧ w = nI (yw_s t)) ∨ (t < 19 ∧ k = 1 ∧ w = yw_c (xt_w t)) ∨ (t = 35 ∧ k = 1 ∧ ∀ s, s < 19 → w ≠ yw_c (xt_w s))
theorem yw_c_inj : ∀ s, s < 19 → ∀ t, t < 19 → yw_c (xt_w s) = yw_c (xt_w t) → s = t := by decide +kernel
theorem yw_s_inj : ∀ s, 21 ≤ s → s ≤ 32 → ∀ t, 21 ≤ t → t ≤ 32 → yw_s s = yw_s t → s = t := by
  have key : ∀ s, s < 33 → ∀ t, t < 33 → 21 ≤ s → 21 ≤ t → yw_s s = yw_s t → s = t := by decide +kernel
  intro s a b t c d e
  exact key s (by omega) t (by omega) a c e
theorem yw_s_lt : ∀ t, t < 37 → yw_s t < 128 := by decide +kernel
theorem yw_k : ¬ (1 : Int32) = 4 ∧ ¬ (2 : Int32) = 4 ∧ ¬ (3 : Int32) = 4 ∧ ¬ (0 : Int32) = 4 ∧ ¬ (4 : Int32) = 1 ∧ ¬ (2 : Int32) = 1 ∧ ¬ (3 : Int32) = 1 ∧ ¬ (0 : Int32) = 1 ∧ ¬ (1 : Int32) = 2 ∧ ¬ (3 : Int32) = 2 ∧ ¬ (4 : Int32) = 2 ∧ ¬ (0 : Int32) = 2 ∧ ¬ (1 : Int32) = 3 ∧ ¬ (2 : Int32) = 3 ∧ ¬ (4 : Int32) = 3 ∧ ¬ (0 : Int32) = 3 := by decide
/-- is it the sign t? -/
theorem yw_ok.sign {k w : Int32} {t s : Nat} {o : Int32} (h : yw_ok k w t o) (h1 : 21 ≤ s) (h2 : s ≤ 32) : (k = 4 ∧ w = nI (yw_s s)) ↔ t = s := by
  constructor
  · rintro ⟨rfl, rfl⟩
    rcases h with ⟨_, h⟩ | ⟨_, h, _⟩ | ⟨_, h, _⟩ | ⟨a, b, _, h⟩ | ⟨_, h, _⟩ | ⟨_, h, _⟩
    · exact absurd h (by decide)
    · exact absurd h (by decide)
    · exact absurd h (by decide)
    · have l1 := yw_s_lt s (by omega)
      have l2 := yw_s_lt t (by omega)
      exact yw_s_inj t a b s h1 h2 ((nI_inj (by omega) (by omega)).mp h).symm
    · exact absurd h (by decide)
    · exact absurd h (by decide)
  · rintro rfl
    rcases h with ⟨_, _⟩ | ⟨_, _, _⟩ | ⟨_, _, _⟩ | ⟨a, b, c, d⟩ | ⟨_, _, _⟩ | ⟨_, _, _⟩
    · omega
    · omega
    · omega
    · exact ⟨c, d⟩
    · omega
    · omega
/-- is it the word t? -/
theorem yw_ok.word {k w : Int32} {t s : Nat} {o : Int32} (h : yw_ok k w t o) (h1 : s < 19) : (k = 1 ∧ w = yw_c (xt_w s)) ↔ t = s := by
  constructor
  · rintro ⟨rfl, rfl⟩
    rcases h with ⟨_, h⟩ | ⟨_, h, _⟩ | ⟨_, h, _⟩ | ⟨a, b, h, _⟩ | ⟨a, _, b⟩ | ⟨_, _, h⟩
    · exact absurd h (by decide)
    · exact absurd h (by decide)
    · exact absurd h (by decide)
    · exact absurd h (by decide)
    · exact (yw_c_inj s h1 t a b).symm
    · exact absurd rfl (h s h1)
  · rintro rfl
    rcases h with ⟨_, _⟩ | ⟨_, _, _⟩ | ⟨_, _, _⟩ | ⟨_, _, _⟩ | ⟨a, c, d⟩ | ⟨_, _, _⟩
    · omega
    · omega
    · omega
    · omega
    · exact ⟨c, d⟩
    · omega
theorem yw_ok.isW {k w : Int32} {t : Nat} {o : Int32} (h : yw_ok k w t o) : k = 1 ↔ yp_isW t = true := by
  unfold yp_isW
  rcases h with ⟨a, b⟩ | ⟨a, b, _⟩ | ⟨a, b, _⟩ | ⟨a, a', b, _⟩ | ⟨a, b, _⟩ | ⟨a, b, _⟩ <;> rw [b] <;> simp <;> omega
theorem yw_ok.name {k w : Int32} {t : Nat} {o : Int32} (h : yw_ok k w t o) : k = 2 ↔ (t = 19 ∨ t = 20) := by
  rcases h with ⟨a, b⟩ | ⟨a, b, _⟩ | ⟨a, b, _⟩ | ⟨a, a', b, _⟩ | ⟨a, b, _⟩ | ⟨a, b, _⟩ <;> rw [b] <;> simp <;> omega
theorem yw_ok.num {k w : Int32} {t : Nat} {o : Int32} (h : yw_ok k w t o) : k = 3 ↔ t = 33 := by
  rcases h with ⟨a, b⟩ | ⟨a, b, _⟩ | ⟨a, b, _⟩ | ⟨a, a', b, _⟩ | ⟨a, b, _⟩ | ⟨a, b, _⟩ <;> rw [b] <;> simp <;> omega
theorem yw_ok.wn {k w : Int32} {t : Nat} {o : Int32} (h : yw_ok k w t o) (ht : t = 19 ∨ t = 20) : w = nI (t - 19) := by
  rcases h with ⟨a, b⟩ | ⟨a, b, _⟩ | ⟨a, b, c⟩ | ⟨a, a', b, _⟩ | ⟨a, b, _⟩ | ⟨a, b, _⟩
  · omega
  · omega
  · exact c
  · omega
  · omega
  · omega
theorem yw_ok.wi {k w : Int32} {t : Nat} {o : Int32} (h : yw_ok k w t o) (ht : t = 33) : w = o := by
  rcases h with ⟨a, b⟩ | ⟨a, b, c⟩ | ⟨a, b, _⟩ | ⟨a, a', b, _⟩ | ⟨a, b, _⟩ | ⟨a, b, _⟩
  · omega
  · exact c
  · omega
  · omega
  · omega
  · omega
/-- the tokens lie in the reference -/
def yb_T (σ : am_S) (m : Nat) (ts : List (Nat × Int32)) : Prop := ts.length ≤ 81 ∧ ∀ i, i < ts.length → yw_ok (am_i σ (m + 10) i) (am_i σ (m + 11) i) (xp_hd ts i) (xp_nm ts i)
/-- a code's operand, as it is written -/
def yκ (q : Nat × Int32) : Int32 := if q.1 = 2 then nI (if q.2.toNatClampNeg / 4 = 2 then q.2.toNatClampNeg % 4 else q.2.toNatClampNeg + 4) else q.2
def yb_o (σ : am_S) (m : Nat) (o : yp_O) : Prop := am_i σ m 18 = nI o.length ∧ ∀ j q, o[j]? = some q → am_i σ (m + 12) j = nI q.1 ∧ am_i σ (m + 13) j = yκ q ∧ q.1 < 100
def yb_w (σ : am_S) (m : Nat) (W : List Nat) : Prop := am_i σ m 19 = nI W.length ∧ ∀ j w, W.reverse[j]? = some w → am_i σ (m + 14) j = nI w
def yb_h (σ : am_S) (m : Nat) (W : List Nat) : Prop := am_i σ m 20 = nI W.length ∧ ∀ j w, W.reverse[j]? = some w → am_i σ (m + 15) j = nI w
/-- place, bad, codes, what waits, what is held, nests, outer nests, is an F wanted -/
def yb_P (σ : am_S) (m a : Nat) (b : Bool) (o : yp_O) (W H : List Nat) (ns ou : Int32) (w : Bool) : Prop :=
  am_i σ m 12 = nI a ∧ am_i σ m 13 = yb b ∧ yb_o σ m o ∧ yb_w σ m W ∧ yb_h σ m H ∧ am_i σ m 21 = ns ∧ am_i σ m 22 = ou ∧ am_i σ m 23 = yb w
def yb_f (m : Nat) (σ σ' : am_S) : Prop := ym_f (fun b => b = m ∨ (m + 12 ≤ b ∧ b ≤ m + 15)) σ σ' ∧ ∀ k, k < 12 ∨ 23 < k → am_i σ' m k = am_i σ m k
theorem yb_f.rf {m : Nat} {σ : am_S} : yb_f m σ σ := ⟨.rf, fun _ _ => rfl⟩
theorem yb_f.tr {m : Nat} {σ σ' σ'' : am_S} (h : yb_f m σ σ') (h' : yb_f m σ' σ'') : yb_f m σ σ'' := ⟨h.1.tr h'.1, fun k hk => (h'.2 k hk).trans (h.2 k hk)⟩
theorem yb_f.wf {m k : Nat} {σ σ' : am_S} {v : Int32} (h : yb_f m σ σ') (hk : 12 ≤ k) (hk2 : k ≤ 23) : yb_f m σ (am_wi σ' m k v) := h.tr ⟨ym_f.rf.wi (a := m) (Or.inl rfl), fun q hq => by rw [ym_ij (by omega)]⟩
theorem yb_f.wa {m a k : Nat} {σ σ' : am_S} {v : Int32} (h : yb_f m σ σ') (h1 : m + 12 ≤ a) (h2 : a ≤ m + 15) : yb_f m σ (am_wi σ' a k v) := h.tr ⟨ym_f.rf.wi (a := a) (Or.inr ⟨h1, h2⟩), fun q hq => by rw [ym_io (by omega)]⟩
theorem yb_f.tp {m : Nat} {σ σ' : am_S} (h : yb_f m σ σ') : am_tp σ' = am_tp σ := h.1.tp
theorem yb_f.us {m : Nat} {σ σ' : am_S} (h : yb_f m σ σ') : am_us σ' = am_us σ := h.1.us
theorem yb_f.H {m : Nat} {σ σ' : am_S} (h : yb_f m σ σ') (hH : ym_H σ m) : ym_H σ' m := hH.f h.1
theorem yb_T.f {m : Nat} {σ σ' : am_S} {ts : List (Nat × Int32)} (h : yb_T σ m ts) (hf : yb_f m σ σ') : yb_T σ' m ts := by
  unfold yb_T
  rw [hf.1.i (show ¬ (m + 10 = m ∨ (m + 12 ≤ m + 10 ∧ m + 10 ≤ m + 15)) by omega), hf.1.i (show ¬ (m + 11 = m ∨ (m + 12 ≤ m + 11 ∧ m + 11 ≤ m + 15)) by omega)]
  exact h
theorem yb_o.w {σ : am_S} {m a k : Nat} {v : Int32} {o : yp_O} (h : yb_o σ m o) (h1 : ¬ (a = m ∧ k = 18)) (h2 : a ≠ m + 12) (h3 : a ≠ m + 13) : yb_o (am_wi σ a k v) m o := by
  refine ⟨?_, fun j q hj => ?_⟩
  · rw [am_i_wi, if_neg (fun z => h1 ⟨z.1.symm, z.2.symm⟩)]; exact h.1
  · rw [ym_io (fun e => h2 e.symm), ym_io (fun e => h3 e.symm)]; exact h.2 j q hj
theorem yb_w.w {σ : am_S} {m a k : Nat} {v : Int32} {W : List Nat} (h : yb_w σ m W) (h1 : ¬ (a = m ∧ k = 19)) (h2 : a ≠ m + 14) : yb_w (am_wi σ a k v) m W := by
  refine ⟨?_, fun j q hj => ?_⟩
  · rw [am_i_wi, if_neg (fun z => h1 ⟨z.1.symm, z.2.symm⟩)]; exact h.1
  · rw [ym_io (fun e => h2 e.symm)]; exact h.2 j q hj
theorem yb_h.w {σ : am_S} {m a k : Nat} {v : Int32} {W : List Nat} (h : yb_h σ m W) (h1 : ¬ (a = m ∧ k = 20)) (h2 : a ≠ m + 15) : yb_h (am_wi σ a k v) m W := by
  refine ⟨?_, fun j q hj => ?_⟩
  · rw [am_i_wi, if_neg (fun z => h1 ⟨z.1.symm, z.2.symm⟩)]; exact h.1
  · rw [ym_io (fun e => h2 e.symm)]; exact h.2 j q hj
theorem yb_P.at {σ : am_S} {m a : Nat} {b : Bool} {o : yp_O} {W H : List Nat} {ns ou : Int32} {w : Bool} (h : yb_P σ m a b o W H ns ou w) (a' : Nat) : yb_P (am_wi σ m 12 (nI a')) m a' b o W H ns ou w := by
  obtain ⟨h1, h2, h3, h4, h5, h6, h7, h8⟩ := h
  exact ⟨ym_is, by rw [ym_ij (by decide)]; exact h2, h3.w (by omega) (by omega) (by omega), h4.w (by omega) (by omega), h5.w (by omega) (by omega), by rw [ym_ij (by decide)]; exact h6, by rw [ym_ij (by decide)]; exact h7, by rw [ym_ij (by decide)]; exact h8⟩
theorem yb_P.bd {σ : am_S} {m a : Nat} {b : Bool} {o : yp_O} {W H : List Nat} {ns ou : Int32} {w : Bool} (h : yb_P σ m a b o W H ns ou w) (b' : Bool) : yb_P (am_wi σ m 13 (yb b')) m a b' o W H ns ou w := by
  obtain ⟨h1, h2, h3, h4, h5, h6, h7, h8⟩ := h
  exact ⟨by rw [ym_ij (by decide)]; exact h1, ym_is, h3.w (by omega) (by omega) (by omega), h4.w (by omega) (by omega), h5.w (by omega) (by omega), by rw [ym_ij (by decide)]; exact h6, by rw [ym_ij (by decide)]; exact h7, by rw [ym_ij (by decide)]; exact h8⟩
theorem yb_P.nsw {σ : am_S} {m a : Nat} {b : Bool} {o : yp_O} {W H : List Nat} {ns ou : Int32} {w : Bool} (h : yb_P σ m a b o W H ns ou w) (ns' : Int32) : yb_P (am_wi σ m 21 ns') m a b o W H ns' ou w := by
  obtain ⟨h1, h2, h3, h4, h5, h6, h7, h8⟩ := h
  exact ⟨by rw [ym_ij (by decide)]; exact h1, by rw [ym_ij (by decide)]; exact h2, h3.w (by omega) (by omega) (by omega), h4.w (by omega) (by omega), h5.w (by omega) (by omega), ym_is, by rw [ym_ij (by decide)]; exact h7, by rw [ym_ij (by decide)]; exact h8⟩
theorem yb_P.ouw {σ : am_S} {m a : Nat} {b : Bool} {o : yp_O} {W H : List Nat} {ns ou : Int32} {w : Bool} (h : yb_P σ m a b o W H ns ou w) (ou' : Int32) : yb_P (am_wi σ m 22 ou') m a b o W H ns ou' w := by
  obtain ⟨h1, h2, h3, h4, h5, h6, h7, h8⟩ := h
  exact ⟨by rw [ym_ij (by decide)]; exact h1, by rw [ym_ij (by decide)]; exact h2, h3.w (by omega) (by omega) (by omega), h4.w (by omega) (by omega), h5.w (by omega) (by omega), by rw [ym_ij (by decide)]; exact h6, ym_is, by rw [ym_ij (by decide)]; exact h8⟩
theorem yb_P.wt {σ : am_S} {m a : Nat} {b : Bool} {o : yp_O} {W H : List Nat} {ns ou : Int32} {w : Bool} (h : yb_P σ m a b o W H ns ou w) (w' : Bool) : yb_P (am_wi σ m 23 (yb w')) m a b o W H ns ou w' := by
  obtain ⟨h1, h2, h3, h4, h5, h6, h7, h8⟩ := h
  exact ⟨by rw [ym_ij (by decide)]; exact h1, by rw [ym_ij (by decide)]; exact h2, h3.w (by omega) (by omega) (by omega), h4.w (by omega) (by omega), h5.w (by omega) (by omega), by rw [ym_ij (by decide)]; exact h6, by rw [ym_ij (by decide)]; exact h7, ym_is⟩
theorem rev_get {W : List Nat} {w j x : Nat} (h : (w :: W).reverse[j]? = some x) : (j < W.length ∧ W.reverse[j]? = some x) ∨ (j = W.length ∧ x = w) := by
  rw [List.reverse_cons, List.getElem?_append] at h
  rw [List.length_reverse] at h
  split at h
  · rename_i q
    exact Or.inl ⟨q, h⟩
  · rename_i q
    by_cases e : j = W.length
    · subst e
      rw [Nat.sub_self] at h
      simp at h
      exact Or.inr ⟨rfl, h.symm⟩
    · rw [List.getElem?_eq_none (by simp; omega)] at h
      cases h
theorem rev_top {W : List Nat} {w : Nat} : (w :: W).reverse[W.length]? = some w := by
  rw [List.reverse_cons, List.getElem?_append_right (by rw [List.length_reverse]; exact Nat.le_refl _), List.length_reverse, Nat.sub_self]
  rfl
theorem rev_low {W : List Nat} {w j x : Nat} (h : W.reverse[j]? = some x) : (w :: W).reverse[j]? = some x := by
  have := (List.getElem?_eq_some_iff.mp h).1
  rw [List.reverse_cons, List.getElem?_append_left this]
  exact h
/-- one more waits -/
theorem yb_P.push {σ : am_S} {m a x : Nat} {b : Bool} {o : yp_O} {W H : List Nat} {ns ou : Int32} {w : Bool} (h : yb_P σ m a b o W H ns ou w) : yb_P (am_wi (am_wi σ (m + 14) W.length (nI x)) m 19 (nI (W.length + 1))) m a b o (x :: W) H ns ou w := by
  obtain ⟨h1, h2, h3, h4, h5, h6, h7, h8⟩ := h
  refine ⟨by rw [ym_ij (by decide), ym_io (by omega)]; exact h1, by rw [ym_ij (by decide), ym_io (by omega)]; exact h2, (h3.w (by omega) (by omega) (by omega)).w (by omega) (by omega) (by omega), ⟨ym_is, fun j y hj => ?_⟩, (h5.w (by omega) (by omega)).w (by omega) (by omega), by rw [ym_ij (by decide), ym_io (by omega)]; exact h6, by rw [ym_ij (by decide), ym_io (by omega)]; exact h7, by rw [ym_ij (by decide), ym_io (by omega)]; exact h8⟩
  rw [ym_io (by omega)]
  rcases rev_get hj with ⟨q1, q2⟩ | ⟨q1, q2⟩
  · rw [ym_ij (by omega)]; exact h4.2 j y q2
  · rw [q1, q2, ym_is]
theorem yb_P.pop {σ : am_S} {m a x : Nat} {b : Bool} {o : yp_O} {W H : List Nat} {ns ou : Int32} {w : Bool} (h : yb_P σ m a b o (x :: W) H ns ou w) : yb_P (am_wi σ m 19 (nI W.length)) m a b o W H ns ou w ∧ am_i σ (m + 14) W.length = nI x := by
  obtain ⟨h1, h2, h3, h4, h5, h6, h7, h8⟩ := h
  refine ⟨⟨by rw [ym_ij (by decide)]; exact h1, by rw [ym_ij (by decide)]; exact h2, h3.w (by omega) (by omega) (by omega), ⟨ym_is, fun j y hj => ?_⟩, h5.w (by omega) (by omega), by rw [ym_ij (by decide)]; exact h6, by rw [ym_ij (by decide)]; exact h7, by rw [ym_ij (by decide)]; exact h8⟩, h4.2 _ _ rev_top⟩
  rw [ym_io (by omega)]
  exact h4.2 j y (rev_low hj)
theorem yb_P.hpush {σ : am_S} {m a x : Nat} {b : Bool} {o : yp_O} {W H : List Nat} {ns ou : Int32} {w : Bool} (h : yb_P σ m a b o W H ns ou w) : yb_P (am_wi (am_wi σ (m + 15) H.length (nI x)) m 20 (nI (H.length + 1))) m a b o W (x :: H) ns ou w := by
  obtain ⟨h1, h2, h3, h4, h5, h6, h7, h8⟩ := h
  refine ⟨by rw [ym_ij (by decide), ym_io (by omega)]; exact h1, by rw [ym_ij (by decide), ym_io (by omega)]; exact h2, (h3.w (by omega) (by omega) (by omega)).w (by omega) (by omega) (by omega), (h4.w (by omega) (by omega)).w (by omega) (by omega), ⟨ym_is, fun j y hj => ?_⟩, by rw [ym_ij (by decide), ym_io (by omega)]; exact h6, by rw [ym_ij (by decide), ym_io (by omega)]; exact h7, by rw [ym_ij (by decide), ym_io (by omega)]; exact h8⟩
  rw [ym_io (by omega)]
  rcases rev_get hj with ⟨q1, q2⟩ | ⟨q1, q2⟩
  · rw [ym_ij (by omega)]; exact h5.2 j y q2
  · rw [q1, q2, ym_is]
theorem yb_P.hpop {σ : am_S} {m a x : Nat} {b : Bool} {o : yp_O} {W H : List Nat} {ns ou : Int32} {w : Bool} (h : yb_P σ m a b o W (x :: H) ns ou w) : yb_P (am_wi σ m 20 (nI H.length)) m a b o W H ns ou w ∧ am_i σ (m + 15) H.length = nI x := by
  obtain ⟨h1, h2, h3, h4, h5, h6, h7, h8⟩ := h
  refine ⟨⟨by rw [ym_ij (by decide)]; exact h1, by rw [ym_ij (by decide)]; exact h2, h3.w (by omega) (by omega) (by omega), h4.w (by omega) (by omega), ⟨ym_is, fun j y hj => ?_⟩, by rw [ym_ij (by decide)]; exact h6, by rw [ym_ij (by decide)]; exact h7, by rw [ym_ij (by decide)]; exact h8⟩, h5.2 _ _ rev_top⟩
  rw [ym_io (by omega)]
  exact h5.2 j y (rev_low hj)
theorem yb_P.emit {σ : am_S} {m a : Nat} {q : Nat × Int32} {b : Bool} {o : yp_O} {W H : List Nat} {ns ou : Int32} {w : Bool} (h : yb_P σ m a b o W H ns ou w) (hq1 : q.1 < 100) : yb_P (am_wi (am_wi (am_wi σ (m + 12) o.length (nI q.1)) (m + 13) o.length (yκ q)) m 18 (nI (o.length + 1))) m a b (o ++ [q]) W H ns ou w := by
  obtain ⟨h1, h2, h3, h4, h5, h6, h7, h8⟩ := h
  have f : ∀ k, k ≠ 18 → am_i (am_wi (am_wi (am_wi σ (m + 12) o.length (nI q.1)) (m + 13) o.length (yκ q)) m 18 (nI (o.length + 1))) m k = am_i σ m k := fun k hk => by rw [ym_ij hk, ym_io (by omega), ym_io (by omega)]
  refine ⟨by rw [f _ (by decide)]; exact h1, by rw [f _ (by decide)]; exact h2, ⟨?_, fun j p hj => ?_⟩, ((h4.w (by omega) (by omega)).w (by omega) (by omega)).w (by omega) (by omega), ((h5.w (by omega) (by omega)).w (by omega) (by omega)).w (by omega) (by omega), by rw [f _ (by decide)]; exact h6, by rw [f _ (by decide)]; exact h7, by rw [f _ (by decide)]; exact h8⟩
  · rw [ym_is, List.length_append]
    rfl
  · have g12 : am_i (am_wi (am_wi (am_wi σ (m + 12) o.length (nI q.1)) (m + 13) o.length (yκ q)) m 18 (nI (o.length + 1))) (m + 12) j = am_i (am_wi σ (m + 12) o.length (nI q.1)) (m + 12) j := by rw [ym_io (by omega), ym_io (by omega)]
    have g13 : am_i (am_wi (am_wi (am_wi σ (m + 12) o.length (nI q.1)) (m + 13) o.length (yκ q)) m 18 (nI (o.length + 1))) (m + 13) j = am_i (am_wi (am_wi σ (m + 12) o.length (nI q.1)) (m + 13) o.length (yκ q)) (m + 13) j := by rw [ym_io (by omega)]
    rw [g12, g13]
    rw [List.getElem?_append] at hj
    split at hj
    · rename_i c
      rw [ym_ij (by omega), ym_ij (by omega), ym_io (by omega)]
      exact h3.2 j p hj
    · rename_i c
      by_cases e : j = o.length
      · subst e
        rw [Nat.sub_self] at hj
        simp at hj
        rw [ym_is, ym_is, hj]
        exact ⟨rfl, rfl, by rw [← hj]; exact hq1⟩
      · rw [List.getElem?_eq_none (by simp; omega)] at hj
        cases hj
