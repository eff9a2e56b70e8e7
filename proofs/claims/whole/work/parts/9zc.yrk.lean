/-! select: the rank by counting is the place in the stable insertion sort -/
theorem yah_iff (down : Bool) (K : Nat → Int32) (a b : Nat) : yah down K a b = true ↔ ((K a).toInt = (K b).toInt ∧ a < b) ∨ (down = false ∧ (K a).toInt < (K b).toInt) ∨ (down = true ∧ (K b).toInt < (K a).toInt) := by
  unfold yah
  by_cases e : K a = K b
  · rw [if_pos e, e, decide_eq_true_iff]
    omega
  · have e' : (K a).toInt ≠ (K b).toInt := fun z => e (Int32.toInt_inj.mp z)
    rw [if_neg e]
    cases down with
    | false => rw [Bool.bne_false, decide_eq_true_iff]; simp; omega
    | true =>
      by_cases q : (K a).toInt < (K b).toInt
      · rw [decide_eq_true q]; simp; omega
      · rw [decide_eq_false q]; simp; omega
theorem xl_lt_iff (down : Bool) (K : Nat → Int32) (a b : Nat) : xl_lt down K a b = true ↔ (down = false ∧ (K a).toInt < (K b).toInt) ∨ (down = true ∧ (K b).toInt < (K a).toInt) := by
  unfold xl_lt
  cases down <;> simp
theorem yah_tr {down : Bool} {K : Nat → Int32} {a b c : Nat} (h : yah down K a b = true) (h' : yah down K b c = true) : yah down K a c = true := by
  rw [yah_iff] at h h' ⊢
  cases down <;> simp only [Bool.false_eq_true, reduceCtorEq, true_and, false_and, or_false, false_or] at h h' ⊢ <;> omega
theorem yah_no {down : Bool} {K : Nat → Int32} {a b : Nat} (h : yah down K a b = true) : yah down K b a = false := by
  rw [← Bool.not_eq_true, yah_iff]
  rw [yah_iff] at h
  cases down <;> simp only [Bool.false_eq_true, reduceCtorEq, true_and, false_and, or_false, false_or] at h ⊢ <;> omega
theorem yah_self {down : Bool} {K : Nat → Int32} {a : Nat} : yah down K a a = false := by
  rw [← Bool.not_eq_true, yah_iff]
  omega
theorem yah_ext {down : Bool} {K K' : Nat → Int32} {a b : Nat} (ha : K a = K' a) (hb : K b = K' b) : yah down K a b = yah down K' a b := by
  unfold yah
  rw [ha, hb]
theorem xl_ps_spec (lt : Nat → Nat → Bool) (gp : Nat) (SO : List Nat) : ∀ n, (∀ q, xl_ps lt gp SO n ≤ q → q < n → lt gp (SO.getD q 0) = true) ∧ (∀ q, xl_ps lt gp SO n = q + 1 → lt gp (SO.getD q 0) = false)
  | 0 => ⟨fun q _ h => absurd h (Nat.not_lt_zero _), fun q h => by cases h⟩
  | n + 1 => by
    obtain ⟨h1, h2⟩ := xl_ps_spec lt gp SO n
    rw [xl_ps]
    by_cases c : lt gp (SO.getD n 0) = true
    · rw [if_pos c]
      refine ⟨fun q a b => ?_, h2⟩
      by_cases e : q = n
      · rw [e]; exact c
      · exact h1 q a (by omega)
    · rw [if_neg c]
      refine ⟨fun q a b => by omega, fun q e => ?_⟩
      have : q = n := by omega
      rw [this]
      simpa using c
/-- sorted, and all of them -/
def ysr (down : Bool) (K : Nat → Int32) (gp : Nat) (SO : List Nat) : Prop := SO.Perm (List.range gp) ∧ SO.Pairwise (fun a b => yah down K a b = true)
theorem ysr.step {down : Bool} {K : Nat → Int32} {gp : Nat} {SO : List Nat} (h : ysr down K gp SO) : ysr down K (gp + 1) (xl_pu SO (xl_ps (xl_lt down K) gp SO SO.length) gp) := by
  obtain ⟨h1, h2⟩ := h
  have hlt : ∀ a, a ∈ SO → a < gp := fun a ha => List.mem_range.mp ((h1.mem_iff).mp ha)
  obtain ⟨s1, s2⟩ := xl_ps_spec (xl_lt down K) gp SO SO.length
  have hp := xl_ps_le (xl_lt down K) gp SO SO.length
  generalize xl_ps (xl_lt down K) gp SO SO.length = p at *
  have hsp : SO.take p ++ SO.drop p = SO := List.take_append_drop p SO
  have h2' := h2
  rw [← hsp, List.pairwise_append] at h2'
  obtain ⟨t1, t2, t3⟩ := h2'
  unfold xl_pu
  refine ⟨?_, ?_⟩
  · rw [List.range_succ]
    refine List.Perm.trans List.perm_middle ?_
    rw [hsp]
    refine List.Perm.trans (List.Perm.cons gp h1) ?_
    exact (List.perm_append_singleton gp (List.range gp)).symm
  · have hb : ∀ b, b ∈ SO.drop p → yah down K gp b = true := by
      intro b hb
      obtain ⟨j, hj, e⟩ := List.mem_iff_getElem.mp hb
      rw [List.length_drop] at hj
      have := s1 (p + j) (by omega) (by omega)
      rw [List.getElem_drop] at e
      rw [List.getD_eq_getElem?_getD, List.getElem?_eq_getElem (by omega), e] at this
      have this : xl_lt down K gp b = true := this
      rw [xl_lt_iff] at this
      rw [yah_iff]
      cases down <;> simp only [Bool.false_eq_true, reduceCtorEq, true_and, false_and, or_false, false_or] at this ⊢ <;> omega
    have ha : ∀ a, a ∈ SO.take p → yah down K a gp = true := by
      intro a ha
      obtain ⟨j, hj, e⟩ := List.mem_iff_getElem.mp ha
      rw [List.length_take] at hj
      rw [List.getElem_take] at e
      obtain ⟨q, hq⟩ : ∃ q, p = q + 1 := ⟨p - 1, by omega⟩
      have hf := s2 q hq
      rw [List.getD_eq_getElem?_getD, List.getElem?_eq_getElem (by omega)] at hf
      have hf : xl_lt down K gp SO[q] = false := hf
      have hqg := hlt SO[q] (List.getElem_mem (by omega))
      have hqx : yah down K SO[q] gp = true := by
        rw [← Bool.not_eq_true, xl_lt_iff] at hf
        rw [yah_iff]
        cases down with
        | false =>
          have : ¬ (K gp).toInt < (K SO[q]).toInt := fun z => hf (Or.inl ⟨rfl, z⟩)
          simp only [Bool.false_eq_true, reduceCtorEq, true_and, false_and, or_false, false_or]
          omega
        | true =>
          have : ¬ (K SO[q]).toInt < (K gp).toInt := fun z => hf (Or.inr ⟨rfl, z⟩)
          simp only [Bool.false_eq_true, reduceCtorEq, true_and, false_and, or_false, false_or]
          omega
      by_cases ej : j = q
      · subst ej
        rw [← e]
        exact hqx
      · have := List.pairwise_iff_getElem.mp h2 j q (by omega) (by omega) (by omega)
        rw [e] at this
        exact yah_tr this hqx
    rw [List.pairwise_append]
    refine ⟨t1, List.pairwise_cons.mpr ⟨hb, t2⟩, fun a ha' b hb' => ?_⟩
    rcases List.mem_cons.mp hb' with e | e
    · rw [e]; exact ha a ha'
    · exact yah_tr (ha a ha') (hb b e)
theorem ysr.so {down : Bool} {K : Nat → Int32} : ∀ (n gp : Nat) (SO : List Nat), ysr down K gp SO → ysr down K (gp + n) (xl_so (xl_lt down K) n gp SO)
  | 0, _, _, h => h
  | n + 1, gp, SO, h => by
    rw [xl_so]
    have := ysr.so n (gp + 1) _ h.step
    rw [show gp + 1 + n = gp + (n + 1) by omega] at this
    exact this
def yrk (down : Bool) (K : Nat → Int32) (n a : Nat) : Nat := (List.range n).countP (fun b => yah down K b a)
theorem yrk_ext {down : Bool} {K K' : Nat → Int32} {n a : Nat} (h : ∀ b, b < n → K b = K' b) (ha : K a = K' a) : yrk down K n a = yrk down K' n a := by
  unfold yrk
  refine List.countP_congr (fun b hb => ?_)
  rw [yah_ext (h b (List.mem_range.mp hb)) ha]
theorem yrk_at {down : Bool} {K : Nat → Int32} {n : Nat} {SO : List Nat} (h : ysr down K n SO) : SO.length = n ∧ (∀ q, q < n → SO.getD q 0 < n ∧ yrk down K n (SO.getD q 0) = q) ∧ ∀ a, a < n → yrk down K n a < n ∧ SO.getD (yrk down K n a) 0 = a := by
  obtain ⟨h1, h2⟩ := h
  have hl : SO.length = n := by have := h1.length_eq; rwa [List.length_range] at this
  have key : ∀ q, q < n → SO.getD q 0 < n ∧ yrk down K n (SO.getD q 0) = q := by
    intro q hq
    have hq' : q < SO.length := by omega
    have e : SO.getD q 0 = SO[q] := by rw [List.getD_eq_getElem?_getD, List.getElem?_eq_getElem hq']; rfl
    rw [e]
    refine ⟨List.mem_range.mp ((h1.mem_iff).mp (List.getElem_mem hq')), ?_⟩
    unfold yrk
    rw [← List.Perm.countP_eq _ h1]
    have hs : SO = SO.take q ++ SO[q] :: SO.drop (q + 1) := by
      rw [← List.drop_eq_getElem_cons hq', List.take_append_drop]
    have hpw := h2
    rw [hs, List.pairwise_append, List.pairwise_cons] at hpw
    obtain ⟨w1, ⟨w2, w3⟩, w4⟩ := hpw
    generalize SO[q] = x at *
    rw [hs, List.countP_append, List.countP_cons]
    have c1 : (SO.take q).countP (fun b => yah down K b x) = (SO.take q).length := List.countP_eq_length.mpr (fun a ha => w4 a ha x (List.mem_cons_self))
    have c2 : (SO.drop (q + 1)).countP (fun b => yah down K b x) = 0 := List.countP_eq_zero.mpr (fun a ha => by rw [yah_no (w2 a ha)]; decide)
    rw [c1, c2, yah_self, List.length_take]
    simp
    omega
  refine ⟨hl, key, fun a ha => ?_⟩
  have hm : a ∈ SO := (h1.mem_iff).mpr (List.mem_range.mpr ha)
  obtain ⟨q, hq, e⟩ := List.mem_iff_getElem.mp hm
  have eq : SO.getD q 0 = a := by rw [List.getD_eq_getElem?_getD, List.getElem?_eq_getElem hq]; exact e
  obtain ⟨k1, k2⟩ := key q (by omega)
  rw [eq] at k2
  rw [k2]
  exact ⟨by omega, eq⟩
theorem yrk_so {down : Bool} {K : Nat → Int32} {n : Nat} : ysr down K n (xl_so (xl_lt down K) n 0 []) := by
  have := ysr.so (down := down) (K := K) n 0 [] ⟨List.Perm.refl _, List.Pairwise.nil⟩
  rwa [Nat.zero_add] at this
