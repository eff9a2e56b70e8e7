/-! the start: the constants apart -/
def cI (H : Heap) (a n : Nat) : Prop := ∃ cell : Cell, H[a]? = some cell ∧ cell.slots.size = n ∧ ∀ j, j < n → ∃ c : Int32, cell.slots[j]? = some (.int c)
def cR (H : Heap) (a n : Nat) : Prop := ∃ cell : Cell, H[a]? = some cell ∧ cell.slots.size = n ∧ ∀ j, j < n → ∃ c : Nat, cell.slots[j]? = some (.ref c)
def hI (H : Heap) (a : Nat) : Prop := ∃ (cell : Cell) (j : Nat) (c : Int32), H[a]? = some cell ∧ cell.slots[j]? = some (.int c)
def hR (H : Heap) (a : Nat) : Prop := ∃ (cell : Cell) (j c : Nat), H[a]? = some cell ∧ cell.slots[j]? = some (.ref c)
theorem cI.noR {H : Heap} {a n : Nat} (h : cI H a n) : ¬ hR H a := by
  rintro ⟨cell', j, c, h1, h2⟩
  obtain ⟨cell, g1, g2, g3⟩ := h
  cases g1.symm.trans h1
  obtain ⟨x, hx⟩ := g3 j (by rw [← g2]; exact (Array.getElem?_eq_some_iff.mp h2).1)
  rw [h2] at hx
  cases hx
theorem cR.noI {H : Heap} {a n : Nat} (h : cR H a n) : ¬ hI H a := by
  rintro ⟨cell', j, c, h1, h2⟩
  obtain ⟨cell, g1, g2, g3⟩ := h
  cases g1.symm.trans h1
  obtain ⟨x, hx⟩ := g3 j (by rw [← g2]; exact (Array.getElem?_eq_some_iff.mp h2).1)
  rw [h2] at hx
  cases hx
theorem cI.noC {H : Heap} {a n : Nat} (h : cI H a n) (h' : cR H a 37) : False := by
  obtain ⟨cell, g1, g2, g3⟩ := h
  obtain ⟨cell', k1, k2, k3⟩ := h'
  cases g1.symm.trans k1
  have hn : n = 37 := g2.symm.trans k2
  obtain ⟨x, hx⟩ := g3 0 (by omega)
  obtain ⟨y, hy⟩ := k3 0 (by decide)
  rw [hx] at hy
  cases hy
theorem va_OF.hI {o n d : String} {c : Int32} {t : Nat} {A : Nat → Prop} {U : State} {H : Heap} (h : va_OF o n d (.int c) t A U H) : hI H t := by
  obtain ⟨cf, k, i, f, cell, h1, h2, h3, h4, h5, -⟩ := h
  exact ⟨cell, f.slot, c, h3, h5⟩
theorem va_OF.hR {o n d : String} {c : Nat} {t : Nat} {A : Nat → Prop} {U : State} {H : Heap} (h : va_OF o n d (.ref c) t A U H) : hR H t := by
  obtain ⟨cf, k, i, f, cell, h1, h2, h3, h4, h5, -⟩ := h
  exact ⟨cell, f.slot, c, h3, h5⟩
theorem va_O.ne {E F : String} {t : Nat} {A : Nat → Prop} {U : State} {H : Heap} (h : va_O E t A U H) (h' : va_O F t A U H) : E = F := by
  obtain ⟨cell, h1, h2, h3, -⟩ := h
  obtain ⟨cell', g1, g2, g3, -⟩ := h'
  cases h1.symm.trans g1
  obtain ⟨k, k1, k2⟩ := Vm.findClass_spec h3
  obtain ⟨k', k3, k4⟩ := Vm.findClass_spec g3
  cases k1.symm.trans k3
  exact k2.symm.trans k4
theorem va_O.lt {E : String} {t : Nat} {A : Nat → Prop} {U : State} {H : Heap} (h : va_O E t A U H) : t < H.size := by
  obtain ⟨cell, h1, -⟩ := h
  exact (Array.getElem?_eq_some_iff.mp h1).1
theorem va_T.lt {ty : FieldType} {t N : Nat} {f : Nat → Value} {A : Nat → Prop} {U : State} {H : Heap} (h : va_T ty t N f A U H) : t < H.size := by
  obtain ⟨cell, h1, -⟩ := h
  exact (Array.getElem?_eq_some_iff.mp h1).1
theorem va_T.ty {ty ty' : FieldType} {t N N' : Nat} {f f' : Nat → Value} {A : Nat → Prop} {U : State} {H : Heap} (h : va_T ty t N f A U H) (h' : va_T ty' t N' f' A U H) : ty = ty' := by
  obtain ⟨cell, h1, ⟨-, k, k1, comp, k2⟩, -⟩ := h
  obtain ⟨cell', g1, ⟨-, k', k3, comp', k4⟩, -⟩ := h'
  cases h1.symm.trans g1
  cases k1.symm.trans k3
  rw [k2] at k4
  cases k4
  rfl
/-- all that is known of the start's constants -/
def lw_C (s : State) (b0 b L : Nat) (xs : Nat → Int32) (Z : Nat → Nat × Nat × Nat) (AL : Nat) : Prop :=
  (∀ t, t < 37 → lw_P1 s b0 t (Z t)) ∧ (va_T (.object "LabelledTables$Token") AL 37 (fun j => .ref (Z j).1) (lw_A s) s s.heap ∧ ∃ cell : Cell, s.heap[AL]? = some cell ∧ cell.slots.size = 37) ∧ va_T .int b L (fun j => .int (xs j)) (lw_A s) s s.heap ∧ ∃ cell : Cell, s.heap[b]? = some cell ∧ cell.slots.size = L
theorem va_T.cI {ty : FieldType} {t N : Nat} {f : Nat → Value} {A : Nat → Prop} {U : State} {H : Heap} (h : va_T ty t N f A U H) (hs : ∃ cell : Cell, H[t]? = some cell ∧ cell.slots.size = N) (hf : ∀ j, j < N → ∃ c, f j = .int c) : cI H t N := by
  obtain ⟨cell, h1, -, -, -, -, h6, -⟩ := h
  obtain ⟨cell', g1, g2⟩ := hs
  cases h1.symm.trans g1
  exact ⟨cell, h1, g2, fun j hj => by obtain ⟨c, e⟩ := hf j hj; exact ⟨c, by rw [h6 j hj, e]⟩⟩
theorem va_T.cR {ty : FieldType} {t N : Nat} {f : Nat → Value} {A : Nat → Prop} {U : State} {H : Heap} (h : va_T ty t N f A U H) (hs : ∃ cell : Cell, H[t]? = some cell ∧ cell.slots.size = N) (hf : ∀ j, j < N → ∃ c, f j = .ref c) : cR H t N := by
  obtain ⟨cell, h1, -, -, -, -, h6, -⟩ := h
  obtain ⟨cell', g1, g2⟩ := hs
  cases h1.symm.trans g1
  exact ⟨cell, h1, g2, fun j hj => by obtain ⟨c, e⟩ := hf j hj; exact ⟨c, by rw [h6 j hj, e]⟩⟩
def lw_any (f : Nat → Nat) (a : Nat) : Bool := (List.range 37).any (fun t => decide (a = f t))
theorem lw_any_t {f : Nat → Nat} {a : Nat} (h : lw_any f a = true) : ∃ t, t < 37 ∧ a = f t := by
  obtain ⟨t, h1, h2⟩ := List.any_eq_true.mp h
  exact ⟨t, List.mem_range.mp h1, of_decide_eq_true h2⟩
theorem lw_any_i {f : Nat → Nat} {t : Nat} (h : t < 37) : lw_any f (f t) = true := List.any_eq_true.mpr ⟨t, List.mem_range.mpr h, decide_eq_true rfl⟩
theorem lw_any_f {f : Nat → Nat} {a : Nat} (h : ∀ t, t < 37 → a ≠ f t) : lw_any f a = false := by
  cases e : lw_any f a with
  | false => rfl
  | true =>
    obtain ⟨t, h1, h2⟩ := lw_any_t e
    exact absurd h2 (h t h1)
def lw_sz (H : Heap) (a : Nat) : Nat := ((H[a]?).map (fun c : Cell => c.slots.size)).getD 0
def lw_sh (H : Heap) (Z : Nat → Nat × Nat × Nat) (AL b L a : Nat) : Option am_Sh :=
  if lw_any (fun t => (Z t).1) a = true then some (.inl 8) else if lw_any (fun t => (Z t).2.1) a = true then some (.inl 11) else if lw_any (fun t => (Z t).2.2) a = true then some (.inr (10, lw_sz H a)) else if a = AL then some (.inr (9, 37)) else if a = b then some (.inr (11, L)) else none
theorem lw_C.sh {s : State} {b0 b L AL : Nat} {xs : Nat → Int32} {Z : Nat → Nat × Nat × Nat} (h : lw_C s b0 b L xs Z AL) : (∀ t, t < 37 → lw_sh s.heap Z AL b L (Z t).1 = some (.inl 8) ∧ lw_sh s.heap Z AL b L (Z t).2.1 = some (.inl 11) ∧ lw_sh s.heap Z AL b L (Z t).2.2 = some (.inr (10, (xt_w t).length))) ∧ lw_sh s.heap Z AL b L AL = some (.inr (9, 37)) ∧ lw_sh s.heap Z AL b L b = some (.inr (11, L)) := by
  obtain ⟨hP, ⟨hA, hAs⟩, hB, hBs⟩ := h
  have tI : ∀ t, t < 37 → hI s.heap (Z t).1 := fun t ht => (hP t ht).2.2.1.hI
  have tR : ∀ t, t < 37 → hR s.heap (Z t).1 := fun t ht => (hP t ht).2.2.2.1.hR
  have sI : ∀ t, t < 37 → hI s.heap (Z t).2.1 := fun t ht => (hP t ht).2.2.2.2.2.2.1.hI
  have sR : ∀ t, t < 37 → hR s.heap (Z t).2.1 := fun t ht => (hP t ht).2.2.2.2.2.2.2.1.hR
  have yI : ∀ t, t < 37 → cI s.heap (Z t).2.2 (xt_w t).length := fun t ht => (hP t ht).2.2.2.2.2.2.2.2.1.cI (hP t ht).2.2.2.2.2.2.2.2.2 (fun j _ => ⟨_, rfl⟩)
  have aR : cR s.heap AL 37 := hA.cR hAs (fun j _ => ⟨_, rfl⟩)
  have bI : cI s.heap b L := hB.cI hBs (fun j _ => ⟨_, rfl⟩)
  have n1 : ∀ t, t < 37 → ∀ t', t' < 37 → (Z t).2.1 ≠ (Z t').1 := fun t ht t' ht' e => by
    have h1 := (hP t ht).2.2.2.2.2.1
    rw [e] at h1
    have := va_O.ne h1 (hP t' ht').2.1
    revert this
    decide
  have n2 : ∀ t, t < 37 → ∀ t', t' < 37 → (Z t).2.2 ≠ (Z t').1 := fun t ht t' ht' e => (yI t ht).noR (by rw [e]; exact tR t' ht')
  have n3 : ∀ t, t < 37 → ∀ t', t' < 37 → (Z t).2.2 ≠ (Z t').2.1 := fun t ht t' ht' e => (yI t ht).noR (by rw [e]; exact sR t' ht')
  have n4 : ∀ t, t < 37 → AL ≠ (Z t).1 := fun t ht e => aR.noI (by rw [e]; exact tI t ht)
  have n5 : ∀ t, t < 37 → AL ≠ (Z t).2.1 := fun t ht e => aR.noI (by rw [e]; exact sI t ht)
  have n6 : ∀ t, t < 37 → AL ≠ (Z t).2.2 := fun t ht e => (yI t ht).noC (by rw [← e]; exact aR)
  have n7 : ∀ t, t < 37 → b ≠ (Z t).1 := fun t ht e => bI.noR (by rw [e]; exact tR t ht)
  have n8 : ∀ t, t < 37 → b ≠ (Z t).2.1 := fun t ht e => bI.noR (by rw [e]; exact sR t ht)
  have n9 : ∀ t, t < 37 → b ≠ (Z t).2.2 := fun t ht e => by
    have h1 := (hP t ht).2.2.2.2.2.2.2.2.1
    rw [← e] at h1
    have := va_T.ty hB h1
    cases this
  have n10 : b ≠ AL := fun e => bI.noC (by rw [e]; exact aR)
  unfold lw_sh
  refine ⟨fun t ht => ⟨?_, ?_, ?_⟩, ?_, ?_⟩
  · rw [if_pos (lw_any_i (f := fun t => (Z t).1) ht)]
  · rw [lw_any_f (n1 t ht), if_neg Bool.false_ne_true, if_pos (lw_any_i (f := fun t => (Z t).2.1) ht)]
  · rw [lw_any_f (n2 t ht), if_neg Bool.false_ne_true, lw_any_f (n3 t ht), if_neg Bool.false_ne_true, if_pos (lw_any_i (f := fun t => (Z t).2.2) ht)]
    obtain ⟨cell, g1, g2⟩ := (hP t ht).2.2.2.2.2.2.2.2.2
    unfold lw_sz
    rw [g1]
    show some (Sum.inr (10, cell.slots.size)) = _
    rw [g2]
  · rw [lw_any_f n4, if_neg Bool.false_ne_true, lw_any_f n5, if_neg Bool.false_ne_true, lw_any_f n6, if_neg Bool.false_ne_true, if_pos rfl]
  · rw [lw_any_f n7, if_neg Bool.false_ne_true, lw_any_f n8, if_neg Bool.false_ne_true, lw_any_f n9, if_neg Bool.false_ne_true, if_neg n10, if_pos rfl]
