/-! updated: its rows, against x's -/
def yo_n (B : xr_E → Bool) (lab : Nat) (V : List xr_E) : List xr_E → Nat → Nat
  | [], _ => 0
  | e :: S, i => (if yo_mk B lab i V e = true then 1 else 0) + yo_n B lab V S (i + 1)
def yo_u (B : xr_E → Bool) (val : xr_E → Int32) (lab col : Nat) (V : List xr_E) : List xr_E → Nat → List xr_E → Nat → List xr_E × Nat
  | [], _, L, c => (L, c)
  | e :: S, i, L, c => if yo_mk B lab i V e = true then yo_u B val lab col V S (i + 1) (xo_chg e.1 col (val e) (xr_add L (xo_lb lab e))) (c + 1) else if (yown lab e && B e) = true then yo_u B val lab col V S (i + 1) (xo_chg e.1 col (val e) L) (c + 1) else yo_u B val lab col V S (i + 1) L c
def yo_K (B : xr_E → Bool) (lab : Nat) (V : List xr_E) (i : Nat) (L : List xr_E) : Prop :=
  xo_ss L ∧ ∀ k, (∃ f, f ∈ L ∧ f.1 = k) ↔ ((∃ e, e ∈ V ∧ yown lab e = true ∧ e.1 = k) ∨ ∃ (j : Nat) (e : xr_E), j < i ∧ V[j]? = some e ∧ yown lab e = false ∧ B e = true ∧ e.1 = k)
theorem yo_fr_iff {B : xr_E → Bool} {lab i : Nat} {k : Int32} : ∀ (S : List xr_E) (j0 : Nat), yo_fr B lab i k S j0 = false ↔ ∃ (j : Nat) (e : xr_E), S[j]? = some e ∧ e.1 = k ∧ (yown lab e = true ∨ (j0 + j < i ∧ yown lab e = false ∧ B e = true))
  | [], j0 => ⟨(fun h => by cases h), fun ⟨j, e, h, _⟩ => by simp at h⟩
  | x :: S, j0 => by
    rw [yo_fr, Bool.and_eq_false_iff, yo_fr_iff S (j0 + 1)]
    have hx : yo_ok B lab i k j0 x = false ↔ x.1 = k ∧ (yown lab x = true ∨ (j0 < i ∧ yown lab x = false ∧ B x = true)) := by
      unfold yo_ok yo_c yown
      by_cases h1 : x.1 = k
      · by_cases h2 : x.2.2.2 = nI lab
        · simp [h1, h2]
        · by_cases h3 : j0 < i
          · cases h4 : B x <;> simp [h1, h2, h3, h4]
          · simp [h1, h2, h3]
      · simp [h1]
    constructor
    · rintro (h | ⟨j, e, h1, h2, h3⟩)
      · obtain ⟨a, b⟩ := hx.mp h
        exact ⟨0, x, rfl, a, by simpa using b⟩
      · refine ⟨j + 1, e, by rw [List.getElem?_cons_succ]; exact h1, h2, ?_⟩
        rcases h3 with h3 | h3
        · exact Or.inl h3
        · exact Or.inr ⟨by omega, h3.2⟩
    · rintro ⟨j, e, h1, h2, h3⟩
      cases j with
      | zero =>
        rw [List.getElem?_cons_zero, Option.some.injEq] at h1
        subst h1
        exact Or.inl (hx.mpr ⟨h2, by simpa using h3⟩)
      | succ j =>
        rw [List.getElem?_cons_succ] at h1
        refine Or.inr ⟨j, e, h1, h2, ?_⟩
        rcases h3 with h3 | h3
        · exact Or.inl h3
        · exact Or.inr ⟨by omega, h3.2⟩
theorem yo_K.fr {B : xr_E → Bool} {lab i : Nat} {V L : List xr_E} {k : Int32} (h : yo_K B lab V i L) : yo_fr B lab i k V 0 = false ↔ ∃ f, f ∈ L ∧ f.1 = k := by
  rw [yo_fr_iff, h.2 k]
  constructor
  · rintro ⟨j, e, h1, h2, h3 | h3⟩
    · exact Or.inl ⟨e, List.mem_of_getElem? h1, h3, h2⟩
    · exact Or.inr ⟨j, e, by omega, h1, h3.2.1, h3.2.2, h2⟩
  · rintro (⟨e, h1, h2, h3⟩ | ⟨j, e, h1, h2, h3, h4, h5⟩)
    · obtain ⟨j, hj⟩ := List.getElem?_of_mem h1
      exact ⟨j, e, hj, h3, Or.inl h2⟩
    · exact ⟨j, e, h2, h5, Or.inr ⟨by omega, h3, h4⟩⟩
theorem xr_put_mem {L : List xr_E} {a : Nat} {e f : xr_E} : f ∈ xr_put L a e ↔ f = e ∨ f ∈ L := by
  unfold xr_put
  rw [List.mem_append, List.mem_cons]
  constructor
  · rintro (h | h | h)
    · exact Or.inr (List.mem_of_mem_take h)
    · exact Or.inl h
    · exact Or.inr (List.mem_of_mem_drop h)
  · rintro (h | h)
    · exact Or.inr (Or.inl h)
    · rw [← List.take_append_drop a L, List.mem_append] at h
      rcases h with h | h
      · exact Or.inl h
      · exact Or.inr (Or.inr h)
theorem xo_chg_key {key v : Int32} {c : Nat} {L : List xr_E} (hc : c = 1 ∨ c = 2) (k : Int32) : (∃ f, f ∈ xo_chg key c v L ∧ f.1 = k) ↔ ∃ f, f ∈ L ∧ f.1 = k := by
  have e : ∀ x : xr_E, (if x.1 = key then xo_set c v x else x).1 = x.1 := by
    intro x
    split
    · exact xo_set_key hc
    · rfl
  unfold xo_chg
  constructor
  · rintro ⟨f, h1, h2⟩
    obtain ⟨x, hx, rfl⟩ := List.mem_map.mp h1
    exact ⟨x, hx, by rw [e] at h2; exact h2⟩
  · rintro ⟨x, hx, h2⟩
    exact ⟨_, List.mem_map.mpr ⟨x, hx, rfl⟩, by rw [e]; exact h2⟩
theorem xo_chg_no {key v : Int32} {c : Nat} {L : List xr_E} (h : ∀ f, f ∈ L → f.1 ≠ key) : xo_chg key c v L = L := by
  unfold xo_chg
  conv => rhs; rw [← List.map_id L]
  refine List.map_congr_left (fun x hx => ?_)
  rw [if_neg (h x hx)]
  rfl
theorem xo_chg_add {v : Int32} {c lab : Nat} {L : List xr_E} {e : xr_E} (hc : c = 1 ∨ c = 2) (h : ∀ f, f ∈ L → f.1 ≠ e.1) : xo_chg e.1 c v (xr_add L (xo_lb lab e)) = xr_add L (xo_lb lab (xo_set c v e)) := by
  have e1 : (xo_lb lab (xo_set c v e)).1 = e.1 := xo_set_key hc
  have e2 : (xo_lb lab e).1 = e.1 := rfl
  unfold xr_add
  rw [e1, e2]
  unfold xr_put
  have ha : ∀ A B : List xr_E, xo_chg e.1 c v (A ++ B) = xo_chg e.1 c v A ++ xo_chg e.1 c v B := fun A B => List.map_append
  rw [ha, xo_chg_no (fun f hf => h f (List.mem_of_mem_take hf))]
  have hcn : ∀ (x : xr_E) (B : List xr_E), xo_chg e.1 c v (x :: B) = (if x.1 = e.1 then xo_set c v x else x) :: xo_chg e.1 c v B := fun x B => rfl
  rw [hcn, if_pos e2, xo_chg_no (fun f hf => h f (List.mem_of_mem_drop hf))]
  rcases hc with rfl | rfl <;> rfl
/-- the invariant goes on -/
theorem yo_K.skip {B : xr_E → Bool} {lab i : Nat} {V L : List xr_E} {e : xr_E} (h : yo_K B lab V i L) (he : V[i]? = some e) (h1 : yo_mk B lab i V e = false) : yo_K B lab V (i + 1) L := by
  refine ⟨h.1, fun k => ?_⟩
  rw [h.2 k]
  constructor
  · rintro (a | ⟨j, f, a1, a2⟩)
    · exact Or.inl a
    · exact Or.inr ⟨j, f, by omega, a2⟩
  · rintro (a | ⟨j, f, a1, a2, a3, a4, a5⟩)
    · exact Or.inl a
    · by_cases c : j < i
      · exact Or.inr ⟨j, f, c, a2, a3, a4, a5⟩
      · have : j = i := by omega
        subst this
        rw [he, Option.some.injEq] at a2
        subst a2
        have hf : yo_fr B lab j e.1 V 0 = false := by
          unfold yo_mk at h1
          unfold yown at a3
          rw [a3, a4] at h1
          simpa using h1
        rw [← a5, ← h.2]
        exact h.fr.mp hf
theorem yo_K.own {B : xr_E → Bool} {lab i col : Nat} {V L : List xr_E} {e : xr_E} {v : Int32} (hc : col = 1 ∨ col = 2) (h : yo_K B lab V i L) (he : V[i]? = some e) (h1 : yo_mk B lab i V e = false) : yo_K B lab V (i + 1) (xo_chg e.1 col v L) := by
  have := h.skip he h1
  exact ⟨xo_chg_ss hc this.1, fun k => by rw [xo_chg_key hc]; exact this.2 k⟩
theorem yo_K.mk {B : xr_E → Bool} {lab i col : Nat} {V L : List xr_E} {e : xr_E} {v : Int32} (hc : col = 1 ∨ col = 2) (h : yo_K B lab V i L) (he : V[i]? = some e) (h1 : yo_mk B lab i V e = true) : (∀ f, f ∈ L → f.1 ≠ e.1) ∧ xo_ss (xr_add L (xo_lb lab e)) ∧ yo_K B lab V (i + 1) (xo_chg e.1 col v (xr_add L (xo_lb lab e))) := by
  unfold yo_mk at h1
  rw [Bool.and_eq_true, Bool.and_eq_true] at h1
  obtain ⟨o1, o2, o3⟩ := h1
  have hown : yown lab e = false := by
    unfold yown
    simpa using o1
  have hno : ∀ f, f ∈ L → f.1 ≠ e.1 := fun f hf q => by
    have := h.fr.mpr ⟨f, hf, q⟩
    rw [o3] at this
    cases this
  have hss : xo_ss (xr_add L (xo_lb lab e)) := xr_add_ss h.1 hno
  refine ⟨hno, hss, xo_chg_ss hc hss, fun k => ?_⟩
  rw [xo_chg_key hc]
  have hmem : (∃ f, f ∈ xr_add L (xo_lb lab e) ∧ f.1 = k) ↔ e.1 = k ∨ ∃ f, f ∈ L ∧ f.1 = k := by
    unfold xr_add
    constructor
    · rintro ⟨f, a1, a2⟩
      rcases xr_put_mem.mp a1 with q | q
      · rw [q] at a2; exact Or.inl a2
      · exact Or.inr ⟨f, q, a2⟩
    · rintro (a | ⟨f, a1, a2⟩)
      · exact ⟨_, xr_put_mem.mpr (Or.inl rfl), a⟩
      · exact ⟨f, xr_put_mem.mpr (Or.inr a1), a2⟩
  rw [hmem, h.2 k]
  constructor
  · rintro (a | a | ⟨j, f, a1, a2⟩)
    · exact Or.inr ⟨i, e, by omega, he, hown, o2, a⟩
    · exact Or.inl a
    · exact Or.inr ⟨j, f, by omega, a2⟩
  · rintro (a | ⟨j, f, a1, a2, a3, a4, a5⟩)
    · exact Or.inr (Or.inl a)
    · by_cases c : j < i
      · exact Or.inr (Or.inr ⟨j, f, c, a2, a3, a4, a5⟩)
      · have : j = i := by omega
        subst this
        rw [he, Option.some.injEq] at a2
        subst a2
        exact Or.inl a5
theorem yo_up_eq {B : xr_E → Bool} {val : xr_E → Int32} {lab col : Nat} {V : List xr_E} (hc : col = 1 ∨ col = 2) : ∀ (S pre L : List xr_E) (c : Nat), V = pre ++ S → yo_K B lab V pre.length L → L.length ≤ 6 →
    xo_up B val lab col S L c = if L.length + yo_n B lab V S pre.length ≤ 6 then some (yo_u B val lab col V S pre.length L c) else none
  | [], pre, L, c, hV, hK, hl => by
    rw [xo_up, yo_n, yo_u, if_pos (by omega)]
  | e :: S, pre, L, c, hV, hK, hl => by
    have he : V[pre.length]? = some e := by rw [hV]; simp
    have hV' : V = (pre ++ [e]) ++ S := by rw [hV]; simp
    have hlen : (pre ++ [e]).length = pre.length + 1 := by simp
    rw [xo_up, yo_n, yo_u]
    cases hb : B e with
    | false =>
      have hm : yo_mk B lab pre.length V e = false := by unfold yo_mk; rw [hb]; simp
      have := yo_up_eq (val := val) hc S (pre ++ [e]) L c hV' (by rw [hlen]; exact hK.skip he hm) hl
      rw [hlen] at this
      rw [hm, Bool.and_false, if_neg Bool.false_ne_true, if_neg Bool.false_ne_true, if_neg Bool.false_ne_true, if_neg Bool.false_ne_true, Nat.zero_add]
      exact this
    | true =>
      rw [if_pos rfl, Bool.and_true]
      cases hf : L.find? (fun f => f.1 == e.1) with
      | some f =>
        dsimp only
        have hfm : ∃ f, f ∈ L ∧ f.1 = e.1 := ⟨f, List.mem_of_find?_eq_some hf, by simpa using List.find?_some hf⟩
        have hm : yo_mk B lab pre.length V e = false := by
          have := hK.fr.mpr hfm
          unfold yo_mk
          rw [this, Bool.and_false, Bool.and_false]
        rw [hm, if_neg Bool.false_ne_true, if_neg Bool.false_ne_true, Nat.zero_add]
        by_cases ho : e.2.2.2 = nI lab
        · rw [if_pos ho, if_pos (show yown lab e = true from decide_eq_true ho)]
          have := yo_up_eq (val := val) hc S (pre ++ [e]) (xo_chg e.1 col (val e) L) (c + 1) hV' (by rw [hlen]; exact hK.own hc he hm) (by unfold xo_chg; rw [List.length_map]; exact hl)
          rw [hlen] at this
          rw [this]
          unfold xo_chg
          rw [List.length_map]
        · rw [if_neg ho, if_neg (show ¬ yown lab e = true from fun q => ho (of_decide_eq_true q))]
          have := yo_up_eq (val := val) hc S (pre ++ [e]) L c hV' (by rw [hlen]; exact hK.skip he hm) hl
          rw [hlen] at this
          exact this
      | none =>
        dsimp only
        have hno := xr_nofind hf
        have hm : yo_mk B lab pre.length V e = true := by
          have hfr : yo_fr B lab pre.length e.1 V 0 = true := by
            cases q : yo_fr B lab pre.length e.1 V 0 with
            | true => rfl
            | false =>
              obtain ⟨f, hf1, hf2⟩ := hK.fr.mp q
              exact absurd hf2 (hno f hf1)
          have hown : decide (e.2.2.2 = nI lab) = false := by
            cases q : decide (e.2.2.2 = nI lab) with
            | false => rfl
            | true =>
              obtain ⟨f, hf1, hf2⟩ := (hK.2 e.1).mpr (Or.inl ⟨e, List.mem_of_getElem? he, q, rfl⟩)
              exact absurd hf2 (hno f hf1)
          unfold yo_mk
          rw [hfr, hb, hown]
          rfl
        rw [hm, if_pos rfl, if_pos rfl]
        obtain ⟨k1, k2, k3⟩ := hK.mk (v := val e) hc he hm
        by_cases h6 : L.length = 6
        · rw [if_pos h6, if_neg (by omega)]
        · rw [if_neg h6]
          have hl2 : (xo_chg e.1 col (val e) (xr_add L (xo_lb lab e))).length = L.length + 1 := by
            unfold xo_chg
            rw [List.length_map, xr_add_len]
          have := yo_up_eq (val := val) hc S (pre ++ [e]) (xo_chg e.1 col (val e) (xr_add L (xo_lb lab e))) (c + 1) hV' (by rw [hlen]; exact k3) (by rw [hl2]; omega)
          rw [hlen, hl2] at this
          rw [← xo_chg_add hc k1, this]
          rw [show L.length + 1 + yo_n B lab V S (pre.length + 1) = L.length + (1 + yo_n B lab V S (pre.length + 1)) by omega]
