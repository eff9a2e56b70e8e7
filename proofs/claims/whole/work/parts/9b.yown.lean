/-! a label's own rows among those it sees -/
theorem xr_add_split (L : List xr_E) (e : xr_E) : ∃ A B, L = A ++ B ∧ xr_add L e = A ++ e :: B ∧ ∀ f, f ∈ B → e.1.toInt < f.1.toInt := by
  refine ⟨L.take (xr_pos e.1 L L.length), L.drop (xr_pos e.1 L L.length), (List.take_append_drop _ _).symm, rfl, fun f hf => ?_⟩
  obtain ⟨i, hi⟩ := List.getElem?_of_mem hf
  rw [List.getElem?_drop] at hi
  have hl := (List.getElem?_eq_some_iff.mp hi).1
  exact xr_pos_gt e.1 L L.length (Nat.le_refl _) _ f (Nat.le_add_right _ _) hl hi
theorem xr_fold_other {lab : Nat} : ∀ (T L : List xr_E), (∀ e, e ∈ T → yown lab e = false) → (T.foldl xr_add L).filter (yown lab) = L.filter (yown lab)
  | [], _, _ => rfl
  | e :: T, L, h => by
    rw [List.foldl_cons, xr_fold_other T _ (fun f hf => h f (List.mem_cons_of_mem _ hf))]
    obtain ⟨A, B, h1, h2, _⟩ := xr_add_split L e
    rw [h2, h1, List.filter_append, List.filter_append, List.filter_cons, if_neg (by rw [h e List.mem_cons_self]; decide)]
theorem xr_fold_own {lab : Nat} : ∀ (T L : List xr_E), (∀ e, e ∈ T → yown lab e = true) → xo_ss T → (∀ e, e ∈ T → ∀ f, f ∈ L → yown lab f = true → f.1.toInt < e.1.toInt) → (T.foldl xr_add L).filter (yown lab) = L.filter (yown lab) ++ T
  | [], L, _, _, _ => by rw [List.append_nil]; rfl
  | e :: T, L, h, hs, hl => by
    obtain ⟨A, B, h1, h2, h3⟩ := xr_add_split L e
    have hB : B.filter (yown lab) = [] := by
      rw [List.filter_eq_nil_iff]
      intro f hf q
      have a := h3 f hf
      have b := hl e List.mem_cons_self f (by rw [h1]; exact List.mem_append.mpr (Or.inr hf)) q
      omega
    have hs' := List.pairwise_cons.mp hs
    rw [List.foldl_cons, xr_fold_own T _ (fun f hf => h f (List.mem_cons_of_mem _ hf)) hs'.2 (fun f hf q hq hqo => ?_)]
    · rw [h2, h1, List.filter_append, List.filter_append, List.filter_cons, if_pos (h e List.mem_cons_self), hB]
      simp
    · rw [h2, List.mem_append, List.mem_cons] at hq
      rcases hq with hq | hq | hq
      · exact hl f (List.mem_cons_of_mem _ hf) q (by rw [h1]; exact List.mem_append.mpr (Or.inl hq)) hqo
      · rw [hq]
        exact hs'.1 f hf
      · exact hl f (List.mem_cons_of_mem _ hf) q (by rw [h1]; exact List.mem_append.mpr (Or.inr hq)) hqo
theorem xx_vl_lb {D : xx_D} {lab t o : Nat} (hB : xx_lb D) (ho : o < 8) (ht : t < 2) : ∀ e, e ∈ xx_vl D lab t o → e.2.2.2 = nI o := by
  intro e he
  unfold xx_vl at he
  split at he
  · exact (hB o ho t ht).2 e he
  · split at he
    · exact (hB o ho t ht).1 e he
    · cases he
theorem xx_see_own {D : xx_D} {lab t : Nat} (hB : xx_lb D) (hlab : lab < 8) (ht : t < 2) (hs : xo_ss (D.2.2.1 lab t)) : ∀ (n o : Nat) (L : List xr_E), n + o = 8 → L.filter (yown lab) = (if lab < o then D.2.2.1 lab t else []) → (xx_see D lab t n o L).filter (yown lab) = D.2.2.1 lab t
  | 0, o, L, hn, hL => by
    rw [xx_see, hL, if_pos (by omega)]
  | n + 1, o, L, hn, hL => by
    rw [xx_see]
    refine xx_see_own hB hlab ht hs n (o + 1) _ (by omega) ?_
    have hv := xx_vl_lb (lab := lab) hB (show o < 8 by omega) ht
    by_cases c : o = lab
    · subst c
      rw [if_neg (Nat.lt_irrefl _)] at hL
      have e1 : xx_vl D o t o = D.2.2.1 o t := if_pos rfl
      rw [e1] at hv ⊢
      rw [xr_fold_own _ L (fun e he => decide_eq_true (hv e he)) hs (fun e he f hf hfo => ?_), hL, if_pos (by omega), List.nil_append]
      have : f ∈ L.filter (yown o) := List.mem_filter.mpr ⟨hf, hfo⟩
      rw [hL] at this
      cases this
    · rw [xr_fold_other _ L (fun e he => decide_eq_false (fun q => ?_)), hL]
      · by_cases c2 : lab < o
        · rw [if_pos c2, if_pos (by omega)]
        · rw [if_neg c2, if_neg (by omega)]
      · have := hv e he
        rw [q] at this
        exact c ((nI_inj (by omega) (by omega)).mp this).symm
theorem xx_V_own {D : xx_D} {lab t : Nat} (hB : xx_lb D) (hlab : lab < 8) (ht : t < 2) (hs : xo_ss (D.2.2.1 lab t)) : (xx_V D lab t).filter (yown lab) = D.2.2.1 lab t :=
  xx_see_own hB hlab ht hs 8 0 [] rfl (by rw [if_neg (by omega)]; rfl)
theorem yo_K.start {B : xr_E → Bool} {lab : Nat} {V U : List xr_E} (hf : V.filter (yown lab) = U) (hs : xo_ss U) : yo_K B lab V 0 U := by
  refine ⟨hs, fun k => ?_⟩
  rw [← hf]
  constructor
  · rintro ⟨f, h1, h2⟩
    obtain ⟨a, b⟩ := List.mem_filter.mp h1
    exact Or.inl ⟨f, a, b, h2⟩
  · rintro (⟨e, h1, h2, h3⟩ | ⟨j, e, h1, _⟩)
    · exact ⟨e, List.mem_filter.mpr ⟨h1, h2⟩, h3⟩
    · omega
