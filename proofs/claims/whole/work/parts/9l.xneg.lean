/-! changes that fail; nothing due -/
theorem xo_up_le {B : xr_E → Bool} {val : xr_E → Int32} {lab col : Nat} : ∀ (S L L' : List xr_E) (c c' : Nat), xo_up B val lab col S L c = some (L', c') → c' ≤ c + S.length
  | [], L, L', c, c', h => by
    rw [xo_up, Option.some.injEq, Prod.mk.injEq] at h
    omega
  | e :: S, L, L', c, c', h => by
    rw [xo_up] at h
    rw [List.length_cons]
    split at h
    · split at h
      · split at h
        · have := xo_up_le S _ L' _ c' h; omega
        · have := xo_up_le S _ L' _ c' h; omega
      · split at h
        · cases h
        · have := xo_up_le S _ L' _ c' h; omega
    · have := xo_up_le S _ L' _ c' h; omega
theorem yRs.neg {W : xp_W} {v t lab : Nat} {V U L' : List xr_E} {Bz : Int32} (h : yRs W v t lab V U Bz L') (hV : V.length ≤ 48) (hU : U.length ≤ 6) (hn : Bz.toInt < 0) : L' = U := by
  rcases h with ⟨_, x, _, hx⟩ | ⟨_, B, _, hx, _⟩ | ⟨_, B, val, col, _, _, _, _, hx⟩
  · unfold xo_ins at hx
    split at hx
    · rw [Prod.mk.injEq] at hx; exact hx.2.symm
    · split at hx
      · rw [Prod.mk.injEq] at hx; exact hx.2.symm
      · rw [Prod.mk.injEq] at hx
        rw [← hx.1] at hn
        exact absurd hn (by decide)
  · have := List.length_filter_le B U
    rw [hx, nI_toInt (by omega)] at hn
    omega
  · rcases hx with ⟨_, _, e⟩ | ⟨c, e1, e2⟩
    · exact e
    · have := xo_up_le V U L' 0 c e1
      rw [e2, nI_toInt (by omega)] at hn
      omega
theorem xo_ss_find : ∀ (L : List xr_E) (e : xr_E), xo_ss L → e ∈ L → L.find? (fun f => f.1 == e.1) = some e
  | [], e, _, h => by cases h
  | x :: L, e, hs, h => by
    have hs' := List.pairwise_cons.mp hs
    rw [List.find?_cons]
    rcases List.mem_cons.mp h with q | q
    · subst q
      simp
    · have hlt := hs'.1 e q
      have : (x.1 == e.1) = false := by
        rw [beq_eq_false_iff_ne]
        intro z
        rw [z] at hlt
        omega
      rw [this]
      exact xo_ss_find L e hs'.2 q
theorem xr_sum_0 {f : xr_E → Nat} : ∀ (L : List xr_E), (∀ e, e ∈ L → f e = 0) → xr_sum f L = 0
  | [], _ => rfl
  | e :: L, h => by
    have := xr_sum_0 L (fun q hq => h q (List.mem_cons_of_mem _ hq))
    unfold xr_sum at this ⊢
    rw [List.map_cons, List.sum_cons, this, h e List.mem_cons_self]
theorem xo_due_self {C : Nat → List xr_E} (h : ∀ t, t < 2 → xo_ss (C t)) : xo_due C C = 0 := by
  have hd : ∀ t, t < 2 → xo_df C C t = 0 := by
    intro t ht
    unfold xo_df
    rw [xr_sum_0 _ (fun e he => ?_), xr_sum_0 _ (fun e he => ?_)]
    · unfold xr_mis
      rw [xo_ss_find _ e (h t ht) he]
    · unfold xr_dif
      rw [xo_ss_find _ e (h t ht) he]
      exact if_pos ⟨rfl, rfl⟩
  show xo_mk (xo_df C C 0 + (xo_df C C 1 + 0)) = 0
  rw [hd 0 (by decide), hd 1 (by decide)]
  rfl
/-- what x has read soundly, the reference reads -/
theorem xFa {dr : List Nat} {f : Nat → Int32} (hl : dr.length ≤ 80) (hf : f 4 = -1) (h : xp_ok (xn_sc dr 0) (xp_parse (xn_sc dr 0) f) = true) : yFa dr (ys_stm (xn_sc dr 0 ++ [(36, 0)]) (fun _ => 0)) := by
  have hlen := xn_sc_len dr 0
  have key : ∀ f : Nat → Int32, f 4 = -1 → _ := fun f hf => stm_all (ts := xn_sc dr 0 ++ [(36, 0)]) (f := f) (T := fun _ => 0) (by rw [List.length_append, List.length_cons, List.length_nil]; omega) (xe_EN _) (xn_E2 dr) rfl rfl rfl hf
  have eb : (ys_stm (xn_sc dr 0 ++ [(36, 0)]) (fun _ => 0)).2.1 = false := by
    have := key f hf
    rw [xe_parse (xe_hd _) (xe_nm _), xe_ok (xe_hd _)] at this
    rcases this with q | q
    · rw [h] at q; cases q.1
    · exact q.2.1
  refine ⟨eb, fun f' hf' => ?_⟩
  have := key f' hf'
  rw [eb, xe_parse (xe_hd _) (xe_nm _), xe_ok (xe_hd _), xe_hd] at this
  rcases this with q | q
  · cases q.2
  · exact ⟨q.1, q.2.2⟩
