/-! a token that is no token spoils the statement -/
def yn (ts : List (Nat × Int32)) (a : Nat) (b : Bool) : Prop := b = false → ∀ j, j < a → xp_hd ts j ≠ 35
theorem yn.up {ts : List (Nat × Int32)} {a a' : Nat} {b b' : Bool} (h : yn ts a b) (hb : b' = false → b = false ∧ ∀ j, a ≤ j → j < a' → xp_hd ts j ≠ 35) : yn ts a' b' := fun q j hj => by
  obtain ⟨q1, q2⟩ := hb q
  by_cases c : j < a
  · exact h q1 j c
  · exact q2 j (by omega) hj
theorem yn.adv {ts : List (Nat × Int32)} {a : Nat} {b b' : Bool} (h : yn ts a b) (hb : b' = false → b = false) (hh : xp_hd ts a ≠ 35) : yn ts (a + 1) b' := h.up fun q => ⟨hb q, fun j h1 h2 => by rw [show j = a by omega]; exact hh⟩
theorem yn.bad {ts : List (Nat × Int32)} {a : Nat} : yn ts a true := fun q => by cases q
theorem bor {b c : Bool} (h : (b || c) = false) : b = false := (Bool.or_eq_false_iff.mp h).1
theorem bor2 {b c : Bool} (h : (b || c) = false) : c = false := (Bool.or_eq_false_iff.mp h).2
theorem yn.col {ts : List (Nat × Int32)} {a : Nat} {b : Bool} (h : yn ts a b) : yn ts (yp_ca ts a) (b || yp_cx ts a) := h.up fun q => ⟨bor q, fun j h1 h2 => by
  have q2 := bor2 q
  unfold yp_cx at q2
  have q3 := bor q2
  have q4 := bor2 q2
  rw [Bool.not_eq_false', Bool.and_eq_true] at q4
  have q5 := of_decide_eq_true q4.1
  have q6 := of_decide_eq_true q4.2
  unfold yp_ca at h2
  rw [if_pos (by unfold yp_isW; rw [decide_eq_true (show xp_hd ts (yp_c1 ts a) < 19 by omega)]; rfl)] at h2
  by_cases e : j = yp_c1 ts a
  · rw [e]; omega
  · unfold yp_c1 at h2 e
    unfold yp_cb at q3
    by_cases c : xp_hd ts a = 19 ∨ xp_hd ts a = 20
    · rw [if_pos c] at h2 e
      rw [decide_eq_true c, Bool.true_and, Bool.not_eq_false'] at q3
      have q3 := of_decide_eq_true q3
      rw [if_pos q3] at h2 e
      by_cases e2 : j = a
      · rw [e2]; omega
      · rw [show j = a + 1 by omega]; omega
    · rw [if_neg c] at h2 e
      omega⟩
theorem yn.rand {ts : List (Nat × Int32)} {ou : Int32} {S : yp_S} (h : yn ts S.1 S.2.1) : yn ts (yp_rand ts ou S).1 (yp_rand ts ou S).2.1 := by
  unfold yp_rand
  split
  · rename_i q
    exact h.adv (fun z => bor z) (by omega)
  · split
    · rename_i q
      exact h.adv (fun z => z) (by omega)
    · exact h.col
theorem yp_wh_n {h : Nat} (hh : yp_wh h ≠ 0) : h ≠ 35 := fun e => by rw [e] at hh; exact hh rfl
theorem yn.rtor {ts : List (Nat × Int32)} {S : yp_S} (h : yn ts S.1 S.2.1) : yn ts (yp_rtor ts S).2.1 (yp_rtor ts S).2.2.1 := by
  unfold yp_rtor
  split
  · rename_i q
    exact h.adv (fun z => z) (yp_wh_n q)
  · split
    · rename_i q
      exact h.adv (fun z => z) (by omega)
    · exact h
theorem yn.go {ts : List (Nat × Int32)} {ou : Int32} : ∀ (n : Nat) (S : yp_S), yn ts S.1 S.2.1 → yn ts (yp_go ts ou n S).1 (yp_go ts ou n S).2.1
  | 0, S, h => h
  | n + 1, S, h => by
    rw [yp_go]
    split
    · exact h
    · split
      · exact yn.go n _ h.rand
      · split
        · exact yn.go n _ h.rtor
        · exact h
theorem yn.ex {ts : List (Nat × Int32)} {ou : Int32} {a : Nat} {o : yp_O} (h : yn ts a false) : yn ts (yp_ex ts ou a o).1 (yp_ex ts ou a o).2.1 := by
  have := yn.go (ou := ou) (yp_mu ts (a, false, o, [], 0, true) + 1) (a, false, o, [], 0, true) h
  unfold yp_ex yp_fin yp_R
  exact this.up (fun q => ⟨by first | exact bor q | exact q, fun j h1 h2 => absurd h2 (Nat.not_lt.mpr h1)⟩)
theorem yn.e2 {ts : List (Nat × Int32)} {ou : Int32} {E : Nat × Bool × yp_O} (h : yn ts E.1 E.2.1) : yn ts (yc_e2 ts ou E).1 (yc_e2 ts ou E).2.1 := by
  unfold yc_e2
  split
  · exact yn.bad
  · rename_i q
    have q : (E.2.1 || decide (yc_wh (xp_hd ts E.1) = 0)) = false := by
      cases e : (E.2.1 || decide (yc_wh (xp_hd ts E.1) = 0)) with
      | true => exact absurd e q
      | false => rfl
    have q2 := of_decide_eq_false (bor2 q)
    refine yn.ex (h.adv (fun _ => bor q) (fun e => ?_))
    rw [e] at q2
    exact q2 rfl
theorem yn.single {ts : List (Nat × Int32)} {S : yc_S} (h : yn ts S.1 S.2.1) (hb : S.2.1 = false) : yn ts (yc_single ts S).1 (yc_single ts S).2.1 := by
  unfold yc_single
  split
  · rename_i q
    exact h.adv (fun z => bor z) (by omega)
  · rw [hb] at h
    exact h.ex.e2
theorem yn.conn {ts : List (Nat × Int32)} {S : yc_S} (h : yn ts S.1 S.2.1) : yn ts (yc_conn ts S).1 (yc_conn ts S).2.1 := by
  unfold yc_conn
  split
  · rename_i q
    exact h.adv (fun z => z) (by omega)
  · split
    · rename_i q
      exact h.adv (fun z => z) (by omega)
    · exact h
theorem yn.cgo {ts : List (Nat × Int32)} : ∀ (n : Nat) (S : yc_S), yn ts S.1 S.2.1 → yn ts (yc_go ts n S).1 (yc_go ts n S).2.1
  | 0, S, h => h
  | n + 1, S, h => by
    rw [yc_go]
    split
    · exact h
    · rename_i c
      have hb : S.2.1 = false := by
        cases e : S.2.1 with
        | true => exact absurd (Or.inr e) c
        | false => rfl
      split
      · exact yn.cgo n _ (h.single hb)
      · exact yn.cgo n _ h.conn
theorem yn.co {ts : List (Nat × Int32)} {a : Nat} {o : yp_O} (h : yn ts a false) : yn ts (yc_co ts a o).1 (yc_co ts a o).2.1 := by
  have := yn.cgo (yc_mu ts (a, false, o, 0, [], 2) + 1) (a, false, o, 0, [], 2) h
  unfold yc_co yc_fin yc_R
  exact this.up (fun q => ⟨bor q, fun j h1 h2 => absurd h2 (Nat.not_lt.mpr h1)⟩)
abbrev yN (ts : List (Nat × Int32)) (S : ys_S) : Prop := yn ts S.1 S.2.1
theorem yN.name {ts : List (Nat × Int32)} {S : ys_S} (h : yN ts S) : yN ts (ys_name ts S) := by
  unfold ys_name
  split
  · rename_i q
    exact h.adv (fun z => z) (by omega)
  · exact yn.bad
theorem yN.need {ts : List (Nat × Int32)} {S : ys_S} {t : Nat} (ht : t ≠ 35) (h : yN ts S) : yN ts (ys_need ts t S) := by
  unfold ys_need
  split
  · exact h
  · split
    · rename_i q
      exact h.adv (fun z => z) (by rw [q]; exact ht)
    · exact yn.bad
theorem yn.tm {ts : List (Nat × Int32)} {c : Bool} {a : Nat} {o : yp_O} (h : yn ts a false) : yn ts (ys_tm ts c a o).1 (ys_tm ts c a o).2.1 := by
  unfold ys_tm
  split
  · rename_i q
    exact h.adv (fun z => z) (by rw [q.2]; decide)
  · split
    · rename_i q
      split
      · rename_i q2
        have h2 : yn ts (yp_ex ts 0 (a + 2) o).1 (yp_ex ts 0 (a + 2) o).2.1 := yn.ex ((h.adv (b' := false) (fun z => z) (by rw [q.2]; decide)).adv (fun z => z) (by rw [q2]; decide))
        split
        · exact yn.bad
        · rename_i q3
          split
          · rename_i q4
            have q3 : (yp_ex ts 0 (a + 2) o).2.1 = false := by
              cases e : (yp_ex ts 0 (a + 2) o).2.1 with
              | true => exact absurd e q3
              | false => rfl
            exact h2.adv (fun _ => q3) (by rw [q4]; decide)
          · exact yn.bad
      · exact yn.bad
    · exact h.ex
theorem yN.term {ts : List (Nat × Int32)} {S : ys_S} {i : Nat} {c : Bool} (h : yN ts S) (hb : S.2.1 = false) : yN ts (ys_term ts i c S) := by
  have h : yn ts S.1 S.2.1 := h
  rw [hb] at h
  exact h.tm
theorem bnt {b : Bool} (h : ¬ b = true) : b = false := by
  cases b with
  | true => exact absurd rfl h
  | false => rfl
theorem yN.wh {ts : List (Nat × Int32)} {S : ys_S} (h : yN ts S) : yN ts (ys_where ts S) := by
  unfold ys_where
  split
  · rename_i q
    exact (h.adv (b' := false) (fun _ => q.1) (by rw [q.2]; decide)).co
  · exact h
theorem yN.ins {ts : List (Nat × Int32)} : ∀ (n k : Nat) (S : ys_S), yN ts S → yN ts (ys_ins ts n k S)
  | 0, _, S, h => h
  | n + 1, k, S, h => by
    rw [ys_ins]
    split
    · exact h
    · rename_i q
      refine yN.ins n (k + 1) _ ?_
      split
      · exact (h.term (bnt q)).need (by decide)
      · exact h.term (bnt q)
theorem yN.upd {ts : List (Nat × Int32)} {S : ys_S} (h : yN ts S) : yN ts (ys_upd ts S) := by
  have h1 : yN ts (ys_up1 ts (ys_name ts S)) := h.name.up fun q => by
    have q2 := bor2 q
    rw [Bool.not_eq_false', Bool.or_eq_true] at q2
    refine ⟨bor q, fun j h1 h2 => ?_⟩
    have h2 : j < if yp_isW (xp_hd ts (ys_name ts S).1) then (ys_name ts S).1 + 1 else (ys_name ts S).1 := h2
    have : j = (ys_name ts S).1 := by
      split at h2 <;> omega
    rw [this]
    rcases q2 with q2 | q2
    · have := of_decide_eq_true q2; omega
    · have := of_decide_eq_true q2; omega
  have h2 := h1.need (t := 30) (by decide)
  unfold ys_upd
  split
  · exact h2
  · rename_i q
    exact h2.term (bnt q)
theorem yN.terms {ts : List (Nat × Int32)} : ∀ (n : Nat) (S : ys_S), yN ts S → yN ts (ys_terms ts n S)
  | 0, S, h => h
  | n + 1, S, h => by
    rw [ys_terms]
    split
    · exact h
    · rename_i q
      have h2 := h.term (i := ys_t4 (S.2.2.2 4)) (c := true) (bnt q)
      have h3 : yN ts (ys_tc ts S).2 := by
        unfold ys_tc yN
        dsimp only
        split
        · rename_i c
          exact h2.adv (fun z => z) (by rw [c]; decide)
        · exact h2
      split
      · exact yN.terms n _ h3
      · exact h3
theorem yN.sel {ts : List (Nat × Int32)} {S : ys_S} (h : yN ts S) : yN ts (ys_sel ts S) := by
  have h1 : yN ts (ys_top ts S) := by
    unfold ys_top
    split
    · rename_i q
      exact h.adv (fun z => z) (by rw [q]; decide)
    · exact h
  have h2 : yN ts (ys_from ts (ys_terms ts (ts.length + 1) (ys_top ts S))) := by
    unfold ys_from
    split
    · exact yn.bad
    · exact (yN.terms _ _ h1).need (by decide)
  unfold ys_sel
  split
  · exact h2
  · generalize ys_from ts (ys_terms ts (ts.length + 1) (ys_top ts S)) = S2 at *
    have h3 : yN ts (ys_tabs ts S2) := by
      unfold ys_tabs
      split
      · rename_i q
        exact yN.name (S := ((ys_name ts S2).1 + 1, (ys_name ts S2).2)) (h2.name.adv (fun z => z) (by rw [q]; decide))
      · exact h2.name
    have h4 := h3.wh
    generalize ys_where ts (ys_tabs ts S2) = S3 at *
    have h5 : yN ts (ys_group ts S3) := by
      unfold ys_group
      split
      · rename_i q
        exact (h4.adv (b' := false) (fun _ => q.1) (by rw [q.2]; decide)).col.up (fun q => ⟨by rw [Bool.false_or]; exact q, fun j h1 h2 => absurd h2 (Nat.not_lt.mpr h1)⟩)
      · exact h4
    generalize ys_group ts S3 = S4 at *
    have h6 : yN ts (ys_order ts S4) := by
      unfold ys_order
      split
      · rename_i q
        exact yN.term (S := (S4.1 + 1, S4.2.1, S4.2.2.1, yt S4.2.2.2 22 1)) (h5.adv (fun z => z) (by rw [q.2]; decide)) q.1
      · exact h5
    unfold ys_down
    split
    · rename_i q
      exact h6.adv (fun z => z) (by rw [q.2.2]; decide)
    · exact h6
theorem yN.stm {ts : List (Nat × Int32)} {T : Nat → Nat} {j : Nat} (hEN : xp_EN ts) (hj : xp_hd ts j = 35) : (ys_stm ts T).2.1 = true := by
  have hl : j < ts.length := xp_hd_lt hj (by decide)
  cases e : (ys_stm ts T).2.1 with
  | true => rfl
  | false =>
    exfalso
    have e : ((ys_body ts (1, false, [], T)).2.1 || !decide ((ys_body ts (1, false, [], T)).1 + 1 = ts.length)) = false := e
    have e1 := bor e
    have e2 := bor2 e
    rw [Bool.not_eq_false'] at e2
    have e2 := of_decide_eq_true e2
    by_cases c0 : xp_hd ts 0 = 35
    · have : (ys_body ts (1, false, [], T)).2.1 = true := by
        unfold ys_body
        rw [if_neg (by omega), if_neg (by omega), if_neg (by omega), if_neg (by omega)]
      rw [this] at e1
      cases e1
    · have h1 : yN ts (1, false, [], T) := fun _ i hi => by
        have : i = 0 := by have hi : i < 1 := hi; omega
        rw [this]; exact c0
      have h2 : yN ts (ys_body ts (1, false, [], T)) := by
        unfold ys_body
        split
        · exact yN.ins 3 0 _ h1.name
        · split
          · exact h1.upd.wh
          · split
            · exact h1.name.wh
            · split
              · exact h1.sel
              · exact yn.bad
      by_cases c : j < (ys_body ts (1, false, [], T)).1
      · exact h2 e1 j c hj
      · have := hEN j (by omega)
        omega
