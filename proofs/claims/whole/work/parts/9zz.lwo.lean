/-! the law: what each call comes to -/
def oS (s b : Int32) (D : xx_D) (R : Nat → Int32 → xx_D → Prop) (a : Int32) (D' : xx_D) : Prop := (¬ xx_in s ∧ a = b ∧ D' = D) ∨ ∃ i, i < 4 ∧ s = nI i ∧ R i a D'
theorem xx_in_nI {i : Nat} (hi : i < 4) : xx_in (nI i) := by
  unfold xx_in
  rw [nI_toInt (by omega)]
  omega
theorem xx_ti_nI {i : Nat} (hi : i < 2) : xx_ti (nI i) := by
  unfold xx_ti
  rw [nI_toInt (by omega)]
  omega
theorem oS.one {s b : Int32} {D : xx_D} {R : Nat → Int32 → xx_D → Prop} (hR : ∀ i, i < 4 → ∀ a D1 a' D2, R i a D1 → R i a' D2 → a = a' ∧ D1 = D2) {a a' : Int32} {D1 D2 : xx_D} (h : oS s b D R a D1) (h' : oS s b D R a' D2) : a = a' ∧ D1 = D2 := by
  rcases h with ⟨p1, p2, p3⟩ | ⟨i, hi, p1, p2⟩ <;> rcases h' with ⟨q1, q2, q3⟩ | ⟨j, hj, q1, q2⟩
  · exact ⟨p2.trans q2.symm, p3.trans q3.symm⟩
  · exact absurd (q1 ▸ xx_in_nI hj) p1
  · exact absurd (p1 ▸ xx_in_nI hi) q1
  · have e : i = j := (nI_inj (by omega) (by omega)).mp (p1.symm.trans q1)
    subst e
    exact hR i hi a D1 a' D2 p2 q2
/-- the drafts' characters, the rows' labels -/
def GD (D : xx_D) : Prop := xx_wf D ∧ ∀ i, i < 4 → ∀ c, c ∈ D.2.2.2.2.2.1 i → c < 128
theorem oS.G {s b : Int32} {D : xx_D} {R : Nat → Int32 → xx_D → Prop} (hG : GD D) (hR : ∀ i, i < 4 → ∀ a D1, R i a D1 → GD D1) {a : Int32} {D1 : xx_D} (h : oS s b D R a D1) : GD D1 := by
  rcases h with ⟨p1, p2, p3⟩ | ⟨i, hi, p1, p2⟩
  · rw [p3]; exact hG
  · exact hR i hi a D1 p2
/-- a question -/
def oQ (D : xx_D) (v : Nat → Int32) (i : Nat) (a : Int32) (D' : xx_D) : Prop := a = v i ∧ D' = D
theorem oQ.one {D : xx_D} {v : Nat → Int32} : ∀ i, i < 4 → ∀ a D1 a' D2, oQ D v i a D1 → oQ D v i a' D2 → a = a' ∧ D1 = D2 := fun _ _ _ _ _ _ h h' => ⟨h.1.trans h'.1.symm, h.2.trans h'.2.symm⟩
theorem oQ.G {D : xx_D} {v : Nat → Int32} (hG : GD D) : ∀ i, i < 4 → ∀ a D1, oQ D v i a D1 → GD D1 := fun _ _ _ _ h => by rw [h.2]; exact hG
def oRows (D : xx_D) (t : Int32) (i : Nat) (a : Int32) (D' : xx_D) : Prop := D' = D ∧ ((¬ xx_ti t ∧ a = -1) ∨ ∃ j, j < 2 ∧ t = nI j ∧ a = nI (xx_V D (D.1 i) j).length)
theorem oRows.one {D : xx_D} {t : Int32} : ∀ i, i < 4 → ∀ a D1 a' D2, oRows D t i a D1 → oRows D t i a' D2 → a = a' ∧ D1 = D2 := by
  rintro i hi a D1 a' D2 ⟨p, p'⟩ ⟨q, q'⟩
  refine ⟨?_, p.trans q.symm⟩
  rcases p' with ⟨p1, p2⟩ | ⟨j, hj, p1, p2⟩ <;> rcases q' with ⟨q1, q2⟩ | ⟨j', hj', q1, q2⟩
  · exact p2.trans q2.symm
  · exact absurd (q1 ▸ xx_ti_nI hj') p1
  · exact absurd (p1 ▸ xx_ti_nI hj) q1
  · have e : j = j' := (nI_inj (by omega) (by omega)).mp (p1.symm.trans q1)
    subst e
    exact p2.trans q2.symm
def oCell (D : xx_D) (t kk ww : Int32) (i : Nat) (a : Int32) (D' : xx_D) : Prop := D' = D ∧ (((¬ xx_ti t ∨ ¬ xx_in ww) ∧ a = -1) ∨ ∃ j w, j < 2 ∧ t = nI j ∧ w < 4 ∧ ww = nI w ∧ a = (if 0 ≤ kk.toInt ∧ kk.toInt < (xx_V D (D.1 i) j).length then xr_col ((xx_V D (D.1 i) j).getD kk.toNatClampNeg xr_0) w else -1))
theorem oCell.one {D : xx_D} {t kk ww : Int32} : ∀ i, i < 4 → ∀ a D1 a' D2, oCell D t kk ww i a D1 → oCell D t kk ww i a' D2 → a = a' ∧ D1 = D2 := by
  rintro i hi a D1 a' D2 ⟨p, p'⟩ ⟨q, q'⟩
  refine ⟨?_, p.trans q.symm⟩
  rcases p' with ⟨p1, p2⟩ | ⟨j, w, hj, p1, hw, p3, p2⟩ <;> rcases q' with ⟨q1, q2⟩ | ⟨j', w', hj', q1, hw', q3, q2⟩
  · exact p2.trans q2.symm
  · exact absurd p1 (fun z => z.elim (fun y => y (q1 ▸ xx_ti_nI hj')) (fun y => y (q3 ▸ xx_in_nI hw')))
  · exact absurd q1 (fun z => z.elim (fun y => y (p1 ▸ xx_ti_nI hj)) (fun y => y (p3 ▸ xx_in_nI hw)))
  · have e : j = j' := (nI_inj (by omega) (by omega)).mp (p1.symm.trans q1)
    have e2 : w = w' := (nI_inj (by omega) (by omega)).mp (p3.symm.trans q3)
    subst e e2
    exact p2.trans q2.symm
def oWrite (D : xx_D) (w : Int64) (i : Nat) (a : Int32) (D' : xx_D) : Prop := ∃ dx, ((xe_go (xe_b w) 8 (D.2.2.2.2.2.1 i) = none ∧ a = (0 : Int32) ∧ dx = D.2.2.2.2.2.1 i) ∨ (xe_go (xe_b w) 8 (D.2.2.2.2.2.1 i) = some dx ∧ a = 1)) ∧ D' = xx_es D i dx (D.2.2.2.2.2.2.1 i) (D.2.2.2.2.2.2.2.1 i) (D.2.2.2.2.2.2.2.2 i)
theorem oWrite.one {D : xx_D} {w : Int64} : ∀ i, i < 4 → ∀ a D1 a' D2, oWrite D w i a D1 → oWrite D w i a' D2 → a = a' ∧ D1 = D2 := by
  rintro i hi a D1 a' D2 ⟨dx, p, p'⟩ ⟨dy, q, q'⟩
  rcases p with ⟨p1, p2, p3⟩ | ⟨p1, p2⟩ <;> rcases q with ⟨q1, q2, q3⟩ | ⟨q1, q2⟩
  · exact ⟨p2.trans q2.symm, by rw [p', q', p3, q3]⟩
  · rw [p1] at q1; cases q1
  · rw [p1] at q1; cases q1
  · rw [p1, Option.some.injEq] at q1
    exact ⟨p2.trans q2.symm, by rw [p', q', q1]⟩
theorem xe_go_128 {b : Nat → Nat} : ∀ (n : Nat) (dr dx : List Nat), xe_go b n dr = some dx → (∀ c, c ∈ dr → c < 128) → ∀ c, c ∈ dx → c < 128
  | 0, dr, dx, h, hd => by
    cases h
    exact hd
  | n + 1, dr, dx, h, hd => by
    rw [xe_go] at h
    split at h
    · exact xe_go_128 n dr dx h hd
    · split at h
      · cases h
      · rename_i hb
        refine xe_go_128 n _ dx h (fun c hc => ?_)
        rcases List.mem_append.mp hc with hc | hc
        · exact hd c hc
        · rw [List.mem_singleton.mp hc]
          have : ¬ 126 < b n := fun z => hb (Or.inr (Or.inl z))
          omega
theorem GD.es {D : xx_D} {i rr rc : Nat} {dx : List Nat} {rv : Nat → Nat → Int32} (h : GD D) (hd : ∀ c, c ∈ dx → c < 128) : GD (xx_es D i dx rr rc rv) := by
  refine ⟨h.1, fun j hj c hc => ?_⟩
  have hc : c ∈ (if j = i then dx else D.2.2.2.2.2.1 j) := hc
  by_cases e : j = i
  · rw [if_pos e] at hc; exact hd c hc
  · rw [if_neg e] at hc; exact h.2 j hj c hc
theorem oWrite.G {D : xx_D} {w : Int64} (hG : GD D) : ∀ i, i < 4 → ∀ a D1, oWrite D w i a D1 → GD D1 := by
  rintro i hi a D1 ⟨dx, p, p'⟩
  rw [p']
  refine hG.es ?_
  rcases p with ⟨p1, p2, p3⟩ | ⟨p1, p2⟩
  · rw [p3]; exact hG.2 i hi
  · exact xe_go_128 8 _ _ p1 (hG.2 i hi)
theorem GD.ds {D : xx_D} {j n : Nat} {C U : Nat → List xr_E} {h : Int32} (hG : GD D) (hl : ∀ t, t < 2 → (∀ e, e ∈ C t → e.2.2.2 = nI j) ∧ ∀ e, e ∈ U t → e.2.2.2 = nI j) (hh : h = -1 → U = C) : GD (xx_ds D j C U h n) := by
  refine ⟨⟨fun lb hlb t ht => ?_, fun lb hlb hq => ?_⟩, hG.2⟩
  · by_cases e : lb = j
    · subst e
      obtain ⟨x1, x2, x3, x4⟩ := xx_ds_eq (D := D) (j := lb) (n := n) (C := C) (U := U) (h := h)
      rw [x1, x2]
      exact hl t ht
    · obtain ⟨x1, x2, x3, x4⟩ := xx_ds_ne (D := D) (j := j) (n := n) (C := C) (U := U) (h := h) e
      rw [x1, x2]
      exact hG.1.1 lb hlb t ht
  · by_cases e : lb = j
    · subst e
      obtain ⟨x1, x2, x3, x4⟩ := xx_ds_eq (D := D) (j := lb) (n := n) (C := C) (U := U) (h := h)
      rw [x3] at hq
      rw [x1, x2]
      exact hh hq
    · obtain ⟨x1, x2, x3, x4⟩ := xx_ds_ne (D := D) (j := j) (n := n) (C := C) (U := U) (h := h) e
      rw [x3] at hq
      rw [x1, x2]
      exact hG.1.2 lb hlb hq
theorem GD.cr {D : xx_D} (hG : GD D) : GD (xx_cr D) := ⟨⟨fun lb hlb t ht => ⟨(hG.1.1 lb hlb t ht).1, (hG.1.1 lb hlb t ht).1⟩, fun lb hlb hq => rfl⟩, fun i hi c hc => by cases hc⟩
def oBegin (D : xx_D) (i : Nat) (a : Int32) (D' : xx_D) : Prop := (D.2.2.2.1 (D.1 i) ≠ -1 ∧ a = -6 ∧ D' = D) ∨ (D.2.2.2.1 (D.1 i) = -1 ∧ a = 0 ∧ D' = xx_ds D (D.1 i) (D.2.1 (D.1 i)) (D.2.1 (D.1 i)) (nI i) (D.2.2.2.2.1 (D.1 i)))
def oAbort (D : xx_D) (i : Nat) (a : Int32) (D' : xx_D) : Prop := (D.2.2.2.1 (D.1 i) ≠ nI i ∧ a = -8 ∧ D' = D) ∨ (D.2.2.2.1 (D.1 i) = nI i ∧ a = 0 ∧ D' = xx_ds D (D.1 i) (D.2.1 (D.1 i)) (D.2.1 (D.1 i)) (-1) (D.2.2.2.2.1 (D.1 i)))
def oChk (D : xx_D) (i : Nat) (a : Int32) (D' : xx_D) : Prop := (D.2.2.2.1 (D.1 i) ≠ -1 ∧ a = -6 ∧ D' = D) ∨ (D.2.2.2.1 (D.1 i) = -1 ∧ a = nI (xo_mk (xo_s (fun t => (D.2.1 (D.1 i) t).length) 2 0)) ∧ D' = xx_ds D (D.1 i) (D.2.1 (D.1 i)) (D.2.2.1 (D.1 i)) (D.2.2.2.1 (D.1 i)) (xo_mk (xo_s (fun t => (D.2.1 (D.1 i) t).length) 2 0)))
theorem o2_one {c : Prop} {a a' x y : Int32} {D1 D2 E F : xx_D} (h : (¬ c ∧ a = x ∧ D1 = E) ∨ (c ∧ a = y ∧ D1 = F)) (h' : (¬ c ∧ a' = x ∧ D2 = E) ∨ (c ∧ a' = y ∧ D2 = F)) : a = a' ∧ D1 = D2 := by
  rcases h with ⟨p1, p2, p3⟩ | ⟨p1, p2, p3⟩ <;> rcases h' with ⟨q1, q2, q3⟩ | ⟨q1, q2, q3⟩
  · exact ⟨p2.trans q2.symm, p3.trans q3.symm⟩
  · exact absurd q1 p1
  · exact absurd p1 q1
  · exact ⟨p2.trans q2.symm, p3.trans q3.symm⟩
def oCommit (D : xx_D) (i : Nat) (a : Int32) (D' : xx_D) : Prop := (D.2.2.2.1 (D.1 i) ≠ nI i ∧ a = -8 ∧ D' = D) ∨ (D.2.2.2.1 (D.1 i) = nI i ∧ ((¬ D.2.2.2.2.1 (D.1 i) + xo_due (D.2.1 (D.1 i)) (D.2.2.1 (D.1 i)) ≤ 30 ∧ a = -5 ∧ D' = D) ∨ (D.2.2.2.2.1 (D.1 i) + xo_due (D.2.1 (D.1 i)) (D.2.2.1 (D.1 i)) ≤ 30 ∧ a = nI (xo_due (D.2.1 (D.1 i)) (D.2.2.1 (D.1 i))) ∧ D' = xx_ds D (D.1 i) (D.2.2.1 (D.1 i)) (D.2.2.1 (D.1 i)) (-1) (D.2.2.2.2.1 (D.1 i) + xo_due (D.2.1 (D.1 i)) (D.2.2.1 (D.1 i))))))
theorem oCommit.one {D : xx_D} : ∀ i, i < 4 → ∀ a D1 a' D2, oCommit D i a D1 → oCommit D i a' D2 → a = a' ∧ D1 = D2 := by
  rintro i hi a D1 a' D2 (⟨p1, p2, p3⟩ | ⟨p1, p2⟩) (⟨q1, q2, q3⟩ | ⟨q1, q2⟩)
  · exact ⟨p2.trans q2.symm, p3.trans q3.symm⟩
  · exact absurd q1 p1
  · exact absurd p1 q1
  · exact o2_one p2 q2
def oCut (D : xx_D) (n : Int32) (i : Nat) (a : Int32) (D' : xx_D) : Prop := (n.toInt < 0 ∧ a = -1 ∧ D' = D) ∨ (¬ n.toInt < 0 ∧ ((D.2.2.2.1 (D.1 i) ≠ nI i ∧ a = -8 ∧ D' = D) ∨ (D.2.2.2.1 (D.1 i) = nI i ∧ ((¬ D.2.2.2.2.1 (D.1 i) + xo_due (D.2.1 (D.1 i)) (D.2.2.1 (D.1 i)) ≤ 30 ∧ a = -5 ∧ D' = D) ∨ (D.2.2.2.2.1 (D.1 i) + xo_due (D.2.1 (D.1 i)) (D.2.2.1 (D.1 i)) ≤ 30 ∧
  ((¬ n.toInt < xo_due (D.2.1 (D.1 i)) (D.2.2.1 (D.1 i)) ∧ a = 1 ∧ D' = xx_cr (xx_ds D (D.1 i) (D.2.2.1 (D.1 i)) (D.2.2.1 (D.1 i)) (-1) (D.2.2.2.2.1 (D.1 i) + xo_due (D.2.1 (D.1 i)) (D.2.2.1 (D.1 i))))) ∨ (n.toInt < xo_due (D.2.1 (D.1 i)) (D.2.2.1 (D.1 i)) ∧ a = 0 ∧ D' = xx_cr D)))))))
theorem oCut.one {D : xx_D} {n : Int32} : ∀ i, i < 4 → ∀ a D1 a' D2, oCut D n i a D1 → oCut D n i a' D2 → a = a' ∧ D1 = D2 := by
  rintro i hi a D1 a' D2 (⟨p1, p2, p3⟩ | ⟨p1, p2⟩) (⟨q1, q2, q3⟩ | ⟨q1, q2⟩)
  · exact ⟨p2.trans q2.symm, p3.trans q3.symm⟩
  · exact absurd p1 q1
  · exact absurd q1 p1
  · rcases p2 with ⟨p3, p4, p5⟩ | ⟨p3, p4⟩ <;> rcases q2 with ⟨q3, q4, q5⟩ | ⟨q3, q4⟩
    · exact ⟨p4.trans q4.symm, p5.trans q5.symm⟩
    · exact absurd q3 p3
    · exact absurd p3 q3
    · rcases p4 with ⟨p5, p6, p7⟩ | ⟨p5, p6⟩ <;> rcases q4 with ⟨q5, q6, q7⟩ | ⟨q5, q6⟩
      · exact ⟨p6.trans q6.symm, p7.trans q7.symm⟩
      · exact absurd q5 p5
      · exact absurd p5 q5
      · exact o2_one p6 q6
theorem GD.lb {D : xx_D} (hG : GD D) {lb : Nat} (hlb : lb < 8) : ∀ t, t < 2 → (∀ e, e ∈ D.2.1 lb t → e.2.2.2 = nI lb) ∧ ∀ e, e ∈ D.2.2.1 lb t → e.2.2.2 = nI lb := hG.1.1 lb hlb
theorem oBegin.G {D : xx_D} (hG : GD D) (hl : ∀ i, i < 4 → D.1 i < 8) : ∀ i, i < 4 → ∀ a D1, oBegin D i a D1 → GD D1 := by
  rintro i hi a D1 (⟨p1, p2, p3⟩ | ⟨p1, p2, p3⟩)
  · rw [p3]; exact hG
  · rw [p3]; exact hG.ds (fun t ht => ⟨(hG.lb (hl i hi) t ht).1, (hG.lb (hl i hi) t ht).1⟩) (fun _ => rfl)
theorem oAbort.G {D : xx_D} (hG : GD D) (hl : ∀ i, i < 4 → D.1 i < 8) : ∀ i, i < 4 → ∀ a D1, oAbort D i a D1 → GD D1 := by
  rintro i hi a D1 (⟨p1, p2, p3⟩ | ⟨p1, p2, p3⟩)
  · rw [p3]; exact hG
  · rw [p3]; exact hG.ds (fun t ht => ⟨(hG.lb (hl i hi) t ht).1, (hG.lb (hl i hi) t ht).1⟩) (fun _ => rfl)
theorem oChk.G {D : xx_D} (hG : GD D) (hl : ∀ i, i < 4 → D.1 i < 8) : ∀ i, i < 4 → ∀ a D1, oChk D i a D1 → GD D1 := by
  rintro i hi a D1 (⟨p1, p2, p3⟩ | ⟨p1, p2, p3⟩)
  · rw [p3]; exact hG
  · rw [p3]; exact hG.ds (hG.lb (hl i hi)) (fun z => hG.1.2 _ (hl i hi) z)
theorem oCommit.G {D : xx_D} (hG : GD D) (hl : ∀ i, i < 4 → D.1 i < 8) : ∀ i, i < 4 → ∀ a D1, oCommit D i a D1 → GD D1 := by
  rintro i hi a D1 (⟨p1, p2, p3⟩ | ⟨p1, (⟨p2, p3, p4⟩ | ⟨p2, p3, p4⟩)⟩)
  · rw [p3]; exact hG
  · rw [p4]; exact hG
  · rw [p4]; exact hG.ds (fun t ht => ⟨(hG.lb (hl i hi) t ht).2, (hG.lb (hl i hi) t ht).2⟩) (fun _ => rfl)
theorem oCut.G {D : xx_D} {n : Int32} (hG : GD D) (hl : ∀ i, i < 4 → D.1 i < 8) : ∀ i, i < 4 → ∀ a D1, oCut D n i a D1 → GD D1 := by
  rintro i hi a D1 (⟨p1, p2, p3⟩ | ⟨p1, (⟨p2, p3, p4⟩ | ⟨p2, (⟨p3, p4, p5⟩ | ⟨p3, (⟨p4, p5, p6⟩ | ⟨p4, p5, p6⟩)⟩)⟩)⟩)
  · rw [p3]; exact hG
  · rw [p4]; exact hG
  · rw [p5]; exact hG
  · rw [p6]; exact GD.cr (hG.ds (fun t ht => ⟨(hG.lb (hl i hi) t ht).2, (hG.lb (hl i hi) t ht).2⟩) (fun _ => rfl))
  · rw [p6]; exact hG.cr
