/-! the start: the surroundings -/
def lw_val (H : Heap) (sh : Nat → Option am_Sh) (dI : Nat → Nat → Nat) (a k : Nat) : Value := ((H[a]?).bind (fun c : Cell => c.slots[(match sh a with | some (.inl ci) => dI ci k | _ => k)]?)).getD .null
def lw_ci (v : Value) : Int32 := match v with
  | .int x => x
  | _ => 0
def lw_cr (v : Value) : Option Nat := match v with
  | .ref x => some x
  | _ => none
def lw_g (s : State) (dC : Nat → ClassId) (dI : Nat → Nat → Nat) (cA : Nat → ClassId) (Z : Nat → Nat × Nat × Nat) (AL b L : Nat) (v39 : Value) : am_G :=
  ((dC, dI), cA, s.heap, (lw_sh s.heap Z AL b L, fun a k => lw_ci (lw_val s.heap (lw_sh s.heap Z AL b L) dI a k), fun a k => lw_cr (lw_val s.heap (lw_sh s.heap Z AL b L) dI a k)), fun i => if i < 37 then .ref (Z i).1 else if i = 37 then .ref AL else if i = 38 then .int 1 else v39)
theorem lw_val_o {s : State} {o n d : String} {v : Value} {a ci k : Nat} {sh : Nat → Option am_Sh} {dI : Nat → Nat → Nat} (h : va_OF o n d v a (lw_A s) s s.heap) (hs : sh a = some (.inl ci)) (hf : am_FI s o n d (dI ci k)) : lw_val s.heap sh dI a k = v := by
  obtain ⟨cf, kf, fi, f, cell, h1, h2, h3, h4, h5, -⟩ := h
  obtain ⟨cf', kf', fi', fd, g1, g2, g3⟩ := hf
  cases h1.symm.trans g1
  unfold lw_val
  rw [h3, hs]
  show (cell.slots[dI ci k]?).getD .null = v
  rw [← g2, h5]
  rfl
theorem lw_val_a {ty : FieldType} {s : State} {a N j : Nat} {q : Nat × Nat} {f : Nat → Value} {sh : Nat → Option am_Sh} {dI : Nat → Nat → Nat} (h : va_T ty a N f (lw_A s) s s.heap) (hs : sh a = some (.inr q)) (hj : j < N) : lw_val s.heap sh dI a j = f j := by
  obtain ⟨cell, h1, -, -, -, -, h6, -⟩ := h
  unfold lw_val
  rw [h1, hs]
  show (cell.slots[j]?).getD .null = f j
  rw [h6 j hj]
  rfl
theorem va_T.fn {ty : FieldType} {t N : Nat} {f f' : Nat → Value} {A : Nat → Prop} {U : State} {H : Heap} (h : va_T ty t N f A U H) (he : ∀ j, j < N → f j = f' j) : va_T ty t N f' A U H := by
  obtain ⟨cell, h1, h2, h3, h4, h5, h6, h7⟩ := h
  exact ⟨cell, h1, h2, h3, h4, h5, fun j hj => by rw [h6 j hj, he j hj], h7⟩
theorem lw_sts : ∀ i, i < 37 → am_sts[i]? = some ("LabelledTables$Token", lw_nm i, "LLabelledTables$Token;") := by decide +kernel
theorem lw_E {s : State} {b0 b L AL : Nat} {xs : Nat → Int32} {Z : Nat → Nat × Nat × Nat} {dC : Nat → ClassId} {dI : Nat → Nat → Nat} {cA : Nat → ClassId} {v39 : Value} (hC : lw_C s b0 b L xs Z AL) (hgd : ∀ ci, lw_gd s ci (dC ci, dI ci)) (hga : ∀ k, lw_ga s k (cA k))
    (h7 : ∃ kA kI, s.vm.classes[cA 3]? = some kA ∧ kA.kind = .array (cA 0) (.array .int) ∧ s.vm.classes[cA 0]? = some kI) (hst : ∀ i q, am_sts[i]? = some q → va_Z q.1 q.2.1 q.2.2 ((lw_g s dC dI cA Z AL b L v39).2.2.2.2 i) (lw_A s) s s.heap)
    (h8 : ∀ k, 4 ≤ k → k ≤ 8 → ∃ r, am_cl[am_ac k]? = some r ∧ va_AO r.1 s) (h9 : (Cond.arrayOver (.array .int)).before #[] s = true) (h10 : ∀ w ∈ am_nst, va_Nw w s) : am_E (lw_g s dC dI cA Z AL b L v39) s := by
  obtain ⟨hsh, hshA, hshb⟩ := hC.sh
  obtain ⟨hP, ⟨hA, hAs⟩, hB, hBs⟩ := hC
  refine ⟨fun ci r hr => hgd ci r hr, fun k ty hk h8 => hga k ty hk h8, hst, fun a ci hx => ?_, fun a q hx => ?_, fun i hi => ?_, h7, h8, h9, h10⟩
  · have ha0 : lw_sh s.heap Z AL b L a = some (.inl ci) := hx
    clear hx
    have hb := ha0
    unfold lw_sh at hb
    split at hb
    · rename_i h1
      obtain ⟨t, ht, rfl⟩ := lw_any_t h1
      cases hb
      have hr : am_cl[8]? = some (RX8, am_TT, 3) := rfl
      refine ⟨_, hr, (hP t ht).2.1, fun k hk => ?_⟩
      have hfi := (hgd 8 _ hr).1 k hk
      have : k = 0 ∨ k = 1 ∨ k = 2 := by have hk : k < 3 := hk; omega
      rcases this with rfl | rfl | rfl
      · have hv := lw_val_o (k := 0) (hP t ht).2.2.2.1 ha0 hfi
        have e : am_gv (lw_g s dC dI cA Z AL b L v39).2.2.2.1.2.1 (lw_g s dC dI cA Z AL b L v39).2.2.2.1.2.2 (am_fr 8 0) (Z t).1 0 = .ref (Z t).2.1 := by
          show va_rf (lw_cr (lw_val s.heap (lw_sh s.heap Z AL b L) dI (Z t).1 0)) = _
          rw [hv]; rfl
        rw [e]
        exact (hP t ht).2.2.2.1
      · have hv := lw_val_o (k := 1) (hP t ht).2.2.2.2.1 ha0 hfi
        have e : am_gv (lw_g s dC dI cA Z AL b L v39).2.2.2.1.2.1 (lw_g s dC dI cA Z AL b L v39).2.2.2.1.2.2 (am_fr 8 1) (Z t).1 1 = .int (xt_col t) := by
          show Value.int (lw_ci (lw_val s.heap (lw_sh s.heap Z AL b L) dI (Z t).1 1)) = _
          rw [hv]; rfl
        rw [e]
        exact (hP t ht).2.2.2.2.1
      · have hv := lw_val_o (k := 2) (hP t ht).2.2.1 ha0 hfi
        have e : am_gv (lw_g s dC dI cA Z AL b L v39).2.2.2.1.2.1 (lw_g s dC dI cA Z AL b L v39).2.2.2.1.2.2 (am_fr 8 2) (Z t).1 2 = .int (Int32.ofNat t) := by
          show Value.int (lw_ci (lw_val s.heap (lw_sh s.heap Z AL b L) dI (Z t).1 2)) = _
          rw [hv]; rfl
        rw [e]
        exact (hP t ht).2.2.1
    · split at hb
      · rename_i h0 h1
        obtain ⟨t, ht, rfl⟩ := lw_any_t h1
        cases hb
        have hr : am_cl[11]? = some ("java/lang/String", am_TS, 2) := rfl
        refine ⟨_, hr, (hP t ht).2.2.2.2.2.1, fun k hk => ?_⟩
        have hfi := (hgd 11 _ hr).1 k hk
        have : k = 0 ∨ k = 1 := by have hk : k < 2 := hk; omega
        rcases this with rfl | rfl
        · have hv := lw_val_o (k := 0) (hP t ht).2.2.2.2.2.2.2.1 ha0 hfi
          have e : am_gv (lw_g s dC dI cA Z AL b L v39).2.2.2.1.2.1 (lw_g s dC dI cA Z AL b L v39).2.2.2.1.2.2 (am_fr 11 0) (Z t).2.1 0 = .ref (Z t).2.2 := by
            show va_rf (lw_cr (lw_val s.heap (lw_sh s.heap Z AL b L) dI (Z t).2.1 0)) = _
            rw [hv]; rfl
          rw [e]
          exact (hP t ht).2.2.2.2.2.2.2.1
        · have hv := lw_val_o (k := 1) (hP t ht).2.2.2.2.2.2.1 ha0 hfi
          have e : am_gv (lw_g s dC dI cA Z AL b L v39).2.2.2.1.2.1 (lw_g s dC dI cA Z AL b L v39).2.2.2.1.2.2 (am_fr 11 1) (Z t).2.1 1 = .int 0 := by
            show Value.int (lw_ci (lw_val s.heap (lw_sh s.heap Z AL b L) dI (Z t).2.1 1)) = _
            rw [hv]; rfl
          rw [e]
          exact (hP t ht).2.2.2.2.2.2.1
      · split at hb
        · cases hb
        · split at hb
          · cases hb
          · split at hb <;> cases hb
  · have ha0 : lw_sh s.heap Z AL b L a = some (.inr q) := hx
    clear hx
    have hb := ha0
    unfold lw_sh at hb
    split at hb
    · cases hb
    · split at hb
      · cases hb
      · split at hb
        · rename_i h0 h1 h2
          obtain ⟨t, ht, rfl⟩ := lw_any_t h2
          have hT := (hP t ht).2.2.2.2.2.2.2.2.1
          have e := (hsh t ht).2.2
          rw [ha0] at e
          cases e
          refine ⟨.byte, rfl, hT.fn (fun j hj => ?_)⟩
          show _ = Value.int (lw_ci (lw_val s.heap (lw_sh s.heap Z AL b L) dI (Z t).2.2 j))
          rw [lw_val_a hT ha0 hj]
          rfl
        · split at hb
          · rename_i h3
            subst h3
            cases hb
            refine ⟨.object RX8, rfl, hA.fn (fun j hj => ?_)⟩
            show _ = va_rf (lw_cr (lw_val s.heap (lw_sh s.heap Z a b L) dI a j))
            rw [lw_val_a hA ha0 hj]
            rfl
          · split at hb
            · rename_i h4
              subst h4
              cases hb
              refine ⟨.int, rfl, hB.fn (fun j hj => ?_)⟩
              show _ = Value.int (lw_ci (lw_val s.heap (lw_sh s.heap Z AL a L) dI a j))
              rw [lw_val_a hB ha0 hj]
              rfl
            · cases hb
  · by_cases c : i < 37
    · exact ⟨(Z i).1, if_pos c⟩
    · have : i = 37 := by omega
      exact ⟨AL, by rw [this]; rfl⟩
/-- the first state -/
def lw_s0 (g : am_G) (n : Nat) : am_S := (g.2.2.2.1.1, g.2.2.2.1.2.1, g.2.2.2.1.2.2, n, 0)
theorem lw_R {s : State} {dC : Nat → ClassId} {dI : Nat → Nat → Nat} {cA : Nat → ClassId} {Z : Nat → Nat × Nat × Nat} {AL b L : Nat} {v39 : Value} : am_R (lw_g s dC dI cA Z AL b L v39) (lw_s0 (lw_g s dC dI cA Z AL b L v39) s.heap.size) s.heap := by
  refine ⟨rfl, Nat.le_refl _, fun q hq => rfl, fun a x ha hc => ?_, fun a x ha hc => ⟨ha, rfl, rfl⟩⟩
  have ha : lw_sh s.heap Z AL b L a = some x := ha
  unfold lw_sh at ha
  split at ha
  · cases ha; cases hc
  · split at ha
    · cases ha; cases hc
    · split at ha
      · cases ha; cases hc
      · split at ha
        · cases ha; cases hc
        · split at ha
          · cases ha; cases hc
          · cases ha
theorem lw_T {s : State} {b0 b L AL : Nat} {xs : Nat → Int32} {Z : Nat → Nat × Nat × Nat} {dC : Nat → ClassId} {dI : Nat → Nat → Nat} {cA : Nat → ClassId} {v39 : Value} (hC : lw_C s b0 b L xs Z AL) (hgd : ∀ ci, lw_gd s ci (dC ci, dI ci)) (h39 : (∃ a, v39 = .ref a) ∨ v39 = .null) :
    xt_T (lw_g s dC dI cA Z AL b L v39) (lw_s0 (lw_g s dC dI cA Z AL b L v39) s.heap.size) ∧ (∀ j, j < L → am_i (lw_s0 (lw_g s dC dI cA Z AL b L v39) s.heap.size) b j = xs j) ∧ am_sh (lw_s0 (lw_g s dC dI cA Z AL b L v39) s.heap.size) b = some (.inr (11, L)) ∧ b < s.heap.size := by
  obtain ⟨hsh, hshA, hshb⟩ := hC.sh
  obtain ⟨hP, ⟨hA, hAs⟩, hB, hBs⟩ := hC
  have tk : ∀ t, t < 37 → am_tk (lw_g s dC dI cA Z AL b L v39) t = (Z t).1 := fun t ht => by
    unfold am_tk
    have : (lw_g s dC dI cA Z AL b L v39).2.2.2.2 t = .ref (Z t).1 := if_pos ht
    rw [this]
  have tk37 : am_tk (lw_g s dC dI cA Z AL b L v39) 37 = AL := rfl
  have hr8 : am_cl[8]? = some (RX8, am_TT, 3) := rfl
  have hr11 : am_cl[11]? = some ("java/lang/String", am_TS, 2) := rfl
  have f8 := (hgd 8 _ hr8).1
  have f11 := (hgd 11 _ hr11).1
  refine ⟨⟨fun t ht => ?_, fun t ht => ?_, ⟨?_, ?_, fun t ht => ?_⟩, rfl, h39⟩, fun j hj => ?_, hshb, hB.lt⟩
  · rw [tk t ht]
    refine ⟨(hsh t ht).1, (hP t ht).2.1.lt, ?_, ?_⟩
    · show lw_ci (lw_val s.heap (lw_sh s.heap Z AL b L) dI (Z t).1 1) = _
      rw [lw_val_o (k := 1) (hP t ht).2.2.2.2.1 (hsh t ht).1 (f8 1 (by decide))]
      rfl
    · show lw_ci (lw_val s.heap (lw_sh s.heap Z AL b L) dI (Z t).1 2) = _
      rw [lw_val_o (k := 2) (hP t ht).2.2.1 (hsh t ht).1 (f8 2 (by decide))]
      rfl
  · rw [tk t ht]
    refine ⟨(Z t).2.1, ?_, (hP t ht).2.2.2.2.2.1.lt, (hsh t ht).2.1, ?_, lw_wl t ht, ?_, (Z t).2.2, (hP t ht).2.2.2.2.2.2.2.2.1.lt, ?_, (hsh t ht).2.2, fun j c hj => ?_⟩
    · show lw_cr (lw_val s.heap (lw_sh s.heap Z AL b L) dI (Z t).1 0) = _
      rw [lw_val_o (k := 0) (hP t ht).2.2.2.1 (hsh t ht).1 (f8 0 (by decide))]
      rfl
    · show lw_ci (lw_val s.heap (lw_sh s.heap Z AL b L) dI (Z t).2.1 1) = _
      rw [lw_val_o (k := 1) (hP t ht).2.2.2.2.2.2.1 (hsh t ht).2.1 (f11 1 (by decide))]
      rfl
    · have : ∀ t, t < 37 → ∀ c, c ∈ xt_w t → c < 128 := by decide +kernel
      exact this t ht
    · show lw_cr (lw_val s.heap (lw_sh s.heap Z AL b L) dI (Z t).2.1 0) = _
      rw [lw_val_o (k := 0) (hP t ht).2.2.2.2.2.2.2.1 (hsh t ht).2.1 (f11 0 (by decide))]
      rfl
    · have hjl := (List.getElem?_eq_some_iff.mp hj).1
      show lw_ci (lw_val s.heap (lw_sh s.heap Z AL b L) dI (Z t).2.2 j) = _
      rw [lw_val_a (hP t ht).2.2.2.2.2.2.2.2.1 (hsh t ht).2.2 hjl, List.getD_eq_getElem?_getD, hj]
      rfl
  · rw [tk37]; exact hA.lt
  · rw [tk37]; exact hshA
  · rw [tk37, tk t ht]
    show lw_cr (lw_val s.heap (lw_sh s.heap Z AL b L) dI AL t) = _
    rw [lw_val_a hA hshA ht]
    rfl
  · show lw_ci (lw_val s.heap (lw_sh s.heap Z AL b L) dI b j) = _
    rw [lw_val_a hB hshb hj]
    rfl
