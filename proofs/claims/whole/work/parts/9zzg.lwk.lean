/-! the start: classes -/
def lw_gd (s : State) (ci : Nat) (q : ClassId × (Nat → Nat)) : Prop := ∀ r, am_cl[ci]? = some r → (∀ k, k < r.2.2 → am_FI s (r.2.1 k).1 (r.2.1 k).2.1 (r.2.1 k).2.2.1 (q.2 k)) ∧ (am_isc (.inl ci) = false → u_Kn s r.1 r.2.1 r.2.2 q.1 q.2) ∧ (ci = 8 → ClassAt s r.1 q.1)
theorem lw_k1 {s : State} {args : Array Value} {ci : Nat} (hts : ∀ w ∈ am_tb, w.before args s = true) (hc : am_CD ci) : ∃ q, lw_gd s ci q := by
  obtain ⟨h0, r, ty, hr, h1, h2, hin, h3, hinst, hini⟩ := hc
  obtain ⟨cC, iS, hKn⟩ := u_known hts hin (hts _ hinst)
  refine ⟨(cC, iS), fun r' hr' => ?_⟩
  cases hr.symm.trans hr'
  refine ⟨fun k hk => ?_, fun _ => hKn, fun e => ?_⟩
  · obtain ⟨cf, kf, fi, fd, hf, hs⟩ := hKn.1 k hk
    refine ⟨cf, kf, fi, fd, hf, hs, ?_⟩
    rcases u_lays hts hin hk with h | h
    · obtain ⟨c, k2, c', k', i, f, -, -, q3, q4, -⟩ := Cond.lays_spec h
      cases hf.symm.trans q3
      exact q4
    · obtain ⟨c, k2, c', k', i, f, -, -, q3, q4, -⟩ := Cond.laysFinal_spec h
      cases hf.symm.trans q3
      exact q4
  · subst e
    cases h0
theorem va_OF.fi {o n d : String} {v : Value} {t : Nat} {A : Nat → Prop} {U : State} {H : Heap} (h : va_OF o n d v t A U H) : ∃ i, am_FI U o n d i := by
  obtain ⟨cf, k, i, f, cell, h1, h2, -⟩ := h
  exact ⟨f.slot, cf, k, i, f, h1, rfl, h2⟩
theorem lw_k8 {s : State} {args : Array Value} {b : Nat} {q0 : Nat × Nat × Nat} (hts : ∀ w ∈ tables_1, w.before args s = true) (h : lw_P1 s b 0 q0) : ∃ q, lw_gd s 8 q := by
  obtain ⟨p1, p2, p3, p4, p5, p6, p7, p8, -⟩ := h
  obtain ⟨i0, f0⟩ := p4.fi
  obtain ⟨i1, f1⟩ := p5.fi
  obtain ⟨i2, f2⟩ := p3.fi
  have hw : tables_1[353]? = some (.instantiable "LabelledTables$Token" 5) := by decide +kernel
  obtain ⟨cC, kC, hfc, hk, hkind, -⟩ := Cond.instantiable_spec (hts _ (List.mem_of_getElem? hw))
  refine ⟨(cC, fun k => if k = 0 then i0 else if k = 1 then i1 else i2), fun r hr => ?_⟩
  have e : r = (RX8, am_TT, 3) := (Option.some.inj hr).symm
  subst e
  refine ⟨fun k hk => ?_, fun z => (by cases z), fun _ => ⟨hfc, kC, hk, hkind⟩⟩
  have : k = 0 ∨ k = 1 ∨ k = 2 := by have hk : k < 3 := hk; omega
  rcases this with rfl | rfl | rfl
  · exact f0
  · exact f1
  · exact f2
theorem lw_k11 {s : State} {b : Nat} {q0 : Nat × Nat × Nat} (h : lw_P1 s b 0 q0) : ∃ q, lw_gd s 11 q := by
  obtain ⟨p1, p2, p3, p4, p5, p6, p7, p8, -⟩ := h
  obtain ⟨i0, f0⟩ := p8.fi
  obtain ⟨i1, f1⟩ := p7.fi
  refine ⟨(0, fun k => if k = 0 then i0 else i1), fun r hr => ?_⟩
  have e : r = ("java/lang/String", am_TS, 2) := (Option.some.inj hr).symm
  subst e
  refine ⟨fun k hk => ?_, fun z => (by cases z), fun z => (by cases z)⟩
  have : k = 0 ∨ k = 1 := by have hk : k < 2 := hk; omega
  rcases this with rfl | rfl
  · exact f0
  · exact f1
theorem lw_kall {s : State} {args : Array Value} {b : Nat} {q0 : Nat × Nat × Nat} (hts : ∀ w ∈ am_tb, w.before args s = true) (hts2 : ∀ w ∈ tables_1, w.before args s = true) (h : lw_P1 s b 0 q0) : ∃ (dC : Nat → ClassId) (dI : Nat → Nat → Nat), ∀ ci, lw_gd s ci (dC ci, dI ci) := by
  have key : ∀ ci, ∃ q : ClassId × (Nat → Nat), lw_gd s ci q := by
    intro ci
    by_cases h12 : 12 ≤ ci
    · exact ⟨(0, fun _ => 0), fun r hr => by
        have : am_cl[ci]? = none := List.getElem?_eq_none h12
        rw [this] at hr
        cases hr⟩
    · have : ci = 0 ∨ ci = 1 ∨ ci = 2 ∨ ci = 3 ∨ ci = 4 ∨ ci = 5 ∨ ci = 6 ∨ ci = 7 ∨ ci = 8 ∨ ci = 9 ∨ ci = 10 ∨ ci = 11 := by omega
      rcases this with rfl | rfl | rfl | rfl | rfl | rfl | rfl | rfl | rfl | rfl | rfl | rfl
      · exact lw_k1 hts cd_0
      · exact lw_k1 hts cd_1
      · exact lw_k1 hts cd_2
      · exact lw_k1 hts cd_3
      · exact lw_k1 hts cd_4
      · exact lw_k1 hts cd_5
      · exact lw_k1 hts cd_6
      · exact lw_k1 hts cd_7
      · exact lw_k8 hts2 h
      · exact lw_k1 hts cd_9
      · exact lw_k1 hts cd_10
      · exact lw_k11 h
  obtain ⟨f, hf⟩ := Classical.axiomOfChoice key
  exact ⟨fun ci => (f ci).1, fun ci => (f ci).2, hf⟩
/-! the start: array classes -/
def lw_ga (s : State) (k : Nat) (c : ClassId) : Prop := ∀ ty, am_at[k]? = some ty → k ≤ 8 → ArrOfT s c ty ∧ va_RA s c ty
theorem arrOfT_of {s : State} {c : ClassId} {k : Class} {comp : ClassId} {ty : FieldType} (hk : s.vm.classes[c]? = some k) (hkind : k.kind = .array comp ty) : ArrOfT s c ty := fun n z => ⟨(fun q h => by cases h), k, hk, comp, hkind⟩
theorem lw_aB {s : State} {args : Array Value} {ty : FieldType} (h : (Cond.arrayClass ty).before args s = true) (hty : ∀ C, ty ≠ .object C) : ∃ c, ArrOfT s c ty ∧ va_RA s c ty := by
  obtain ⟨c, k, comp, h1, h2, h3⟩ := Cond.arrayClass_spec h
  refine ⟨c, arrOfT_of h2 h3, ?_⟩
  cases ty with
  | object C => exact absurd rfl (hty C)
  | _ => exact h1
theorem lw_aO {s : State} {args : Array Value} {C : String} (h : (Cond.arrayOver (.object C)).before args s = true) : ∃ c, ArrOfT s c (.object C) ∧ va_RA s c (.object C) := by
  obtain ⟨comp, c, k, h1, h2, h3, h4, h5⟩ := Cond.arrayOver_spec h
  exact ⟨c, arrOfT_of h3 h4, k, comp, h3, h4, h1, h5⟩
theorem lw_aA {s : State} {args : Array Value} (h : (Cond.arrayOver (.array .int)).before args s = true) : ∃ c k comp, ArrOfT s c (.array .int) ∧ va_RA s c (.array .int) ∧ s.vm.classes[c]? = some k ∧ k.kind = .array comp (.array .int) ∧ s.vm.findClass (FieldType.array .int).toString = some comp := by
  obtain ⟨comp, c, k, h1, h2, h3, h4⟩ := Cond.arrayOver_specA h
  exact ⟨c, k, comp, arrOfT_of h2 h3, h4, h2, h3, h1⟩
