/-! the start: all of it -/
theorem lw_ar {s : State} {args : Array Value} (hts : ∀ w ∈ tables_1, w.before args s = true) : ∃ cA : Nat → ClassId, (∀ k, lw_ga s k (cA k)) ∧ ∃ kA kI, s.vm.classes[cA 3]? = some kA ∧ kA.kind = .array (cA 0) (.array .int) ∧ s.vm.classes[cA 0]? = some kI := by
  have hw : tables_1[51]? = some (.arrayClass .int) ∧ tables_1[299]? = some (.arrayClass .char) ∧ tables_1[157]? = some (.arrayClass .boolean) ∧ tables_1[37]? = some (.arrayOver (.array .int)) ∧ tables_1[27]? = some (.arrayOver (.object "LabelledTables$Store")) ∧ tables_1[29]? = some (.arrayOver (.object "LabelledTables$Session")) ∧ tables_1[238]? = some (.arrayOver (.object "LabelledTables$Rows")) ∧ tables_1[67]? = some (.arrayOver (.object "LabelledTables$Code")) ∧ tables_1[74]? = some (.arrayOver (.object "LabelledTables$Token")) := by decide +kernel
  obtain ⟨w0, w1, w2, w3, w4, w5, w6, w7, w8⟩ := hw
  obtain ⟨c0, a0, b0⟩ := lw_aB (hts _ (List.mem_of_getElem? w0)) (fun C h => by cases h)
  obtain ⟨c1, a1, b1⟩ := lw_aB (hts _ (List.mem_of_getElem? w1)) (fun C h => by cases h)
  obtain ⟨c2, a2, b2⟩ := lw_aB (hts _ (List.mem_of_getElem? w2)) (fun C h => by cases h)
  obtain ⟨c3, k3, comp, a3, b3, q1, q2, q3⟩ := lw_aA (hts _ (List.mem_of_getElem? w3))
  obtain ⟨c4, a4, b4⟩ := lw_aO (hts _ (List.mem_of_getElem? w4))
  obtain ⟨c5, a5, b5⟩ := lw_aO (hts _ (List.mem_of_getElem? w5))
  obtain ⟨c6, a6, b6⟩ := lw_aO (hts _ (List.mem_of_getElem? w6))
  obtain ⟨c7, a7, b7⟩ := lw_aO (hts _ (List.mem_of_getElem? w7))
  obtain ⟨c8, a8, b8⟩ := lw_aO (hts _ (List.mem_of_getElem? w8))
  have e0 : comp = c0 := by
    have h1 : s.vm.findClass ("[" ++ FieldType.int.toString) = some c0 := b0
    have e : (FieldType.array .int).toString = "[" ++ FieldType.int.toString := by decide +kernel
    rw [e] at q3
    exact Option.some.inj (q3.symm.trans h1)
  subst e0
  obtain ⟨kI, hk, -⟩ := Vm.findClass_spec q3
  refine ⟨fun k => [comp, c1, c2, c3, c4, c5, c6, c7, c8].getD k 0, fun k ty hty h8 => ?_, k3, kI, q1, q2, hk⟩
  have : k = 0 ∨ k = 1 ∨ k = 2 ∨ k = 3 ∨ k = 4 ∨ k = 5 ∨ k = 6 ∨ k = 7 ∨ k = 8 := by omega
  rcases this with rfl | rfl | rfl | rfl | rfl | rfl | rfl | rfl | rfl <;> cases hty
  · exact ⟨a0, b0⟩
  · exact ⟨a1, b1⟩
  · exact ⟨a2, b2⟩
  · exact ⟨a3, b3⟩
  · exact ⟨a4, b4⟩
  · exact ⟨a5, b5⟩
  · exact ⟨a6, b6⟩
  · exact ⟨a7, b7⟩
  · exact ⟨a8, b8⟩
theorem lw_ao {s : State} {args : Array Value} (hts : ∀ w ∈ tables_1, w.before args s = true) : (∀ k, 4 ≤ k → k ≤ 8 → ∃ r, am_cl[am_ac k]? = some r ∧ va_AO r.1 s) ∧ (Cond.arrayOver (.array .int)).before #[] s = true ∧ ∀ w ∈ am_nst, va_Nw w s := by
  have hw : tables_1[37]? = some (.arrayOver (.array .int)) ∧ tables_1[27]? = some (.arrayOver (.object "LabelledTables$Store")) ∧ tables_1[29]? = some (.arrayOver (.object "LabelledTables$Session")) ∧ tables_1[238]? = some (.arrayOver (.object "LabelledTables$Rows")) ∧ tables_1[67]? = some (.arrayOver (.object "LabelledTables$Code")) ∧ tables_1[74]? = some (.arrayOver (.object "LabelledTables$Token")) ∧ tables_1[54]? = some (.methodLinkNest RX9 32 yX1_init RX9) ∧ tables_1[69]? = some (.methodLinkNest RX6 26 yX0_init RX9) ∧ tables_1[160]? = some (.methodLinkNest RX1 20 yX3_init RX9) ∧ tables_1[731]? = some (.methodLinkNest RX2 38 yX9_dominates RX9) := by decide +kernel
  obtain ⟨w3, w4, w5, w6, w7, w8, n1, n2, n3, n4⟩ := hw
  refine ⟨fun k h4 h8 => ?_, hts _ (List.mem_of_getElem? w3), fun w hw => ?_⟩
  · have : k = 4 ∨ k = 5 ∨ k = 6 ∨ k = 7 ∨ k = 8 := by omega
    rcases this with rfl | rfl | rfl | rfl | rfl
    · exact ⟨_, rfl, va_AO.of (hts _ (List.mem_of_getElem? w4))⟩
    · exact ⟨_, rfl, va_AO.of (hts _ (List.mem_of_getElem? w5))⟩
    · exact ⟨_, rfl, va_AO.of (hts _ (List.mem_of_getElem? w6))⟩
    · exact ⟨_, rfl, va_AO.of (hts _ (List.mem_of_getElem? w7))⟩
    · exact ⟨_, rfl, va_AO.of (hts _ (List.mem_of_getElem? w8))⟩
  · simp only [am_nst, List.mem_cons, List.not_mem_nil, or_false] at hw
    rcases hw with rfl | rfl | rfl | rfl
    · exact hts _ (List.mem_of_getElem? n1)
    · exact hts _ (List.mem_of_getElem? n2)
    · exact hts _ (List.mem_of_getElem? n3)
    · exact hts _ (List.mem_of_getElem? n4)
theorem lw_all {s : State} {b L : Nat} {xs : Nat → Int32} (hts : ∀ w ∈ lw_tbl, w.before #[.ref b] s = true) (hX : va_X b L xs s s.heap) (hgv : (Jvm.Cond.and given_1 narrow_1).before #[.ref b] s = true) : ∃ (g : am_G) (σ : am_S), am_E g s ∧ am_R g σ s.heap ∧ xt_T g σ ∧ (∀ j, j < L → am_i σ b j = xs j) ∧ am_sh σ b = some (.inr (11, L)) ∧ b < g.2.2.1.size ∧ am_tp σ = s.heap.size ∧ am_us σ = 0 ∧ g.2.2.1 = s.heap := by
  have hta : ∀ w ∈ am_tb, w.before #[.ref b] s = true := fun w h => hts w (List.mem_filter.mp h).1
  have htt : ∀ w ∈ tables_1, w.before #[.ref b] s = true := fun w h => hts w (am_p0 h)
  have hA : ∀ a : Nat, a < s.heap.size → ¬ lw_A s a := fun a h1 h2 => by
    have h2 : s.heap.size ≤ a := h2
    omega
  have hz : ∀ t, ∃ q, t < 37 → lw_P1 s b t q := fun t => by
    by_cases ht : t < 37
    · obtain ⟨q, hq⟩ := lw_c1 hgv ht
      exact ⟨q, fun _ => hq⟩
    · exact ⟨(0, 0, 0), fun h => absurd h ht⟩
  obtain ⟨Z, hZ⟩ := Classical.axiomOfChoice hz
  obtain ⟨AL, hal, hAT, hAs⟩ := lw_c2 hgv hZ
  obtain ⟨dC, dI, hgd⟩ := lw_kall hta htt (hZ 0 (by decide))
  obtain ⟨cA, hga, h7⟩ := lw_ar htt
  obtain ⟨h8, h9, h10⟩ := lw_ao htt
  obtain ⟨wA, wC, wP, wI, wI2, wI3⟩ := lw_w2
  obtain ⟨-, -, n3, n4⟩ := lw_n5
  obtain ⟨v39, h39, hz39⟩ : ∃ v39, ((∃ a, v39 = .ref a) ∨ v39 = .null) ∧ va_Z "jdk/internal/util/Preconditions" "SIOOBE_FORMATTER" "Ljava/util/function/BiFunction;" v39 (lw_A s) s s.heap := by
    rcases va_Zqof (A := lw_A s) (htt _ (List.mem_of_getElem? wP)) (htt _ (List.mem_of_getElem? wI3)) (lw_hn hgv n4) hA with h | ⟨t, h⟩
    · exact ⟨.null, Or.inr rfl, h⟩
    · exact ⟨.ref t, Or.inl ⟨t, rfl⟩, h⟩
  obtain ⟨scr, x1, x2, x3, x4, x5⟩ := hX
  have hB : va_T .int b L (fun j => .int (xs j)) (lw_A s) s s.heap := ⟨scr, x1, x2, x3, by omega, by rw [x4], x5, hA b (Array.getElem?_eq_some_iff.mp x1).1⟩
  have hC : lw_C s b b L xs Z AL := ⟨hZ, ⟨hAT, hAs⟩, hB, scr, x1, x4⟩
  have hst : ∀ i q, am_sts[i]? = some q → va_Z q.1 q.2.1 q.2.2 ((lw_g s dC dI cA Z AL b L v39).2.2.2.2 i) (lw_A s) s s.heap := by
    intro i q hq
    have hi : i < 40 := by
      have := (List.getElem?_eq_some_iff.mp hq).1
      exact this
    by_cases c : i < 37
    · rw [lw_sts i c] at hq
      cases hq
      have e : (lw_g s dC dI cA Z AL b L v39).2.2.2.2 i = .ref (Z i).1 := if_pos c
      rw [e]
      exact va_Zref (htt _ (List.mem_of_getElem? (lw_w1 i c))) (htt _ (List.mem_of_getElem? wI)) (hZ i c).1 hA
    · have : i = 37 ∨ i = 38 ∨ i = 39 := by omega
      rcases this with rfl | rfl | rfl
      · cases hq
        exact va_Zref (htt _ (List.mem_of_getElem? wA)) (htt _ (List.mem_of_getElem? wI)) hal hA
      · cases hq
        exact va_Zof (htt _ (List.mem_of_getElem? wC)) (htt _ (List.mem_of_getElem? wI2)) (va_eqi (lw_hn hgv n3)) hA
      · cases hq
        exact hz39
  obtain ⟨hT, hxs, hsb, hbl⟩ := lw_T (dC := dC) (dI := dI) (cA := cA) (v39 := v39) hC hgd h39
  exact ⟨lw_g s dC dI cA Z AL b L v39, lw_s0 (lw_g s dC dI cA Z AL b L v39) s.heap.size, lw_E hC hgd hga h7 hst h8 h9 h10, lw_R, hT, hxs, hsb, hbl, rfl, rfl, rfl⟩
