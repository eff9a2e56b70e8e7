/-! the start: the constants in the heap -/
def lw_jx (t : Nat) : Nat := [425, 496, 540, 542, 548, 558, 512, 564, 566, 568, 554, 556, 536, 538, 530, 1292, 502, 504, 1293, 439, 441, 483, 494, 468, 474, 526, 528, 492, 476, 487, 506, 532, 534, 407, 485, 404, 65].getD t 0
theorem lw_w1 : ∀ t, t < 37 → tables_1[lw_jx t]? = some (.laysStatic "LabelledTables$Token" (lw_nm t) "LLabelledTables$Token;") := by decide +kernel
theorem lw_w2 : tables_1[349]? = some (.laysStatic "LabelledTables$Token" "ALL" "[LLabelledTables$Token;") ∧ tables_1[364]? = some (.laysStatic "java/lang/String" "COMPACT_STRINGS" "Z") ∧ tables_1[380]? = some (.laysStatic "jdk/internal/util/Preconditions" "SIOOBE_FORMATTER" "Ljava/util/function/BiFunction;") ∧ tables_1[6]? = some (.initialized "LabelledTables$Token") ∧ tables_1[13]? = some (.initialized "java/lang/String") ∧ tables_1[15]? = some (.initialized "jdk/internal/util/Preconditions") := by decide +kernel
theorem lw_hn {args : Array Value} {s : State} {i : Nat} {c : Cond} (hgv : (Jvm.Cond.and given_1 narrow_1).before args s = true) (h : lw_nf[i]? = some c) : c.before args s = true := flat_of_before _ hgv _ (List.mem_of_getElem? h)
abbrev lw_A (s : State) : Nat → Prop := fun q => s.heap.size ≤ q
def lw_P1 (s : State) (b t : Nat) (q : Nat × Nat × Nat) : Prop :=
  (lw_st t).eval #[.ref b] s none [] s = some (.ref q.1) ∧ va_O "LabelledTables$Token" q.1 (lw_A s) s s.heap ∧ va_OF "java/lang/Enum" "ordinal" "I" (.int (Int32.ofNat t)) q.1 (lw_A s) s s.heap ∧ va_OF "LabelledTables$Token" "text" "Ljava/lang/String;" (.ref q.2.1) q.1 (lw_A s) s s.heap ∧ va_OF "LabelledTables$Token" "column" "I" (.int (xt_col t)) q.1 (lw_A s) s s.heap ∧
  va_O "java/lang/String" q.2.1 (lw_A s) s s.heap ∧ va_OF "java/lang/String" "coder" "B" (.int 0) q.2.1 (lw_A s) s s.heap ∧ va_OF "java/lang/String" "value" "[B" (.ref q.2.2) q.2.1 (lw_A s) s s.heap ∧
  va_T .byte q.2.2 (xt_w t).length (fun j => .int (Int32.ofNat ((xt_w t).getD j 0))) (lw_A s) s s.heap ∧ ∃ cell : Cell, s.heap[q.2.2]? = some cell ∧ cell.slots.size = (xt_w t).length
theorem lw_wl : ∀ t, t < 37 → (xt_w t).length ≤ 6 := by decide +kernel
theorem lw_c1 {b : Nat} {s : State} (hgv : (Jvm.Cond.and given_1 narrow_1).before #[.ref b] s = true) {t : Nat} (ht : t < 37) : ∃ q, lw_P1 s b t q := by
  obtain ⟨n1, n2, n3, n4⟩ := lw_n1 t ht
  obtain ⟨m1, m2, m3, m4⟩ := lw_n2 t ht
  have k3 := lw_n3 t ht
  have hl := lw_wl t ht
  have hA : ∀ a : Nat, a < s.heap.size → ¬ lw_A s a := fun a h1 h2 => by
    have h2 : s.heap.size ≤ a := h2
    omega
  obtain ⟨a, c, cA, kA, q1, q2, q3, q4, q5, q6, -⟩ := Cond.exactly_spec (args := #[.ref b]) (first := s) (o := none) (s := s) (idx := []) (t := lw_st t) (cls := "LabelledTables$Token") (lw_hn hgv n1)
  obtain ⟨a2, c2, cA2, kA2, p1, p2, p3, p4, p5, p6, -⟩ := Cond.exactly_spec (args := #[.ref b]) (first := s) (o := none) (s := s) (idx := []) (t := lw_sg t) (cls := "java/lang/String") (lw_hn hgv m1)
  have hle := va_eqt (lw_hn hgv m4)
  obtain ⟨y, hy, hT⟩ := va_Tof (f := fun j => .int (Int32.ofNat ((xt_w t).getD j 0))) (A := lw_A s) (by omega) (lw_hn hgv m3) hle (fun j hj => va_eqt (lw_hn hgv (k3 j hj))) hA
  have hT2 := hT
  obtain ⟨cell, hc, -⟩ := hT2
  exact ⟨(a, a2, y), q1, va_Oof (lw_hn hgv n1) q1 hA, vk_OFof q1 (va_eqt (lw_hn hgv n2)) hA, vk_OFof q1 (va_eqv (lw_hn hgv n3) p1) hA, vk_OFof q1 (va_eqt (lw_hn hgv n4)) hA, va_Oof (lw_hn hgv m1) p1 hA, vk_OFof p1 (va_eqt (lw_hn hgv m2)) hA, vk_OFof p1 hy hA, hT, cell, hc, lw_len (by omega) hle hy hc⟩
theorem lw_c2 {b : Nat} {s : State} (hgv : (Jvm.Cond.and given_1 narrow_1).before #[.ref b] s = true) {Z : Nat → Nat × Nat × Nat} (hZ : ∀ t, t < 37 → lw_P1 s b t (Z t)) : ∃ AL : Nat, lw_al.eval #[.ref b] s none [] s = some (.ref AL) ∧ va_T (.object "LabelledTables$Token") AL 37 (fun j => .ref (Z j).1) (lw_A s) s s.heap ∧ ∃ cell : Cell, s.heap[AL]? = some cell ∧ cell.slots.size = 37 := by
  obtain ⟨n1, n2, -⟩ := lw_n5
  have hA : ∀ a : Nat, a < s.heap.size → ¬ lw_A s a := fun a h1 h2 => by
    have h2 : s.heap.size ≤ a := h2
    omega
  have hle := va_eqt (lw_hn hgv n2)
  obtain ⟨y, hy, hT⟩ := va_Tof (f := fun j => .ref (Z j).1) (A := lw_A s) (by decide) (lw_hn hgv n1) hle (fun j hj => va_eqv (lw_hn hgv (lw_n4 j hj)) (hZ j hj).1) hA
  have hT2 := hT
  obtain ⟨cell, hc, -⟩ := hT2
  exact ⟨y, hy, hT, cell, hc, lw_len (by decide) hle hy hc⟩
