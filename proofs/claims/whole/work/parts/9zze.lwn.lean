/-! the start: what the premises say of the constants -/
def lw_nm (t : Nat) : String := ["INSERT", "UPDATE", "DELETE", "SELECT", "TOP", "FROM", "WHERE", "GROUP", "ORDER", "DESC", "COUNT", "SUM", "AND", "OR", "NOT", "COLUMN_K", "COLUMN_V", "COLUMN_W", "COLUMN_LAB", "NAME_A", "NAME_B", "PERIOD", "COMMA", "OPEN", "CLOSE", "OPEN_CONDITION", "CLOSE_CONDITION", "PLUS", "MINUS", "TIMES", "EQUAL", "LESS", "GREATER", "NUMBER", "COLUMN", "OTHER", "END"].getD t ""
def lw_pl (t : Nat) : Nat := [165, 171, 174, 177, 180, 183, 186, 189, 192, 195, 198, 201, 204, 207, 210, 213, 216, 219, 222, 225, 228, 231, 234, 237, 240, 243, 246, 249, 252, 255, 258, 261, 264, 267, 267, 267, 267].getD t 0
def lw_ix (t : Nat) : Nat := [63, 107, 155, 159, 163, 175, 123, 179, 183, 187, 167, 171, 147, 151, 135, 191, 111, 115, 195, 67, 71, 87, 103, 75, 79, 127, 131, 99, 83, 95, 119, 139, 143, 59, 91, 55, 4].getD t 0
def lw_is (t : Nat) : Nat := [253, 308, 382, 392, 402, 425, 333, 433, 442, 451, 409, 418, 369, 376, 352, 459, 318, 323, 464, 263, 268, 288, 303, 273, 278, 342, 347, 298, 283, 293, 328, 359, 364, 249, 249, 249, 249].getD t 0
def lw_st (t : Nat) : Term := .static "LabelledTables$Token" (lw_nm t) "LLabelledTables$Token;"
def lw_sg (t : Nat) : Term := .string "LabelledTables$Token" (lw_pl t)
def lw_vl (t : Nat) : Term := .field (lw_sg t) "java/lang/String" "value" "[B"
def lw_al : Term := .static "LabelledTables$Token" "ALL" "[LLabelledTables$Token;"
def lw_nf : List Cond := flatC (Jvm.Cond.and given_1 narrow_1)
theorem lw_n1 : ∀ t, t < 37 → lw_nf[lw_ix t]? = some (.exactly (lw_st t) "LabelledTables$Token") ∧ lw_nf[lw_ix t + 1]? = some (.eq (.field (lw_st t) "java/lang/Enum" "ordinal" "I") (.int (Int32.ofNat t))) ∧ lw_nf[lw_ix t + 2]? = some (.eq (.field (lw_st t) "LabelledTables$Token" "text" "Ljava/lang/String;") (lw_sg t)) ∧ lw_nf[lw_ix t + 3]? = some (.eq (.field (lw_st t) "LabelledTables$Token" "column" "I") (.int (xt_col t))) := by decide +kernel
theorem lw_n2 : ∀ t, t < 37 → lw_nf[lw_is t]? = some (.exactly (lw_sg t) "java/lang/String") ∧ lw_nf[lw_is t + 1]? = some (.eq (.field (lw_sg t) "java/lang/String" "coder" "B") (.int 0)) ∧ lw_nf[lw_is t + 2]? = some (.arrayOf (lw_vl t) .byte) ∧ lw_nf[lw_is t + 3]? = some (.eq (.length (lw_vl t)) (.int (Int32.ofNat (xt_w t).length))) := by decide +kernel
theorem lw_n3 : ∀ t, t < 37 → ∀ j, j < (xt_w t).length → lw_nf[lw_is t + 4 + j]? = some (.eq (.elem (lw_vl t) (.int (Int32.ofNat j))) (.int (Int32.ofNat ((xt_w t).getD j 0)))) := by decide +kernel
theorem lw_n4 : ∀ t, t < 37 → lw_nf[13 + t]? = some (.eq (.elem lw_al (.int (Int32.ofNat t))) (lw_st t)) := by decide +kernel
theorem lw_n5 : lw_nf[10]? = some (.arrayOf lw_al (.object "LabelledTables$Token")) ∧ lw_nf[11]? = some (.eq (.length lw_al) (.int (Int32.ofNat 37))) ∧ lw_nf[50]? = some (.eq (.static "java/lang/String" "COMPACT_STRINGS" "Z") (.int 1)) ∧ lw_nf[51]? = some (.isRef (.static "jdk/internal/util/Preconditions" "SIOOBE_FORMATTER" "Ljava/util/function/BiFunction;")) := by decide +kernel
theorem lw_len {args : Array Value} {s : State} {tm : Term} {N a : Nat} {cell : Cell} (hN : N < 2 ^ 31) (hlen : (Term.length tm).eval args s none [] s = some (.int (Int32.ofNat N))) (ht : tm.eval args s none [] s = some (.ref a)) (hc : s.heap[a]? = some cell) : cell.slots.size = N := by
  simp only [Term.eval, ht, Option.bind_eq_bind, Option.bind_some] at hlen
  obtain ⟨cell', hcell, h⟩ := Option.bind_eq_some_iff.mp hlen
  obtain ⟨h1, -⟩ := State.arrayAt?_spec hcell
  cases hc.symm.trans h1
  by_cases hn : cell.slots.size < 2147483648
  · rw [if_pos hn] at h
    have e : cell.slots.size.toInt32 = Int32.ofNat N := Value.int.inj (Option.some.inj h)
    exact (nI_inj (a := cell.slots.size) (b := N) (by omega) (by omega)).mp e
  · rw [if_neg hn] at h
    cases h

