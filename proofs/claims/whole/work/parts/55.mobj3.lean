/-! the reference: write's bytes -/
theorem xw_sw (x : BitVec 64) (k : Nat) (hk : k ≤ 56) : (x.sshiftRight k).setWidth 8 = (x >>> k).setWidth 8 := by
  apply BitVec.eq_of_getLsbD_eq
  intro i hi
  rw [BitVec.getLsbD_setWidth, BitVec.getLsbD_setWidth, BitVec.getLsbD_sshiftRight, BitVec.getLsbD_ushiftRight, if_pos (by omega), decide_eq_false (show ¬ 64 ≤ i by omega)]
  rfl
theorem xw_mod (x : BitVec 64) (k : Nat) (hk : k ≤ 56) : (x.sshiftRight k).toNat % 2 ^ 8 = (x >>> k).toNat % 2 ^ 8 := by
  have := congrArg BitVec.toNat (xw_sw x k hk)
  rwa [BitVec.toNat_setWidth, BitVec.toNat_setWidth] at this
theorem xw_byte (w : Int64) (n : Nat) (hn : n < 8) : ((w >>> ((nI (8 * n)).toInt64 &&& 63)) &&& 255).toInt32 = nI (xe_b w n) := by
  have hs : ((((nI (8 * n)).toInt64 &&& 63).toBitVec.smod 64).toNat = 8 * n) ∧ (((nI (8 * n)).toInt64.toUInt64 &&& Int64.toUInt64 63).toBitVec % 64).toNat = 8 * n := by
    match n, hn with
    | 0, _ => decide +kernel
    | 1, _ => decide +kernel
    | 2, _ => decide +kernel
    | 3, _ => decide +kernel
    | 4, _ => decide +kernel
    | 5, _ => decide +kernel
    | 6, _ => decide +kernel
    | 7, _ => decide +kernel
  have eA : (w >>> ((nI (8 * n)).toInt64 &&& 63)).toBitVec = w.toBitVec.sshiftRight (8 * n) := (show (w >>> ((nI (8 * n)).toInt64 &&& 63)).toBitVec = w.toBitVec.sshiftRight (((nI (8 * n)).toInt64 &&& 63).toBitVec.smod 64).toNat from rfl).trans (by rw [hs.1])
  have eB : (w.toUInt64 >>> ((nI (8 * n)).toInt64.toUInt64 &&& Int64.toUInt64 63)).toBitVec = w.toBitVec >>> (8 * n) := (show _ = w.toBitVec >>> (((nI (8 * n)).toInt64.toUInt64 &&& Int64.toUInt64 63).toBitVec % 64).toNat from UInt64.toBitVec_shiftRight _ _).trans (by rw [hs.2])
  apply Int32.toBitVec_inj.mp
  apply BitVec.eq_of_toNat_eq
  rw [Int64.toBitVec_toInt32, BitVec.signExtend_eq_setWidth_of_le _ (by decide), BitVec.toNat_setWidth, Int64.toBitVec_and, BitVec.toNat_and, eA]
  have e255 : (255 : Int64).toBitVec.toNat = 2 ^ 8 - 1 := by decide +kernel
  rw [e255, Nat.and_two_pow_sub_one_eq_mod, xw_mod _ _ (by omega)]
  have hb : xe_b w n = (w.toBitVec >>> (8 * n)).toNat % 2 ^ 8 := by
    unfold xe_b
    rw [Int64.toBitVec_toInt32, BitVec.signExtend_eq_setWidth_of_le _ (by decide), BitVec.toNat_setWidth]
    show (w.toUInt64 >>> ((nI (8 * n)).toInt64.toUInt64 &&& Int64.toUInt64 63)).toBitVec.toNat % 2 ^ 32 % 2 ^ 8 = _
    rw [eB, Nat.mod_mod_of_dvd _ (by decide)]
  rw [hb, pk_tn (Nat.lt_of_lt_of_le (Nat.mod_lt _ (by decide)) (by decide))]
  exact Nat.mod_eq_of_lt (Nat.lt_of_lt_of_le (Nat.mod_lt _ (by decide)) (by decide))
def xw_by (b : Nat → Nat) : Nat → List Nat
  | 0 => []
  | n + 1 => if b n = 0 then xw_by b n else b n :: xw_by b n
def xw_ok (b : Nat → Nat) : Nat → Bool
  | 0 => true
  | n + 1 => decide (b n = 0 ∨ (32 ≤ b n ∧ b n ≤ 126)) && xw_ok b n
theorem xw_len (b : Nat → Nat) : ∀ n, (xw_by b n).length ≤ n
  | 0 => Nat.le_refl _
  | n + 1 => by
    have := xw_len b n
    rw [xw_by]
    split
    · omega
    · rw [List.length_cons]; omega
theorem xw_go (b : Nat → Nat) : ∀ n (dr : List Nat), dr.length ≤ 80 → xe_go b n dr = if xw_ok b n = true ∧ dr.length + (xw_by b n).length ≤ 80 then some (dr ++ xw_by b n) else none
  | 0, dr, h => by
    rw [xe_go, if_pos ⟨rfl, h⟩]
    simp [xw_by]
  | n + 1, dr, h => by
    rw [xe_go, xw_ok, xw_by]
    by_cases h0 : b n = 0
    · rw [if_pos h0, if_pos h0, xw_go b n dr h, decide_eq_true (Or.inl h0), Bool.true_and]
    · rw [if_neg h0, if_neg h0]
      by_cases h1 : b n < 32 ∨ 126 < b n
      · rw [if_pos (by omega), decide_eq_false (by omega), Bool.false_and, if_neg (fun z => absurd z.1 (by decide))]
      · rw [decide_eq_true (by omega), Bool.true_and, List.length_cons]
        by_cases h2 : dr.length = 80
        · rw [if_pos (by omega), if_neg (by omega)]
        · rw [if_neg (by omega), xw_go b n _ (by rw [List.length_append]; simp; omega), List.length_append, List.append_assoc]
          simp only [List.length_cons, List.length_nil, List.cons_append, List.nil_append]
          by_cases h3 : xw_ok b n = true ∧ dr.length + ((xw_by b n).length + 1) ≤ 80
          · rw [if_pos h3, if_pos ⟨h3.1, by omega⟩]
          · rw [if_neg h3, if_neg (fun z => h3 ⟨z.1, by omega⟩)]
