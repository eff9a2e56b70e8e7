/-! ===== the reference: its object ===== -/
/-- its fields: field, place of its array behind the object, kind, length -/
def ym_tab : List (Nat × Nat × Nat × Nat) := [(0, 1, 0, 4), (1, 2, 0, 32), (2, 3, 0, 192), (3, 4, 0, 192), (4, 5, 0, 192), (5, 6, 0, 8), (6, 7, 0, 8), (7, 8, 1, 320), (8, 9, 0, 4), (9, 10, 0, 82), (10, 11, 0, 82), (14, 12, 0, 100), (15, 13, 0, 100), (16, 14, 0, 82), (17, 15, 0, 82), (28, 16, 0, 2), (29, 17, 0, 4), (30, 18, 0, 4), (31, 19, 0, 4), (40, 20, 0, 384), (41, 21, 0, 2), (42, 22, 0, 2), (43, 23, 0, 100), (46, 24, 0, 40), (47, 25, 0, 40), (48, 26, 0, 40), (49, 27, 0, 40), (50, 28, 0, 40), (51, 29, 0, 4), (52, 30, 0, 4), (53, 31, 0, 480)]
def ym_H (σ : am_S) (m : Nat) : Prop := am_sh σ m = some (.inl 10) ∧ ∀ q, q ∈ ym_tab → am_r σ m q.1 = some (m + q.2.1) ∧ am_sh σ (m + q.2.1) = some (.inr (q.2.2.1, q.2.2.2))
theorem ym_H.r0 {σ : am_S} {m : Nat} (h : ym_H σ m) : am_r σ m 0 = some (m + 1) := (h.2 (0, 1, 0, 4) (by decide)).1
theorem ym_H.s0 {σ : am_S} {m : Nat} (h : ym_H σ m) : am_sh σ (m + 1) = some (.inr (0, 4)) := (h.2 (0, 1, 0, 4) (by decide)).2
theorem ym_H.r1 {σ : am_S} {m : Nat} (h : ym_H σ m) : am_r σ m 1 = some (m + 2) := (h.2 (1, 2, 0, 32) (by decide)).1
theorem ym_H.s1 {σ : am_S} {m : Nat} (h : ym_H σ m) : am_sh σ (m + 2) = some (.inr (0, 32)) := (h.2 (1, 2, 0, 32) (by decide)).2
theorem ym_H.r2 {σ : am_S} {m : Nat} (h : ym_H σ m) : am_r σ m 2 = some (m + 3) := (h.2 (2, 3, 0, 192) (by decide)).1
theorem ym_H.s2 {σ : am_S} {m : Nat} (h : ym_H σ m) : am_sh σ (m + 3) = some (.inr (0, 192)) := (h.2 (2, 3, 0, 192) (by decide)).2
theorem ym_H.r3 {σ : am_S} {m : Nat} (h : ym_H σ m) : am_r σ m 3 = some (m + 4) := (h.2 (3, 4, 0, 192) (by decide)).1
theorem ym_H.s3 {σ : am_S} {m : Nat} (h : ym_H σ m) : am_sh σ (m + 4) = some (.inr (0, 192)) := (h.2 (3, 4, 0, 192) (by decide)).2
theorem ym_H.r4 {σ : am_S} {m : Nat} (h : ym_H σ m) : am_r σ m 4 = some (m + 5) := (h.2 (4, 5, 0, 192) (by decide)).1
theorem ym_H.s4 {σ : am_S} {m : Nat} (h : ym_H σ m) : am_sh σ (m + 5) = some (.inr (0, 192)) := (h.2 (4, 5, 0, 192) (by decide)).2
theorem ym_H.r5 {σ : am_S} {m : Nat} (h : ym_H σ m) : am_r σ m 5 = some (m + 6) := (h.2 (5, 6, 0, 8) (by decide)).1
theorem ym_H.s5 {σ : am_S} {m : Nat} (h : ym_H σ m) : am_sh σ (m + 6) = some (.inr (0, 8)) := (h.2 (5, 6, 0, 8) (by decide)).2
theorem ym_H.r6 {σ : am_S} {m : Nat} (h : ym_H σ m) : am_r σ m 6 = some (m + 7) := (h.2 (6, 7, 0, 8) (by decide)).1
theorem ym_H.s6 {σ : am_S} {m : Nat} (h : ym_H σ m) : am_sh σ (m + 7) = some (.inr (0, 8)) := (h.2 (6, 7, 0, 8) (by decide)).2
theorem ym_H.r7 {σ : am_S} {m : Nat} (h : ym_H σ m) : am_r σ m 7 = some (m + 8) := (h.2 (7, 8, 1, 320) (by decide)).1
theorem ym_H.s7 {σ : am_S} {m : Nat} (h : ym_H σ m) : am_sh σ (m + 8) = some (.inr (1, 320)) := (h.2 (7, 8, 1, 320) (by decide)).2
theorem ym_H.r8 {σ : am_S} {m : Nat} (h : ym_H σ m) : am_r σ m 8 = some (m + 9) := (h.2 (8, 9, 0, 4) (by decide)).1
theorem ym_H.s8 {σ : am_S} {m : Nat} (h : ym_H σ m) : am_sh σ (m + 9) = some (.inr (0, 4)) := (h.2 (8, 9, 0, 4) (by decide)).2
theorem ym_H.r9 {σ : am_S} {m : Nat} (h : ym_H σ m) : am_r σ m 9 = some (m + 10) := (h.2 (9, 10, 0, 82) (by decide)).1
theorem ym_H.s9 {σ : am_S} {m : Nat} (h : ym_H σ m) : am_sh σ (m + 10) = some (.inr (0, 82)) := (h.2 (9, 10, 0, 82) (by decide)).2
theorem ym_H.r10 {σ : am_S} {m : Nat} (h : ym_H σ m) : am_r σ m 10 = some (m + 11) := (h.2 (10, 11, 0, 82) (by decide)).1
theorem ym_H.s10 {σ : am_S} {m : Nat} (h : ym_H σ m) : am_sh σ (m + 11) = some (.inr (0, 82)) := (h.2 (10, 11, 0, 82) (by decide)).2
theorem ym_H.r14 {σ : am_S} {m : Nat} (h : ym_H σ m) : am_r σ m 14 = some (m + 12) := (h.2 (14, 12, 0, 100) (by decide)).1
theorem ym_H.s14 {σ : am_S} {m : Nat} (h : ym_H σ m) : am_sh σ (m + 12) = some (.inr (0, 100)) := (h.2 (14, 12, 0, 100) (by decide)).2
theorem ym_H.r15 {σ : am_S} {m : Nat} (h : ym_H σ m) : am_r σ m 15 = some (m + 13) := (h.2 (15, 13, 0, 100) (by decide)).1
theorem ym_H.s15 {σ : am_S} {m : Nat} (h : ym_H σ m) : am_sh σ (m + 13) = some (.inr (0, 100)) := (h.2 (15, 13, 0, 100) (by decide)).2
theorem ym_H.r16 {σ : am_S} {m : Nat} (h : ym_H σ m) : am_r σ m 16 = some (m + 14) := (h.2 (16, 14, 0, 82) (by decide)).1
theorem ym_H.s16 {σ : am_S} {m : Nat} (h : ym_H σ m) : am_sh σ (m + 14) = some (.inr (0, 82)) := (h.2 (16, 14, 0, 82) (by decide)).2
theorem ym_H.r17 {σ : am_S} {m : Nat} (h : ym_H σ m) : am_r σ m 17 = some (m + 15) := (h.2 (17, 15, 0, 82) (by decide)).1
theorem ym_H.s17 {σ : am_S} {m : Nat} (h : ym_H σ m) : am_sh σ (m + 15) = some (.inr (0, 82)) := (h.2 (17, 15, 0, 82) (by decide)).2
theorem ym_H.r28 {σ : am_S} {m : Nat} (h : ym_H σ m) : am_r σ m 28 = some (m + 16) := (h.2 (28, 16, 0, 2) (by decide)).1
theorem ym_H.s28 {σ : am_S} {m : Nat} (h : ym_H σ m) : am_sh σ (m + 16) = some (.inr (0, 2)) := (h.2 (28, 16, 0, 2) (by decide)).2
theorem ym_H.r29 {σ : am_S} {m : Nat} (h : ym_H σ m) : am_r σ m 29 = some (m + 17) := (h.2 (29, 17, 0, 4) (by decide)).1
theorem ym_H.s29 {σ : am_S} {m : Nat} (h : ym_H σ m) : am_sh σ (m + 17) = some (.inr (0, 4)) := (h.2 (29, 17, 0, 4) (by decide)).2
theorem ym_H.r30 {σ : am_S} {m : Nat} (h : ym_H σ m) : am_r σ m 30 = some (m + 18) := (h.2 (30, 18, 0, 4) (by decide)).1
theorem ym_H.s30 {σ : am_S} {m : Nat} (h : ym_H σ m) : am_sh σ (m + 18) = some (.inr (0, 4)) := (h.2 (30, 18, 0, 4) (by decide)).2
theorem ym_H.r31 {σ : am_S} {m : Nat} (h : ym_H σ m) : am_r σ m 31 = some (m + 19) := (h.2 (31, 19, 0, 4) (by decide)).1
theorem ym_H.s31 {σ : am_S} {m : Nat} (h : ym_H σ m) : am_sh σ (m + 19) = some (.inr (0, 4)) := (h.2 (31, 19, 0, 4) (by decide)).2
theorem ym_H.r40 {σ : am_S} {m : Nat} (h : ym_H σ m) : am_r σ m 40 = some (m + 20) := (h.2 (40, 20, 0, 384) (by decide)).1
theorem ym_H.s40 {σ : am_S} {m : Nat} (h : ym_H σ m) : am_sh σ (m + 20) = some (.inr (0, 384)) := (h.2 (40, 20, 0, 384) (by decide)).2
theorem ym_H.r41 {σ : am_S} {m : Nat} (h : ym_H σ m) : am_r σ m 41 = some (m + 21) := (h.2 (41, 21, 0, 2) (by decide)).1
theorem ym_H.s41 {σ : am_S} {m : Nat} (h : ym_H σ m) : am_sh σ (m + 21) = some (.inr (0, 2)) := (h.2 (41, 21, 0, 2) (by decide)).2
theorem ym_H.r42 {σ : am_S} {m : Nat} (h : ym_H σ m) : am_r σ m 42 = some (m + 22) := (h.2 (42, 22, 0, 2) (by decide)).1
theorem ym_H.s42 {σ : am_S} {m : Nat} (h : ym_H σ m) : am_sh σ (m + 22) = some (.inr (0, 2)) := (h.2 (42, 22, 0, 2) (by decide)).2
theorem ym_H.r43 {σ : am_S} {m : Nat} (h : ym_H σ m) : am_r σ m 43 = some (m + 23) := (h.2 (43, 23, 0, 100) (by decide)).1
theorem ym_H.s43 {σ : am_S} {m : Nat} (h : ym_H σ m) : am_sh σ (m + 23) = some (.inr (0, 100)) := (h.2 (43, 23, 0, 100) (by decide)).2
theorem ym_H.r46 {σ : am_S} {m : Nat} (h : ym_H σ m) : am_r σ m 46 = some (m + 24) := (h.2 (46, 24, 0, 40) (by decide)).1
theorem ym_H.s46 {σ : am_S} {m : Nat} (h : ym_H σ m) : am_sh σ (m + 24) = some (.inr (0, 40)) := (h.2 (46, 24, 0, 40) (by decide)).2
theorem ym_H.r47 {σ : am_S} {m : Nat} (h : ym_H σ m) : am_r σ m 47 = some (m + 25) := (h.2 (47, 25, 0, 40) (by decide)).1
theorem ym_H.s47 {σ : am_S} {m : Nat} (h : ym_H σ m) : am_sh σ (m + 25) = some (.inr (0, 40)) := (h.2 (47, 25, 0, 40) (by decide)).2
theorem ym_H.r48 {σ : am_S} {m : Nat} (h : ym_H σ m) : am_r σ m 48 = some (m + 26) := (h.2 (48, 26, 0, 40) (by decide)).1
theorem ym_H.s48 {σ : am_S} {m : Nat} (h : ym_H σ m) : am_sh σ (m + 26) = some (.inr (0, 40)) := (h.2 (48, 26, 0, 40) (by decide)).2
theorem ym_H.r49 {σ : am_S} {m : Nat} (h : ym_H σ m) : am_r σ m 49 = some (m + 27) := (h.2 (49, 27, 0, 40) (by decide)).1
theorem ym_H.s49 {σ : am_S} {m : Nat} (h : ym_H σ m) : am_sh σ (m + 27) = some (.inr (0, 40)) := (h.2 (49, 27, 0, 40) (by decide)).2
theorem ym_H.r50 {σ : am_S} {m : Nat} (h : ym_H σ m) : am_r σ m 50 = some (m + 28) := (h.2 (50, 28, 0, 40) (by decide)).1
theorem ym_H.s50 {σ : am_S} {m : Nat} (h : ym_H σ m) : am_sh σ (m + 28) = some (.inr (0, 40)) := (h.2 (50, 28, 0, 40) (by decide)).2
theorem ym_H.r51 {σ : am_S} {m : Nat} (h : ym_H σ m) : am_r σ m 51 = some (m + 29) := (h.2 (51, 29, 0, 4) (by decide)).1
theorem ym_H.s51 {σ : am_S} {m : Nat} (h : ym_H σ m) : am_sh σ (m + 29) = some (.inr (0, 4)) := (h.2 (51, 29, 0, 4) (by decide)).2
theorem ym_H.r52 {σ : am_S} {m : Nat} (h : ym_H σ m) : am_r σ m 52 = some (m + 30) := (h.2 (52, 30, 0, 4) (by decide)).1
theorem ym_H.s52 {σ : am_S} {m : Nat} (h : ym_H σ m) : am_sh σ (m + 30) = some (.inr (0, 4)) := (h.2 (52, 30, 0, 4) (by decide)).2
theorem ym_H.r53 {σ : am_S} {m : Nat} (h : ym_H σ m) : am_r σ m 53 = some (m + 31) := (h.2 (53, 31, 0, 480) (by decide)).1
theorem ym_H.s53 {σ : am_S} {m : Nat} (h : ym_H σ m) : am_sh σ (m + 31) = some (.inr (0, 480)) := (h.2 (53, 31, 0, 480) (by decide)).2
theorem ym_H.ir {σ σ' : am_S} {m : Nat} (h : ym_H σ m) (h1 : am_sh σ' = am_sh σ) (h2 : am_r σ' m = am_r σ m) : ym_H σ' m := by
  unfold ym_H
  rw [h1, h2]
  exact h
theorem ym_H.fm {P : Nat → Prop} {σ σ' : am_S} {m : Nat} (h : ym_H σ m) (hf : am_fm P σ σ') (h0 : ¬ P m) : ym_H σ' m := h.ir hf.1 (hf.2.2.2 m h0).2
/-- ints alone are changed, and those at P alone -/
def ym_f (P : Nat → Prop) (σ σ' : am_S) : Prop := am_fm P σ σ' ∧ am_r σ' = am_r σ
theorem ym_f.rf {P : Nat → Prop} {σ : am_S} : ym_f P σ σ := ⟨.rf, rfl⟩
theorem ym_f.tr {P : Nat → Prop} {σ σ' σ'' : am_S} (h : ym_f P σ σ') (h' : ym_f P σ' σ'') : ym_f P σ σ'' := ⟨h.1.tr h'.1, h'.2.trans h.2⟩
theorem ym_f.mono {P P' : Nat → Prop} {σ σ' : am_S} (h : ym_f P σ σ') (hp : ∀ a, P a → P' a) : ym_f P' σ σ' := ⟨h.1.mono hp, h.2⟩
theorem ym_f.wi {P : Nat → Prop} {σ σ' : am_S} {a k : Nat} {v : Int32} (h : ym_f P σ σ') (ha : P a) : ym_f P σ (am_wi σ' a k v) := ⟨h.1.wi ha, h.2⟩
theorem ym_f.i {P : Nat → Prop} {σ σ' : am_S} (h : ym_f P σ σ') {a : Nat} (ha : ¬ P a) : am_i σ' a = am_i σ a := (h.1.2.2.2 a ha).1
theorem ym_f.tp {P : Nat → Prop} {σ σ' : am_S} (h : ym_f P σ σ') : am_tp σ' = am_tp σ := h.1.2.1
theorem ym_f.us {P : Nat → Prop} {σ σ' : am_S} (h : ym_f P σ σ') : am_us σ' = am_us σ := h.1.2.2.1
theorem ym_H.f {P : Nat → Prop} {σ σ' : am_S} {m : Nat} (h : ym_H σ m) (hf : ym_f P σ σ') : ym_H σ' m := h.ir hf.1.1 (by rw [hf.2])
theorem ym_H.w {σ : am_S} {m a k : Nat} {v : Int32} (h : ym_H σ m) : ym_H (am_wi σ a k v) m := h.ir rfl rfl
/-! reading behind a write -/
theorem ym_io {σ : am_S} {a k b j : Nat} {v : Int32} (h : b ≠ a) : am_i (am_wi σ a k v) b j = am_i σ b j := by rw [am_i_wi, if_neg (fun q => h q.1)]
theorem ym_ij {σ : am_S} {a k b j : Nat} {v : Int32} (h : j ≠ k) : am_i (am_wi σ a k v) b j = am_i σ b j := by rw [am_i_wi, if_neg (fun q => h q.2)]
theorem ym_is {σ : am_S} {a k : Nat} {v : Int32} : am_i (am_wi σ a k v) a k = v := by rw [am_i_wi, if_pos ⟨rfl, rfl⟩]
theorem ym_iF {σ : am_S} {a k b : Nat} {v : Int32} (h : b ≠ a) : am_i (am_wi σ a k v) b = am_i σ b := funext fun j => ym_io h
theorem yl_2 : (2 : Int32) = nI 2 := rfl
theorem yl_3 : (3 : Int32) = nI 3 := rfl
theorem yl_4 : (4 : Int32) = nI 4 := rfl
theorem yl_5 : (5 : Int32) = nI 5 := rfl
theorem yl_6 : (6 : Int32) = nI 6 := rfl
theorem yl_7 : (7 : Int32) = nI 7 := rfl
theorem yl_8 : (8 : Int32) = nI 8 := rfl
theorem yl_9 : (9 : Int32) = nI 9 := rfl
theorem yl_10 : (10 : Int32) = nI 10 := rfl
theorem yl_11 : (11 : Int32) = nI 11 := rfl
theorem yl_12 : (12 : Int32) = nI 12 := rfl
theorem yl_13 : (13 : Int32) = nI 13 := rfl
theorem yl_30 : (30 : Int32) = nI 30 := rfl
theorem yl_40 : (40 : Int32) = nI 40 := rfl
theorem yl_80 : (80 : Int32) = nI 80 := rfl
theorem yl_120 : (120 : Int32) = nI 120 := rfl
theorem yl_192 : (192 : Int32) = nI 192 := rfl
theorem yl_t0 {n : Nat} (h : n < 2 ^ 31) : (0 < (nI n).toInt) ↔ 0 < n := by rw [nI_toInt h]; omega
theorem yl_tn {n : Nat} (h : n < 2 ^ 31) : ((nI n).toInt < 0) ↔ False := ⟨fun q => by rw [nI_toInt h] at q; omega, False.elim⟩
theorem yl_lt {a b : Nat} (ha : a < 2 ^ 31) (hb : b < 2 ^ 31) : ((nI a).toInt < (nI b).toInt) ↔ a < b := by rw [nI_toInt ha, nI_toInt hb]; omega
theorem yl_eq {a b : Nat} (ha : a < 2 ^ 31) (hb : b < 2 ^ 31) : (nI a = nI b) ↔ a = b := nI_inj ha hb
theorem yl_i0 : (0 : Int32).toNatClampNeg = 0 := rfl
theorem yl_m1 {n : Nat} (h : 1 ≤ n) : nI n - 1 = nI (n - 1) := pk_sub h
/-! the rows, by part: (version * 8 + label) * 2 + table -/
def ym_pt (v lb t : Nat) : Nat := (v * 8 + lb) * 2 + t
def ym_P (σ : am_S) (m : Nat) (P : Nat → List xr_E) : Prop := ∀ p, p < 32 → am_i σ (m + 2) p = nI (P p).length ∧ (P p).length ≤ 6 ∧ ∀ j e, (P p)[j]? = some e → am_i σ (m + 3) (6 * p + j) = e.1 ∧ am_i σ (m + 4) (6 * p + j) = e.2.1 ∧ am_i σ (m + 5) (6 * p + j) = e.2.2.1
theorem ym_P.f {Q : Nat → Prop} {σ σ' : am_S} {m : Nat} {P : Nat → List xr_E} (h : ym_P σ m P) (hf : ym_f Q σ σ') (h2 : ¬ Q (m + 2)) (h3 : ¬ Q (m + 3)) (h4 : ¬ Q (m + 4)) (h5 : ¬ Q (m + 5)) : ym_P σ' m P := by
  unfold ym_P
  rw [hf.i h2, hf.i h3, hf.i h4, hf.i h5]
  exact h
theorem c_ypart {g : am_G} {l : Launch} {σ : am_S} {v lb t : Nat} {Q : Option Value → am_S → Prop} (hQ : Q (some (.int (nI (ym_pt v lb t)))) σ) : am_C g l mX10_part 0 (am_tp σ, am_us σ) [.int (nI v), .int (nI lb), .int (nI t)] σ Q := by
  refine am_C.go [some (.int (nI v)), some (.int (nI lb)), some (.int (nI t))] (by decide +kernel) (Nat.le_of_ble_eq_true rfl) rfl (kX10_part_0 ?_)
  simp (disch := omega) only [ax_const, ax_iload, ax_lload, ax_aload, ax_istore, ax_astore, ax_iinc, ax_i2, ax_i2n, ax_l2, ax_lsh, ax_ii, ax_il, ax_li, ax_pop, ax_dup, ax_dup2, ax_if, ax_cmp, ax_acmp, ax_goto, ax_getI, ax_getR, ax_putI, ax_putR, ax_gets, ax_getsT, ax_aldI, ax_aldR, ax_astI, ax_astR, ax_alen, ax_ret, ax_aret, ax_vret, am_st, am_kl, List.getElem?_cons_zero, List.getElem?_cons_succ, List.set_cons_zero, List.set_cons_succ, Value.category, true_and, and_true, if_true, if_false, reduceCtorEq, Bool.false_eq_true, false_implies, forall_const, Option.some.injEq, exists_eq_left', exists_eq_left, Sum.inl.injEq, Sum.inr.injEq, Prod.mk.injEq, nI_toInt, nI_clamp, am_ix_nI, am_ix_0, am_ix_1, am_ix_2, am_ix_3, am_n0, am_n1, am_n2, am_n3, am_n4, am_t0, am_t1, am_t2, am_t3, am_t4, am_tm1, am_nS, am_nP, am_nM, Int.ofNat_lt, Int.ofNat_le, yl_2, yl_8, pk_mul, nI_add]
  exact hQ
theorem c_yisSession {g : am_G} {l : Launch} {σ : am_S} {s : Int32} {Q : Option Value → am_S → Prop} (hQ : Q (some (.int (if 0 ≤ s.toInt ∧ s.toInt < 4 then 1 else 0))) σ) : am_C g l mX10_isSession 0 (am_tp σ, am_us σ) [.int s] σ Q := by
  refine am_C.go [some (.int s)] (by decide +kernel) (Nat.le_of_ble_eq_true rfl) rfl (kX10_isSession_0 ?_)
  simp (disch := omega) only [ax_const, ax_iload, ax_lload, ax_aload, ax_istore, ax_astore, ax_iinc, ax_i2, ax_i2n, ax_l2, ax_lsh, ax_ii, ax_il, ax_li, ax_pop, ax_dup, ax_dup2, ax_if, ax_cmp, ax_acmp, ax_goto, ax_getI, ax_getR, ax_putI, ax_putR, ax_gets, ax_getsT, ax_aldI, ax_aldR, ax_astI, ax_astR, ax_alen, ax_ret, ax_aret, ax_vret, am_st, am_kl, List.getElem?_cons_zero, List.getElem?_cons_succ, List.set_cons_zero, List.set_cons_succ, Value.category, true_and, and_true, if_true, if_false, reduceCtorEq, Bool.false_eq_true, false_implies, forall_const, Option.some.injEq, exists_eq_left', exists_eq_left, Sum.inl.injEq, Sum.inr.injEq, Prod.mk.injEq, nI_toInt, nI_clamp, am_ix_nI, am_ix_0, am_ix_1, am_ix_2, am_ix_3, am_n0, am_n1, am_n2, am_n3, am_n4, am_t0, am_t1, am_t2, am_t3, am_t4, am_tm1, am_nS, am_nP, am_nM, Int.ofNat_lt, Int.ofNat_le]
  refine ⟨fun h => ⟨by simp, ?_⟩, fun h => ⟨fun h2 => ⟨by simp, ?_⟩, fun h2 => ⟨by simp, ?_⟩⟩⟩
  · rwa [if_neg (by omega)] at hQ
  · rwa [if_neg (by omega)] at hQ
  · rwa [if_pos (by omega)] at hQ
/-! find -/
theorem ym_find_loop {g : am_G} {l : Launch} {σ : am_S} {m p d : Nat} {k : Int32} {P : Nat → List xr_E} {Q : Option Value → am_S → Prop} (H : ym_H σ m) (hP : ym_P σ m P) (hp : p < 32) : ∀ (T pre : List xr_E), P p = pre ++ T → Q (some (.int (xr_find k T (6 * p + pre.length)))) σ →
    am_W g l mX10_find d (am_tp σ, am_us σ) Q 5 [some (.ref m), some (.int (nI p)), some (.int k), some (.int (nI (6 * p + pre.length)))] [] σ
  | [], pre, hT, hQ => by
    obtain ⟨h1, h2, h3⟩ := hP p hp
    rw [hT, List.append_nil] at h1 h2
    refine kX10_find_5 ?_
    simp (disch := omega) only [ax_const, ax_iload, ax_lload, ax_aload, ax_istore, ax_astore, ax_iinc, ax_i2, ax_i2n, ax_l2, ax_lsh, ax_ii, ax_il, ax_li, ax_pop, ax_dup, ax_dup2, ax_if, ax_cmp, ax_acmp, ax_goto, ax_getI, ax_getR, ax_putI, ax_putR, ax_gets, ax_getsT, ax_aldI, ax_aldR, ax_astI, ax_astR, ax_alen, ax_ret, ax_aret, ax_vret, am_st, am_kl, List.getElem?_cons_zero, List.getElem?_cons_succ, List.set_cons_zero, List.set_cons_succ, Value.category, true_and, and_true, if_true, if_false, reduceCtorEq, Bool.false_eq_true, false_implies, forall_const, Option.some.injEq, exists_eq_left', exists_eq_left, Sum.inl.injEq, Sum.inr.injEq, Prod.mk.injEq, nI_toInt, nI_clamp, am_ix_nI, am_ix_0, am_ix_1, am_ix_2, am_ix_3, am_n0, am_n1, am_n2, am_n3, am_n4, am_t0, am_t1, am_t2, am_t3, am_t4, am_tm1, am_nS, am_nP, am_nM, Int.ofNat_lt, Int.ofNat_le, H.1, H.r1, H.s1, yl_6, pk_mul, nI_add, h1, yl_lt]
    exact ⟨by omega, fun h => by omega, fun _ => hQ⟩
  | e :: T, pre, hT, hQ => by
    obtain ⟨h1, h2, h3⟩ := hP p hp
    have hl : (P p).length = pre.length + (T.length + 1) := by rw [hT, List.length_append, List.length_cons]
    obtain ⟨e1, e2, e3⟩ := h3 pre.length e (by rw [hT]; simp)
    rw [hl] at h1 h2
    have hidx : 6 * p + pre.length < 192 := by omega
    rw [xr_find] at hQ
    refine kX10_find_5 ?_
    simp (disch := omega) only [ax_const, ax_iload, ax_lload, ax_aload, ax_istore, ax_astore, ax_iinc, ax_i2, ax_i2n, ax_l2, ax_lsh, ax_ii, ax_il, ax_li, ax_pop, ax_dup, ax_dup2, ax_if, ax_cmp, ax_acmp, ax_goto, ax_getI, ax_getR, ax_putI, ax_putR, ax_gets, ax_getsT, ax_aldI, ax_aldR, ax_astI, ax_astR, ax_alen, ax_ret, ax_aret, ax_vret, am_st, am_kl, List.getElem?_cons_zero, List.getElem?_cons_succ, List.set_cons_zero, List.set_cons_succ, Value.category, true_and, and_true, if_true, if_false, reduceCtorEq, Bool.false_eq_true, false_implies, forall_const, Option.some.injEq, exists_eq_left', exists_eq_left, Sum.inl.injEq, Sum.inr.injEq, Prod.mk.injEq, nI_toInt, nI_clamp, am_ix_nI, am_ix_0, am_ix_1, am_ix_2, am_ix_3, am_n0, am_n1, am_n2, am_n3, am_n4, am_t0, am_t1, am_t2, am_t3, am_t4, am_tm1, am_nS, am_nP, am_nM, Int.ofNat_lt, Int.ofNat_le, H.1, H.r1, H.s1, H.r2, H.s2, yl_6, pk_mul, nI_add, h1, yl_lt, e1]
    refine ⟨hp, fun _ => ⟨hidx, fun q => ?_, fun q => ?_⟩, fun h => by omega⟩
    · rw [if_pos q] at hQ
      exact hQ
    · rw [if_neg q] at hQ
      have := ym_find_loop (g := g) (l := l) (d := d) H hP hp T (pre ++ [e]) (by rw [hT]; simp) (by rw [List.length_append]; exact hQ)
      rw [List.length_append] at this
      exact this
theorem c_yfind {g : am_G} {l : Launch} {σ : am_S} {m p : Nat} {k : Int32} {P : Nat → List xr_E} {Q : Option Value → am_S → Prop} (H : ym_H σ m) (hP : ym_P σ m P) (hp : p < 32) (hQ : Q (some (.int (xr_find k (P p) (6 * p)))) σ) : am_C g l mX10_find 0 (am_tp σ, am_us σ) [.ref m, .int (nI p), .int k] σ Q := by
  refine am_C.go [some (.ref m), some (.int (nI p)), some (.int k), none] (by decide +kernel) (Nat.le_of_ble_eq_true rfl) rfl (kX10_find_0 ?_)
  simp (disch := omega) only [ax_const, ax_iload, ax_lload, ax_aload, ax_istore, ax_astore, ax_iinc, ax_i2, ax_i2n, ax_l2, ax_lsh, ax_ii, ax_il, ax_li, ax_pop, ax_dup, ax_dup2, ax_if, ax_cmp, ax_acmp, ax_goto, ax_getI, ax_getR, ax_putI, ax_putR, ax_gets, ax_getsT, ax_aldI, ax_aldR, ax_astI, ax_astR, ax_alen, ax_ret, ax_aret, ax_vret, am_st, am_kl, List.getElem?_cons_zero, List.getElem?_cons_succ, List.set_cons_zero, List.set_cons_succ, Value.category, true_and, and_true, if_true, if_false, reduceCtorEq, Bool.false_eq_true, false_implies, forall_const, Option.some.injEq, exists_eq_left', exists_eq_left, Sum.inl.injEq, Sum.inr.injEq, Prod.mk.injEq, nI_toInt, nI_clamp, am_ix_nI, am_ix_0, am_ix_1, am_ix_2, am_ix_3, am_n0, am_n1, am_n2, am_n3, am_n4, am_t0, am_t1, am_t2, am_t3, am_t4, am_tm1, am_nS, am_nP, am_nM, Int.ofNat_lt, Int.ofNat_le, yl_6, pk_mul]
  exact ym_find_loop H hP hp (P p) [] rfl hQ
