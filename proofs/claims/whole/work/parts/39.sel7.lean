theorem c_lsort {g : am_G} {l : Launch} {σ : am_S} {e S f s gr : Nat} {k : Nat → Nat} {ss : Nat → List (Nat × Int32)} {two top : Bool} {L1 L2 : List xr_E} {FL : List (Nat × Nat)} {GO : List Nat} {val : xr_E → xr_E → Int32} {Q : Option Value → am_S → Prop} (hgr : gr ≤ 40) (hV : k 5 ≠ 0 → k 5 ≠ 2 → xl_V 5 val f s two ss L1 L2) (hok : xl_ok two L1 L2 FL) (hlen : GO.length = FL.length) (hJ : xl_J g σ e S k ss f s two top L1 L2) (hFL : xl_FL σ e FL) (hGO : xl_GO σ e GO) (hg : am_i σ e 6 = nI gr)
    (hQ : ∀ σ' R, R = xl_so (xl_lt (decide (am_i σ S 2 ≠ 0)) (xl_rk k val L1 L2 FL GO)) gr 0 [] → xl_J g σ' e S k ss f s two top L1 L2 → am_fm (xl_P S e) σ σ' → xl_FL σ' e FL → xl_GO σ' e GO → am_i σ' e 6 = nI gr → xl_SO σ' e R → R.length = gr → Q none σ') : am_C g l mX4_sort 4 (am_tp σ, am_us σ) [.ref e] σ Q := by
  obtain ⟨y1, y2, y3, y4, y5, y6, y7, y8, y9, y10, y11⟩ := id hJ.2.1
  have hS10 : am_r σ S 10 = some (S + 10) := hJ.2.2.2.2.1.2.2.2.2.1
  have hcode := hJ.2.2.2.2.2.1 5 (by decide)
  have hca : xs_ca S 5 = S + 10 := rfl
  rw [hca] at hcode
  have hkind := hcode.2.2.2.2.2.2.2.1
  have hk3 := hcode.2.2.2.2.2.2.2.2.2.2.1
  have e0 : nI (k 5) = 0 ↔ k 5 = 0 := nI_inj (b := 0) (by omega) (by omega)
  have main : am_W g l mX4_sort 4 (am_tp σ, am_us σ) Q 21 [some (.ref e), some (.int (if k 5 = 0 then 0 else 1)), some (.int (nI 0)), none] [] σ :=
    xl_sort_loop (desc := decide (am_i σ S 2 ≠ 0)) (R := xl_so (xl_lt (decide (am_i σ S 2 ≠ 0)) (xl_rk k val L1 L2 FL GO)) gr 0 []) (Nat.le_refl _) hgr hV hok hlen (fun σ' a b c d1 d2 d3 d4 => hQ σ' _ rfl a b c d1 d2 d3 d4) gr 0 [] σ none (Nat.add_zero _) rfl rfl (fun q hq => by simp at hq) (fun q hq => by omega) hJ (by simp) hFL hGO hg .rf rfl rfl
  refine am_C.go [some (.ref e), none, none, none] (by decide +kernel) (Nat.le_of_ble_eq_true rfl) rfl (kX4_sort_0 ?_)
  simp (disch := omega) only [ax_const, ax_iload, ax_lload, ax_aload, ax_istore, ax_astore, ax_iinc, ax_i2, ax_i2n, ax_l2, ax_lsh, ax_ii, ax_il, ax_li, ax_pop, ax_dup, ax_dup2, ax_if, ax_cmp, ax_acmp, ax_goto, ax_getI, ax_getR, ax_putI, ax_putR, ax_gets, ax_getsT, ax_aldI, ax_aldR, ax_astI, ax_astR, ax_alen, ax_ret, ax_aret, ax_vret, am_st, am_kl, List.getElem?_cons_zero, List.getElem?_cons_succ, List.set_cons_zero, List.set_cons_succ, Value.category, true_and, and_true, if_true, if_false, reduceCtorEq, Bool.false_eq_true, false_implies, forall_const, Option.some.injEq, exists_eq_left', exists_eq_left, Sum.inl.injEq, Sum.inr.injEq, Prod.mk.injEq, nI_toInt, nI_clamp, am_ix_nI, am_ix_0, am_ix_1, am_ix_2, am_ix_3, am_n0, am_n1, am_n2, am_n3, am_n4, am_t0, am_t1, am_t2, am_t3, am_t4, am_tm1, am_nS, am_nP, am_nM, Int.ofNat_lt, Int.ofNat_le, y1, y4, hS10, hJ.2.2.2.2.1.1, hcode.1, hkind, e0]
  refine ⟨fun c => ?_, fun c => ?_⟩
  · rw [if_pos c] at main
    exact main
  · rw [if_neg c] at main
    exact main
/-- a session without its results -/
def xe_Q (σ : am_S) (e st : Nat) (dr : List Nat) : Prop :=
  am_sh σ e = some (.inl 5) ∧ am_r σ e 0 = some st ∧ am_r σ e 1 = some (e + 1) ∧ am_r σ e 3 = some (e + 2) ∧ am_sh σ (e + 1) = some (.inr (1, 80)) ∧ am_sh σ (e + 2) = some (.inr (3, 40)) ∧ (∀ i, i < 40 → am_r σ (e + 2) i = some (e + 3 + i) ∧ am_sh σ (e + 3 + i) = some (.inr (0, 3))) ∧
  am_i σ e 2 = nI dr.length ∧ dr.length ≤ 80 ∧ ∀ i c, dr[i]? = some c → am_i σ (e + 1) i = nI c
theorem xe_Q.fm {P : Nat → Prop} {σ σ' : am_S} {e st : Nat} {dr : List Nat} (h : xe_Q σ e st dr) (hf : am_fm P σ σ') (hd : ∀ b, P b → b < e ∨ e + 3 ≤ b) : xe_Q σ' e st dr := by
  have n0 : ¬ P e := fun z => by have := hd _ z; omega
  have n1 : ¬ P (e + 1) := fun z => by have := hd _ z; omega
  have n2 : ¬ P (e + 2) := fun z => by have := hd _ z; omega
  unfold xe_Q
  rw [hf.1, (hf.2.2.2 e n0).1, (hf.2.2.2 e n0).2, (hf.2.2.2 _ n1).1, (hf.2.2.2 _ n2).2]
  exact h
theorem xe_Q.wi {σ : am_S} {e st i : Nat} {x : Int32} {dr : List Nat} (h : xe_Q σ e st dr) (hi : i ≠ 2) : xe_Q (am_wi σ e i x) e st dr := by
  obtain ⟨h1, h2, h3, h4, h5, h6, h7, h8, h9, h10⟩ := h
  exact ⟨h1, h2, h3, h4, h5, h6, h7, by rw [am_i_wi, if_neg (by omega)]; exact h8, h9, fun q c hq => by rw [am_i_wi, if_neg (by omega)]; exact h10 q c hq⟩
