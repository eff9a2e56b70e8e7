/-! a reading sees its tokens through xp_hd and xp_nm alone -/
theorem xe_need {ts ts' : List (Nat × Int32)} {t : Nat} (H : xp_hd ts' = xp_hd ts) : xp_need ts' t = xp_need ts t := by
  funext m; unfold xp_need; rw [H]
theorem xe_tbl {ts ts' : List (Nat × Int32)} (H : xp_hd ts' = xp_hd ts) : xp_tbl ts' = xp_tbl ts := by
  funext m; unfold xp_tbl; rw [H, xe_need H]
theorem xe_ctb {ts ts' : List (Nat × Int32)} (H : xp_hd ts' = xp_hd ts) : xp_ctb ts' = xp_ctb ts := by
  funext m; unfold xp_ctb; rw [H, xe_need H, xe_tbl H]
theorem xe_cl2 {ts ts' : List (Nat × Int32)} {t : Nat} (H : xp_hd ts' = xp_hd ts) : xp_cl2 ts' t = xp_cl2 ts t := by
  funext m; unfold xp_cl2; rw [H]
theorem xe_col {ts ts' : List (Nat × Int32)} (H : xp_hd ts' = xp_hd ts) : xp_col ts' = xp_col ts := by
  funext m; unfold xp_col; rw [xe_cl2 H, xe_ctb H]
theorem xe_loop {ts ts' : List (Nat × Int32)} {p : Nat → Bool} {f : xp_M → xp_M} (H : xp_hd ts' = xp_hd ts) : ∀ n m, xp_loop ts' p f n m = xp_loop ts p f n m
  | 0, m => rfl
  | n + 1, m => by rw [xp_loop, xp_loop, H]; split
                   · exact xe_loop H n _
                   · rfl
theorem xe_lp {ts ts' : List (Nat × Int32)} {p : Nat → Bool} {f : xp_M → xp_M} {n : Nat} (H : xp_hd ts' = xp_hd ts) : xp_loop ts' p f n = xp_loop ts p f n := by
  funext m; exact xe_loop H n m
theorem xe_Fb {ts ts' : List (Nat × Int32)} {fE fF : xp_M → xp_M} (H : xp_hd ts' = xp_hd ts) (N : xp_nm ts' = xp_nm ts) : xp_Fb ts' fE fF = xp_Fb ts fE fF := by
  funext m; unfold xp_Fb; rw [H, N, xe_need H, xe_col H]
theorem xe_Pf {ts ts' : List (Nat × Int32)} {f : xp_M → xp_M} (H : xp_hd ts' = xp_hd ts) : xp_Pf ts' f = xp_Pf ts f := by
  funext m; unfold xp_Pf; rw [xe_lp H]
theorem xe_Ef {ts ts' : List (Nat × Int32)} {f : xp_M → xp_M} (H : xp_hd ts' = xp_hd ts) : xp_Ef ts' f = xp_Ef ts f := by
  funext m; unfold xp_Ef; rw [xe_lp H, xe_Pf H]
theorem xe_F {ts ts' : List (Nat × Int32)} (H : xp_hd ts' = xp_hd ts) (N : xp_nm ts' = xp_nm ts) : ∀ n, xp_F ts' n = xp_F ts n
  | 0 => by rw [xp_F, xp_F, xe_Fb H N]
  | n + 1 => by rw [xp_F, xp_F, xe_Fb H N, xe_Ef H, xe_F H N n]
theorem xe_E {ts ts' : List (Nat × Int32)} {n : Nat} (H : xp_hd ts' = xp_hd ts) (N : xp_nm ts' = xp_nm ts) : xp_E ts' n = xp_E ts n := by
  unfold xp_E; rw [xe_Ef H, xe_F H N]
theorem xe_cmp {ts ts' : List (Nat × Int32)} {e : xp_M → xp_M} (H : xp_hd ts' = xp_hd ts) : xp_cmp ts' e = xp_cmp ts e := by
  funext m; unfold xp_cmp; rw [H, xe_need H]
theorem xe_Nb {ts ts' : List (Nat × Int32)} {e fC fN : xp_M → xp_M} (H : xp_hd ts' = xp_hd ts) : xp_Nb ts' e fC fN = xp_Nb ts e fC fN := by
  funext m; unfold xp_Nb; rw [H, xe_need H, xe_cmp H]
theorem xe_Kf {ts ts' : List (Nat × Int32)} {f : xp_M → xp_M} (H : xp_hd ts' = xp_hd ts) : xp_Kf ts' f = xp_Kf ts f := by
  funext m; unfold xp_Kf; rw [xe_lp H]
theorem xe_Cf {ts ts' : List (Nat × Int32)} {f : xp_M → xp_M} (H : xp_hd ts' = xp_hd ts) : xp_Cf ts' f = xp_Cf ts f := by
  funext m; unfold xp_Cf; rw [xe_lp H, xe_Kf H]
theorem xe_N {ts ts' : List (Nat × Int32)} (H : xp_hd ts' = xp_hd ts) (N : xp_nm ts' = xp_nm ts) : ∀ n, xp_N ts' n = xp_N ts n
  | 0 => by rw [xp_N, xp_N, xe_Nb H, xe_E H N]
  | n + 1 => by rw [xp_N, xp_N, xe_Nb H, xe_E H N, xe_Cf H, xe_N H N n]
theorem xe_C {ts ts' : List (Nat × Int32)} {n : Nat} (H : xp_hd ts' = xp_hd ts) (N : xp_nm ts' = xp_nm ts) : xp_C ts' n = xp_C ts n := by
  unfold xp_C; rw [xe_Cf H, xe_N H N]
theorem xe_Xm {ts ts' : List (Nat × Int32)} (H : xp_hd ts' = xp_hd ts) (N : xp_nm ts' = xp_nm ts) : xp_Xm ts' = xp_Xm ts := by
  funext m; unfold xp_Xm; rw [H, xe_need H, xe_need H, xe_E H N]
theorem xe_oE {ts ts' : List (Nat × Int32)} {j : Nat} (H : xp_hd ts' = xp_hd ts) (N : xp_nm ts' = xp_nm ts) : xp_oE ts' j = xp_oE ts j := by
  funext W; unfold xp_oE; rw [xe_E H N]
theorem xe_oX {ts ts' : List (Nat × Int32)} {j : Nat} (H : xp_hd ts' = xp_hd ts) (N : xp_nm ts' = xp_nm ts) : xp_oX ts' j = xp_oX ts j := by
  funext W; unfold xp_oX; rw [xe_Xm H N]
theorem xe_oW {ts ts' : List (Nat × Int32)} (H : xp_hd ts' = xp_hd ts) (N : xp_nm ts' = xp_nm ts) : xp_oW ts' = xp_oW ts := by
  funext W; unfold xp_oW; rw [H, xe_C H N]
theorem xe_oT {ts ts' : List (Nat × Int32)} {i : Nat} (H : xp_hd ts' = xp_hd ts) : xp_oT ts' i = xp_oT ts i := by
  funext W; unfold xp_oT; rw [xe_tbl H]
theorem xe_rI {ts ts' : List (Nat × Int32)} (H : xp_hd ts' = xp_hd ts) (N : xp_nm ts' = xp_nm ts) : xp_rI ts' = xp_rI ts := by
  funext W; unfold xp_rI; rw [xe_oE H N, xe_oE H N, xe_oE H N, xe_need H, xe_oT H]
theorem xe_rU {ts ts' : List (Nat × Int32)} (H : xp_hd ts' = xp_hd ts) (N : xp_nm ts' = xp_nm ts) : xp_rU ts' = xp_rU ts := by
  funext W; unfold xp_rU; rw [H, xe_oE H N, xe_need H, xe_need H, xe_oT H]
theorem xe_sl {ts ts' : List (Nat × Int32)} (H : xp_hd ts' = xp_hd ts) (N : xp_nm ts' = xp_nm ts) : ∀ n i W, xp_sl ts' n i W = xp_sl ts n i W
  | 0, _, _ => rfl
  | n + 1, i, W => by
    rw [xp_sl, xp_sl, H, xe_oX H N]
    split
    · exact xe_sl H N n (i + 1) _
    · rfl
theorem xe_rS {ts ts' : List (Nat × Int32)} (H : xp_hd ts' = xp_hd ts) (N : xp_nm ts' = xp_nm ts) : xp_rS ts' = xp_rS ts := by
  funext W; unfold xp_rS xp_s84 xp_s0; rw [H, xe_need H, xe_oT H, xe_oT H, xe_sl H N, xe_oX H N]
theorem xe_rA {ts ts' : List (Nat × Int32)} (H : xp_hd ts' = xp_hd ts) (N : xp_nm ts' = xp_nm ts) : xp_rA ts' = xp_rA ts := by
  funext W; unfold xp_rA xp_a2 xp_a1; rw [H, xe_col H, xe_oX H N]
theorem xe_parse {ts ts' : List (Nat × Int32)} {f : Nat → Int32} (H : xp_hd ts' = xp_hd ts) (N : xp_nm ts' = xp_nm ts) : xp_parse ts' f = xp_parse ts f := by
  unfold xp_parse; rw [H, xe_rI H N, xe_rU H N, xe_oW H N, xe_oT H, xe_rA H N, xe_rS H N]
theorem xe_ok {ts ts' : List (Nat × Int32)} {W : xp_W} (H : xp_hd ts' = xp_hd ts) : xp_ok ts' W = xp_ok ts W := by
  unfold xp_ok; rw [H]
theorem xe_end (ts : List (Nat × Int32)) (a : Nat) : (ts ++ [(36, 0)]).getD a (36, 0) = ts.getD a (36, 0) := by
  rw [List.getD_eq_getElem?_getD, List.getD_eq_getElem?_getD]
  by_cases h : a < ts.length
  · rw [List.getElem?_append_left h]
  · rw [List.getElem?_append_right (by omega), List.getElem?_eq_none (l := ts) (by omega)]
    by_cases e : a - ts.length = 0
    · rw [e]; rfl
    · rw [List.getElem?_eq_none (by simp; omega)]
theorem xe_hd (ts : List (Nat × Int32)) : xp_hd (ts ++ [(36, 0)]) = xp_hd ts := by
  funext a; unfold xp_hd; rw [xe_end]
theorem xe_nm (ts : List (Nat × Int32)) : xp_nm (ts ++ [(36, 0)]) = xp_nm ts := by
  funext a; unfold xp_nm; rw [xe_end]
theorem xe_EN (ts : List (Nat × Int32)) : xp_EN (ts ++ [(36, 0)]) := fun a h => by
  rw [xe_hd]
  rw [List.length_append] at h
  exact xp_end (by simp at h; omega)
