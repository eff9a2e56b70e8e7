/-! no reading passes the end -/
def xp_EN (ts : List (Nat × Int32)) : Prop := ∀ a, a + 1 = ts.length → xp_hd ts a = 36
theorem xp_EN.lt {ts : List (Nat × Int32)} (h : xp_EN ts) {a : Nat} (hh : xp_hd ts a ≠ 36) : a + 1 < ts.length := by
  have h1 := xp_hd_lt (ts := ts) (a := a) rfl hh
  have h2 : a + 1 ≠ ts.length := fun e => hh (h a e)
  omega
def xp_Lt (ts : List (Nat × Int32)) (f : xp_M → xp_M) : Prop := ∀ m, m.1 < ts.length → (f m).1 < ts.length
theorem xp_Lt.bad {ts : List (Nat × Int32)} : xp_Lt ts xp_bad := fun _ h => h
theorem xp_Lt.need {ts : List (Nat × Int32)} (hE : xp_EN ts) {t : Nat} (ht : t ≠ 36) : xp_Lt ts (xp_need ts t) := fun m h => by
  unfold xp_need
  split
  · rename_i e
    exact hE.lt (by rw [e]; exact ht)
  · exact h
theorem xp_Lt.tbl {ts : List (Nat × Int32)} (hE : xp_EN ts) : xp_Lt ts (fun m => (xp_tbl ts m).2) := fun m h => by
  unfold xp_tbl
  dsimp only
  split
  · rename_i e
    exact hE.lt (by rw [e]; decide)
  · exact xp_Lt.need hE (by decide) m h
theorem xp_Lt.col {ts : List (Nat × Int32)} (hE : xp_EN ts) : xp_Lt ts (xp_col ts) := fun m h => by
  have h1 : (xp_ctb ts m).2.1 < ts.length := by
    unfold xp_ctb
    split
    · exact xp_Lt.need hE (by decide) _ (xp_Lt.tbl hE m h)
    · exact h
  unfold xp_col xp_cl2
  split
  · rename_i e
    exact hE.lt (a := (xp_ctb ts m).2.1) (by omega)
  · exact h1
theorem xp_Lt.loop {ts : List (Nat × Int32)} (hE : xp_EN ts) {p : Nat → Bool} {f : xp_M → xp_M} (hp : p 36 = false) (hf : xp_Lt ts f) : ∀ n, xp_Lt ts (xp_loop ts p f n)
  | 0 => fun _ h => h
  | n + 1 => fun m h => by
    rw [xp_loop]
    split
    · rename_i e
      exact xp_Lt.loop hE hp hf n _ (hf _ (hE.lt (a := m.1) (fun q => by rw [q, hp] at e; cases e)))
    · exact h
theorem xp_Lt.Pf {ts : List (Nat × Int32)} (hE : xp_EN ts) {f : xp_M → xp_M} (hf : xp_Lt ts f) : xp_Lt ts (xp_Pf ts f) := fun m h => xp_Lt.loop hE rfl hf 80 _ (hf m h)
theorem xp_Lt.Ef {ts : List (Nat × Int32)} (hE : xp_EN ts) {f : xp_M → xp_M} (hf : xp_Lt ts f) : xp_Lt ts (xp_Ef ts f) := fun m h => xp_Lt.loop hE rfl (hf.Pf hE) 80 _ (hf.Pf hE m h)
theorem xp_Lt.Fb {ts : List (Nat × Int32)} (hE : xp_EN ts) {fE fF : xp_M → xp_M} (he : xp_Lt ts fE) (hF : xp_Lt ts fF) : xp_Lt ts (xp_Fb ts fE fF) := fun m h => by
  unfold xp_Fb
  split
  · rename_i e
    exact hE.lt (a := m.1) (by rw [e]; decide)
  · split
    · rename_i e
      exact xp_Lt.need hE (by decide) _ (he _ (hE.lt (a := m.1) (by rw [e]; decide)))
    · split
      · rename_i e
        exact hF _ (hE.lt (a := m.1) (by rw [e]; decide))
      · exact xp_Lt.col hE m h
theorem xp_Lt.F {ts : List (Nat × Int32)} (hE : xp_EN ts) : ∀ n, xp_Lt ts (xp_F ts n)
  | 0 => .Fb hE .bad .bad
  | n + 1 => .Fb hE ((xp_Lt.F hE n).Ef hE) (xp_Lt.F hE n)
theorem xp_Lt.E {ts : List (Nat × Int32)} (hE : xp_EN ts) (n : Nat) : xp_Lt ts (xp_E ts n) := (xp_Lt.F hE n).Ef hE
theorem xp_Lt.Nb {ts : List (Nat × Int32)} (hE : xp_EN ts) {e fC fN : xp_M → xp_M} (he : xp_Lt ts e) (hC : xp_Lt ts fC) (hN : xp_Lt ts fN) : xp_Lt ts (xp_Nb ts e fC fN) := fun m h => by
  unfold xp_Nb
  split
  · rename_i q
    exact xp_Lt.need hE (by decide) _ (hC _ (hE.lt (a := m.1) (by rw [q]; decide)))
  · split
    · rename_i q
      exact hN _ (hE.lt (a := m.1) (by rw [q]; decide))
    · exact he _ (xp_Lt.need hE (xp_sg_ne _) _ (he m h))
theorem xp_Lt.Cf {ts : List (Nat × Int32)} (hE : xp_EN ts) {f : xp_M → xp_M} (hf : xp_Lt ts f) : xp_Lt ts (xp_Cf ts f) := by
  have hK : xp_Lt ts (xp_Kf ts f) := fun m h => xp_Lt.loop hE rfl hf 80 _ (hf m h)
  exact fun m h => xp_Lt.loop hE rfl hK 80 _ (hK m h)
theorem xp_Lt.N {ts : List (Nat × Int32)} (hE : xp_EN ts) : ∀ n, xp_Lt ts (xp_N ts n)
  | 0 => .Nb hE (xp_Lt.E hE 0) .bad .bad
  | n + 1 => .Nb hE (xp_Lt.E hE (n + 1)) ((xp_Lt.N hE n).Cf hE) (xp_Lt.N hE n)
theorem xp_Lt.C {ts : List (Nat × Int32)} (hE : xp_EN ts) (n : Nat) : xp_Lt ts (xp_C ts n) := (xp_Lt.N hE n).Cf hE
/-! statements: step by step -/
def yz (o : yp_O) (i j : Nat) (cm : yp_O) : Prop := i ≤ j ∧ j ≤ o.length ∧ (o.drop i).take (j - i) = cm
theorem yz.app {o cm x : yp_O} {i j : Nat} (h : yz o i j cm) : yz (o ++ x) i j cm := by
  obtain ⟨h1, h2, h3⟩ := h
  refine ⟨h1, by rw [List.length_append]; omega, ?_⟩
  rw [List.drop_append_of_le_length (by omega), List.take_append_of_le_length (by rw [List.length_drop]; omega), h3]
theorem yz.new (o cm : yp_O) : yz (o ++ cm) o.length (o ++ cm).length cm := by
  refine ⟨by rw [List.length_append]; omega, Nat.le_refl _, ?_⟩
  rw [List.drop_left, List.length_append, Nat.add_sub_cancel_left, List.take_length]
def yg (ts : List (Nat × Int32)) (W : xp_W) (S : ys_S) : Prop := W.2.2.2.2.1 = false ∧ S.2.1 = false ∧ W.2.2.2.1 = S.1 ∧ (∀ t, W.2.2.2.2.2.2 t = yc S.2.2.1 t) ∧ yk S.2.2.1 ∧ S.1 < ts.length ∧ 1 ≤ S.1
def ybb (W : xp_W) (S : ys_S) : Prop := W.2.2.2.2.1 = true ∧ S.2.1 = true
theorem yr_adv {ts : List (Nat × Int32)} {W : xp_W} {S : ys_S} (hEN : xp_EN ts) (h : yg ts W S) (hh : xp_hd ts S.1 ≠ 36) : yg ts (xp_om xp_adv W) (S.1 + 1, S.2) := by
  obtain ⟨h1, h2, h3, h4, h5, h6, h7⟩ := h
  refine ⟨h1, h2, ?_, h4, h5, hEN.lt hh, Nat.le_add_left _ _⟩
  show W.2.2.2.1 + 1 = S.1 + 1
  rw [h3]
theorem yr_T {ts : List (Nat × Int32)} {W : xp_W} {S : ys_S} (h : yg ts W S) (T : Nat → Nat) : yg ts W (S.1, S.2.1, S.2.2.1, T) := h
theorem yr_sf {ts : List (Nat × Int32)} {W : xp_W} {S : ys_S} (h : yg ts W S) (i : Nat) (x : Int32) : yg ts (xp_sf i x W) S := h
theorem yr_need {ts : List (Nat × Int32)} {W : xp_W} {S : ys_S} {t : Nat} (hEN : xp_EN ts) (h : yg ts W S) (ht : t ≠ 36) :
    (yg ts (xp_om (xp_need ts t) W) (ys_need ts t S) ∧ xp_hd ts S.1 = t ∧ xp_om (xp_need ts t) W = xp_om xp_adv W ∧ ys_need ts t S = (S.1 + 1, S.2)) ∨ ybb (xp_om (xp_need ts t) W) (ys_need ts t S) := by
  have h0 := h
  obtain ⟨h1, h2, h3, h4, h5, h6, h7⟩ := h
  by_cases hh : xp_hd ts S.1 = t
  · have e1 : xp_om (xp_need ts t) W = xp_om xp_adv W := by
      unfold xp_om xp_need
      rw [if_pos (by rw [h3]; exact hh)]
    have e2 : ys_need ts t S = (S.1 + 1, S.2) := by
      unfold ys_need
      rw [if_neg (by rw [h2]; decide), if_pos hh]
    rw [e1, e2]
    exact Or.inl ⟨yr_adv hEN h0 (by rw [hh]; exact ht), hh, rfl, rfl⟩
  · refine Or.inr ⟨?_, ?_⟩
    · show (xp_need ts t W.2.2.2).2.1 = true
      unfold xp_need
      rw [if_neg (by rw [h3]; exact hh)]
      rfl
    · unfold ys_need
      rw [if_neg (by rw [h2]; decide), if_neg hh]
theorem yr_name {ts : List (Nat × Int32)} {W : xp_W} {S : ys_S} {i : Nat} (hEN : xp_EN ts) (h : yg ts W S) :
    (yg ts (xp_oT ts i W) (ys_name ts S) ∧ xp_hd ts S.1 - 19 < 2 ∧ xp_oT ts i W = xp_sf i (nI (xp_hd ts S.1 - 19)) (xp_om xp_adv W) ∧ ys_name ts S = (S.1 + 1, S.2.1, S.2.2.1, yt (yt S.2.2.2 (1 + S.2.2.2 0) (xp_hd ts S.1 - 19)) 0 (S.2.2.2 0 + 1))) ∨ ybb (xp_oT ts i W) (ys_name ts S) := by
  have h0 := h
  obtain ⟨h1, h2, h3, h4, h5, h6, h7⟩ := h
  by_cases hh : xp_hd ts S.1 = 19 ∨ xp_hd ts S.1 = 20
  · have e1 : xp_oT ts i W = xp_sf i (nI (xp_hd ts S.1 - 19)) (xp_om xp_adv W) := by
      have et : xp_tbl ts W.2.2.2 = (xp_hd ts S.1 - 19, xp_adv W.2.2.2) := by
        unfold xp_tbl xp_need
        rw [h3]
        rcases hh with hh | hh
        · rw [if_pos hh, hh]
        · rw [if_neg (by omega), if_pos hh, hh]
      show xp_sf i (nI (xp_tbl ts W.2.2.2).1) (W.1, W.2.1, W.2.2.1, (xp_tbl ts W.2.2.2).2) = _
      rw [et]
      rfl
    have e2 : ys_name ts S = (S.1 + 1, S.2.1, S.2.2.1, yt (yt S.2.2.2 (1 + S.2.2.2 0) (xp_hd ts S.1 - 19)) 0 (S.2.2.2 0 + 1)) := by
      unfold ys_name
      rw [if_pos hh]
    rw [e1, e2]
    exact Or.inl ⟨yr_T (yr_sf (yr_adv hEN h0 (by omega)) i _) _, by omega, rfl, rfl⟩
  · refine Or.inr ⟨?_, ?_⟩
    · show (xp_tbl ts W.2.2.2).2.2.1 = true
      unfold xp_tbl xp_need
      rw [if_neg (by rw [h3]; exact fun e => hh (Or.inl e)), if_neg (by rw [h3]; exact fun e => hh (Or.inr e))]
      rfl
    · unfold ys_name
      rw [if_neg hh]
/-- code j is worth what lies between the places pf and pt -/
def ye (W : xp_W) (S : ys_S) (j pf pt : Nat) : Prop := ∃ cm, yv_E (W.2.2.1 j) cm ∧ yz S.2.2.1 (S.2.2.2 pf) (S.2.2.2 pt) cm
theorem ye.keep {W W' : xp_W} {S S' : ys_S} {j pf pt : Nat} {x : yp_O} (h : ye W S j pf pt) (hs : W'.2.2.1 j = W.2.2.1 j) (ho : S'.2.2.1 = S.2.2.1 ++ x) (h1 : S'.2.2.2 pf = S.2.2.2 pf) (h2 : S'.2.2.2 pt = S.2.2.2 pt) : ye W' S' j pf pt := by
  obtain ⟨cm, k1, k2⟩ := h
  refine ⟨cm, by rw [hs]; exact k1, ?_⟩
  rw [ho, h1, h2]
  exact k2.app
theorem yr_E {ts : List (Nat × Int32)} {W : xp_W} {S : ys_S} {j : Nat} (hts : ts.length ≤ 81) (hEN : xp_EN ts) (h : yg ts W S) (hj : W.2.2.1 j = []) :
    (yg ts (xp_oE ts j W) (ys_term ts j false S) ∧ ye (xp_oE ts j W) (ys_term ts j false S) j (9 + j) (13 + j) ∧ ∃ x, (ys_term ts j false S).2.2.1 = S.2.2.1 ++ x) ∨ ybb (xp_oE ts j W) (ys_term ts j false S) := by
  obtain ⟨h1, h2, h3, h4, h5, h6, h7⟩ := h
  have et : ys_tm ts false S.1 S.2.2.1 = ((yp_ex ts 0 S.1 S.2.2.1).1, (yp_ex ts 0 S.1 S.2.2.1).2.1, (yp_ex ts 0 S.1 S.2.2.1).2.2, 0) := by
    unfold ys_tm
    rw [if_neg (fun z => absurd z.1 (by decide)), if_neg (fun z => absurd z.1 (by decide))]
  obtain ⟨s1, s2⟩ := yp_ex_sim (u := 0) (n := 6) hts rfl (xp_cin j W) S.2.2.1 h1 (by show W.2.2.2.1 ≤ _; rw [h3]; exact Nat.le_of_lt h6) (by show 1 ≤ W.2.2.2.1; rw [h3]; exact h7)
  have eS : (xp_cin j W).1 = S.1 := h3
  rw [eS] at s1 s2
  obtain ⟨g1, g2, -⟩ := xp_Gr.E ts 6 (xp_cin j W) (by rw [eS]; exact Nat.le_of_lt h6)
  rw [eS] at g1
  cases hb : (xp_E ts 6 (xp_cin j W)).2.1 with
  | true =>
    refine Or.inr ⟨hb, ?_⟩
    show (ys_tm ts false S.1 S.2.2.1).2.1 = true
    rw [et]
    exact s2 hb
  | false =>
    obtain ⟨c, cm, k1, k2, k3⟩ := s1 hb
    have k3 : yp_ex ts 0 S.1 S.2.2.1 = _ := k3
    rw [k3] at et
    have eo : (ys_term ts j false S).2.2.1 = S.2.2.1 ++ cm := by
      show (ys_tm ts false S.1 S.2.2.1).2.2.1 = _
      rw [et]
    refine Or.inl ⟨⟨hb, ?_, ?_, fun t => ?_, ?_, ?_, ?_⟩, ⟨cm, ?_, ?_⟩, cm, eo⟩
    · show (ys_tm ts false S.1 S.2.2.1).2.1 = false
      rw [et]
    · show (xp_E ts 6 (xp_cin j W)).1 = (ys_tm ts false S.1 S.2.2.1).1
      rw [et]
    · rw [eo, yc_app, ← h4]
      exact k2.2.1 t
    · rw [eo]
      exact yk_app h5 k2.2.2
    · show (ys_tm ts false S.1 S.2.2.1).1 < _
      rw [et]
      exact xp_Lt.E hEN 6 (xp_cin j W) (by rw [eS]; exact h6)
    · show 1 ≤ (ys_tm ts false S.1 S.2.2.1).1
      rw [et]
      omega
    · show yv_E (if j = j then (xp_E ts 6 (xp_cin j W)).2.2.1 else W.2.2.1 j) cm
      rw [if_pos rfl, k2.1]
      show yv_E (W.2.2.1 j ++ c) cm
      rw [hj]
      exact k1
    · rw [eo]
      have e1 : (ys_term ts j false S).2.2.2 (9 + j) = S.2.2.1.length := by
        show yt (yt (yt S.2.2.2 (5 + j) _) (9 + j) S.2.2.1.length) (13 + j) _ (9 + j) = _
        rw [yt_o (by omega), yt_s]
      have e2 : (ys_term ts j false S).2.2.2 (13 + j) = (S.2.2.1 ++ cm).length := by
        show yt _ (13 + j) (ys_tm ts false S.1 S.2.2.1).2.2.1.length (13 + j) = _
        rw [yt_s, et]
      rw [e1, e2]
      exact yz.new _ _
/-- an X: its kind, and, but for count, its code -/
def yx (W : xp_W) (S : ys_S) (j pf pt ps : Nat) : Prop := 1 ≤ W.2.1 j ∧ W.2.1 j ≤ 3 ∧ S.2.2.2 ps + 1 = W.2.1 j ∧ (W.2.1 j ≠ 2 → ye W S j pf pt)
theorem yx.keep {W W' : xp_W} {S S' : ys_S} {j pf pt ps : Nat} {x : yp_O} (h : yx W S j pf pt ps) (hk : W'.2.1 j = W.2.1 j) (hs : W'.2.2.1 j = W.2.2.1 j) (ho : S'.2.2.1 = S.2.2.1 ++ x) (h1 : S'.2.2.2 pf = S.2.2.2 pf) (h2 : S'.2.2.2 pt = S.2.2.2 pt) (h3 : S'.2.2.2 ps = S.2.2.2 ps) : yx W' S' j pf pt ps := by
  unfold yx
  rw [hk, h3]
  exact ⟨h.1, h.2.1, h.2.2.1, fun q => (h.2.2.2 q).keep hs ho h1 h2⟩
theorem yr_X {ts : List (Nat × Int32)} {W : xp_W} {S : ys_S} {j i : Nat} (hts : ts.length ≤ 81) (hEN : xp_EN ts) (h : yg ts W S) (hj : W.2.2.1 j = []) :
    (yg ts (xp_oX ts j W) (ys_term ts i true S) ∧ yx (xp_oX ts j W) (ys_term ts i true S) j (9 + i) (13 + i) (5 + i) ∧ ∃ x, (ys_term ts i true S).2.2.1 = S.2.2.1 ++ x) ∨ ybb (xp_oX ts j W) (ys_term ts i true S) := by
  obtain ⟨h1, h2, h3, h4, h5, h6, h7⟩ := h
  have eS : (xp_cin j W).1 = S.1 := h3
  have kk : (xp_oX ts j W).2.1 j = (xp_Xm ts (xp_cin j W)).1 := if_pos rfl
  have ks : (xp_oX ts j W).2.2.1 j = (xp_Xm ts (xp_cin j W)).2.2.2.1 := if_pos rfl
  have e1 : (ys_term ts i true S).2.2.2 (9 + i) = S.2.2.1.length := by
    show yt (yt (yt S.2.2.2 (5 + i) _) (9 + i) S.2.2.1.length) (13 + i) _ (9 + i) = _
    rw [yt_o (by omega), yt_s]
  have e2 : (ys_term ts i true S).2.2.2 (13 + i) = (ys_tm ts true S.1 S.2.2.1).2.2.1.length := yt_s
  have e3 : (ys_term ts i true S).2.2.2 (5 + i) = (ys_tm ts true S.1 S.2.2.1).2.2.2 := by
    show yt (yt (yt S.2.2.2 (5 + i) _) (9 + i) _) (13 + i) _ (5 + i) = _
    rw [yt_o (by omega), yt_o (by omega), yt_s]
  have eo : (ys_term ts i true S).2.2.1 = (ys_tm ts true S.1 S.2.2.1).2.2.1 := rfl
  by_cases h10 : xp_hd ts S.1 = 10
  · have ex : xp_Xm ts (xp_cin j W) = (2, xp_adv (xp_cin j W)) := by
      unfold xp_Xm
      rw [eS, if_pos h10]
    have et : ys_tm ts true S.1 S.2.2.1 = (S.1 + 1, false, S.2.2.1, 1) := by
      unfold ys_tm
      rw [if_pos ⟨rfl, h10⟩]
    have hlt := xp_hd_lt h10 (by decide)
    rw [ex] at kk ks
    rw [et] at e2 e3 eo
    refine Or.inl ⟨⟨?_, ?_, ?_, fun t => ?_, ?_, ?_, ?_⟩, ⟨?_, ?_, ?_, fun q => absurd kk q⟩, [], by rw [eo, List.append_nil]⟩
    · show (xp_Xm ts (xp_cin j W)).2.2.1 = false
      rw [ex]; exact h1
    · show (ys_tm ts true S.1 S.2.2.1).2.1 = false
      rw [et]
    · show (xp_Xm ts (xp_cin j W)).2.1 = (ys_tm ts true S.1 S.2.2.1).1
      rw [ex, et]
      show W.2.2.2.1 + 1 = S.1 + 1
      rw [h3]
    · rw [eo]
      show (xp_Xm ts (xp_cin j W)).2.2.2.2 t = _
      rw [ex]
      exact h4 t
    · rw [eo]; exact h5
    · show (ys_tm ts true S.1 S.2.2.1).1 < _
      rw [et]; exact hEN.lt (by rw [h10]; decide)
    · show 1 ≤ (ys_tm ts true S.1 S.2.2.1).1
      rw [et]; exact Nat.le_add_left _ _
    · rw [kk]; exact Nat.le_of_ble_eq_true rfl
    · rw [kk]; exact Nat.le_of_ble_eq_true rfl
    · rw [e3, kk]
  · by_cases h11 : xp_hd ts S.1 = 11
    · have hlt := xp_hd_lt h11 (by decide)
      have ex : xp_Xm ts (xp_cin j W) = (3, xp_need ts 24 (xp_E ts 6 (xp_need ts 23 (xp_adv (xp_cin j W))))) := by
        unfold xp_Xm
        rw [eS, if_neg h10, if_pos h11]
      have ea : (xp_adv (xp_cin j W)).1 = S.1 + 1 := by show W.2.2.2.1 + 1 = _; rw [h3]
      by_cases h23 : xp_hd ts (S.1 + 1) = 23
      · have hlt2 := xp_hd_lt h23 (by decide)
        have en : xp_need ts 23 (xp_adv (xp_cin j W)) = xp_adv (xp_adv (xp_cin j W)) := by
          unfold xp_need
          rw [if_pos (by rw [ea]; exact h23)]
        have ea2 : (xp_adv (xp_adv (xp_cin j W))).1 = S.1 + 2 := by show W.2.2.2.1 + 1 + 1 = _; rw [h3]
        rw [en] at ex
        obtain ⟨s1, s2⟩ := yp_ex_sim (u := 0) (n := 6) hts rfl (xp_adv (xp_adv (xp_cin j W))) S.2.2.1 h1 (by rw [ea2]; omega) (by rw [ea2]; omega)
        obtain ⟨g1, g2, -⟩ := xp_Gr.E ts 6 (xp_adv (xp_adv (xp_cin j W))) (by rw [ea2]; omega)
        rw [ea2] at s1 s2 g1
        have et : ys_tm ts true S.1 S.2.2.1 = if (yp_ex ts 0 (S.1 + 2) S.2.2.1).2.1 = true then ((yp_ex ts 0 (S.1 + 2) S.2.2.1).1, true, (yp_ex ts 0 (S.1 + 2) S.2.2.1).2.2, 2) else if xp_hd ts (yp_ex ts 0 (S.1 + 2) S.2.2.1).1 = 24 then ((yp_ex ts 0 (S.1 + 2) S.2.2.1).1 + 1, false, (yp_ex ts 0 (S.1 + 2) S.2.2.1).2.2, 2) else ((yp_ex ts 0 (S.1 + 2) S.2.2.1).1, true, (yp_ex ts 0 (S.1 + 2) S.2.2.1).2.2, 2) := by
          unfold ys_tm
          rw [if_neg (fun z => h10 z.2), if_pos ⟨rfl, h11⟩, if_pos h23]
        cases hb : (xp_E ts 6 (xp_adv (xp_adv (xp_cin j W)))).2.1 with
        | true =>
          refine Or.inr ⟨?_, ?_⟩
          · show (xp_Xm ts (xp_cin j W)).2.2.1 = true
            rw [ex]
            exact xp_Mo.need ts 24 _ hb
          · show (ys_tm ts true S.1 S.2.2.1).2.1 = true
            have hb2 : (yp_ex ts 0 (S.1 + 2) S.2.2.1).2.1 = true := s2 hb
            rw [et, if_pos hb2]
        | false =>
          obtain ⟨c, cm, k1, k2, k3⟩ := s1 hb
          have k3 : yp_ex ts 0 (S.1 + 2) S.2.2.1 = _ := k3
          rw [k3, if_neg (show ¬ false = true by decide)] at et
          dsimp only at et
          by_cases h24 : xp_hd ts (xp_E ts 6 (xp_adv (xp_adv (xp_cin j W)))).1 = 24
          · rw [if_pos h24] at et
            have en2 : xp_need ts 24 (xp_E ts 6 (xp_adv (xp_adv (xp_cin j W)))) = xp_adv (xp_E ts 6 (xp_adv (xp_adv (xp_cin j W)))) := by
              unfold xp_need
              rw [if_pos h24]
            rw [en2] at ex
            rw [ex] at kk ks
            rw [et] at e2 e3 eo
            have hlt3 := xp_hd_lt h24 (by decide)
            refine Or.inl ⟨⟨?_, ?_, ?_, fun t => ?_, ?_, ?_, ?_⟩, ⟨?_, ?_, ?_, fun _ => ⟨cm, ?_, ?_⟩⟩, cm, eo⟩
            · show (xp_Xm ts (xp_cin j W)).2.2.1 = false
              rw [ex]; exact hb
            · show (ys_tm ts true S.1 S.2.2.1).2.1 = false
              rw [et]
            · show (xp_Xm ts (xp_cin j W)).2.1 = (ys_tm ts true S.1 S.2.2.1).1
              rw [ex, et]
              rfl
            · rw [eo, yc_app, ← h4]
              show (xp_Xm ts (xp_cin j W)).2.2.2.2 t = _
              rw [ex]
              exact k2.2.1 t
            · rw [eo]; exact yk_app h5 k2.2.2
            · show (ys_tm ts true S.1 S.2.2.1).1 < _
              rw [et]; exact hEN.lt (by rw [h24]; decide)
            · show 1 ≤ (ys_tm ts true S.1 S.2.2.1).1
              rw [et]; exact Nat.le_add_left _ _
            · rw [kk]; exact Nat.le_of_ble_eq_true rfl
            · rw [kk]; exact Nat.le_of_ble_eq_true rfl
            · rw [e3, kk]
            · rw [ks]
              show yv_E (xp_E ts 6 (xp_adv (xp_adv (xp_cin j W)))).2.2.1 cm
              rw [k2.1]
              show yv_E (W.2.2.1 j ++ c) cm
              rw [hj]
              exact k1
            · rw [eo, e1, e2]
              exact yz.new _ _
          · rw [if_neg h24] at et
            refine Or.inr ⟨?_, ?_⟩
            · show (xp_Xm ts (xp_cin j W)).2.2.1 = true
              rw [ex]
              unfold xp_need
              rw [if_neg h24]
              rfl
            · show (ys_tm ts true S.1 S.2.2.1).2.1 = true
              rw [et]
      · refine Or.inr ⟨?_, ?_⟩
        · show (xp_Xm ts (xp_cin j W)).2.2.1 = true
          rw [ex]
          refine xp_Mo.need ts 24 _ (xp_Mo.E ts 6 _ ?_)
          unfold xp_need
          rw [if_neg (by rw [ea]; exact h23)]
          rfl
        · show (ys_tm ts true S.1 S.2.2.1).2.1 = true
          unfold ys_tm
          rw [if_neg (fun z => h10 z.2), if_pos ⟨rfl, h11⟩, if_neg h23]
    · have ex : xp_Xm ts (xp_cin j W) = (1, xp_E ts 6 (xp_cin j W)) := by
        unfold xp_Xm
        rw [eS, if_neg h10, if_neg h11]
      have et : ys_tm ts true S.1 S.2.2.1 = ((yp_ex ts 0 S.1 S.2.2.1).1, (yp_ex ts 0 S.1 S.2.2.1).2.1, (yp_ex ts 0 S.1 S.2.2.1).2.2, 0) := by
        unfold ys_tm
        rw [if_neg (fun z => h10 z.2), if_neg (fun z => h11 z.2)]
      obtain ⟨s1, s2⟩ := yp_ex_sim (u := 0) (n := 6) hts rfl (xp_cin j W) S.2.2.1 h1 (by rw [eS]; exact Nat.le_of_lt h6) (by rw [eS]; exact h7)
      obtain ⟨g1, g2, -⟩ := xp_Gr.E ts 6 (xp_cin j W) (by rw [eS]; exact Nat.le_of_lt h6)
      rw [eS] at s1 s2 g1
      cases hb : (xp_E ts 6 (xp_cin j W)).2.1 with
      | true =>
        refine Or.inr ⟨?_, ?_⟩
        · show (xp_Xm ts (xp_cin j W)).2.2.1 = true
          rw [ex]; exact hb
        · show (ys_tm ts true S.1 S.2.2.1).2.1 = true
          rw [et]
          exact s2 hb
      | false =>
        obtain ⟨c, cm, k1, k2, k3⟩ := s1 hb
        have k3 : yp_ex ts 0 S.1 S.2.2.1 = _ := k3
        rw [k3] at et
        rw [ex] at kk ks
        rw [et] at e2 e3 eo
        refine Or.inl ⟨⟨?_, ?_, ?_, fun t => ?_, ?_, ?_, ?_⟩, ⟨?_, ?_, ?_, fun _ => ⟨cm, ?_, ?_⟩⟩, cm, eo⟩
        · show (xp_Xm ts (xp_cin j W)).2.2.1 = false
          rw [ex]; exact hb
        · show (ys_tm ts true S.1 S.2.2.1).2.1 = false
          rw [et]
        · show (xp_Xm ts (xp_cin j W)).2.1 = (ys_tm ts true S.1 S.2.2.1).1
          rw [ex, et]
        · rw [eo, yc_app, ← h4]
          show (xp_Xm ts (xp_cin j W)).2.2.2.2 t = _
          rw [ex]
          exact k2.2.1 t
        · rw [eo]; exact yk_app h5 k2.2.2
        · show (ys_tm ts true S.1 S.2.2.1).1 < _
          rw [et]; exact xp_Lt.E hEN 6 (xp_cin j W) (by rw [eS]; exact h6)
        · show 1 ≤ (ys_tm ts true S.1 S.2.2.1).1
          rw [et]
          show 1 ≤ (xp_E ts 6 (xp_cin j W)).1
          omega
        · rw [kk]; exact Nat.le_of_ble_eq_true rfl
        · rw [kk]; exact Nat.le_of_ble_eq_true rfl
        · rw [e3, kk]
        · rw [ks]
          show yv_E (xp_E ts 6 (xp_cin j W)).2.2.1 cm
          rw [k2.1]
          show yv_E (W.2.2.1 j ++ c) cm
          rw [hj]
          exact k1
        · rw [eo, e1, e2]
          exact yz.new _ _
