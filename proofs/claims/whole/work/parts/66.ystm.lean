/-! statements: the reference's reading as a function -/
/-- place, bad, codes, the rest: 0 names 1 2 table 3 column 4 terms 5.. sort 9.. from 13.. to 17 where 18 whereFrom 19 whereTo 20 top 21 grouped 22 ordered 23 down 24 group -/
abbrev ys_S : Type := Nat × Bool × yp_O × (Nat → Nat)
def yt (T : Nat → Nat) (i v : Nat) : Nat → Nat := fun q => if q = i then v else T q
theorem yt_s {T : Nat → Nat} {i v : Nat} : yt T i v i = v := if_pos rfl
theorem yt_o {T : Nat → Nat} {i v q : Nat} (h : q ≠ i) : yt T i v q = T q := if_neg h
def ys_name (ts : List (Nat × Int32)) (S : ys_S) : ys_S :=
  if xp_hd ts S.1 = 19 ∨ xp_hd ts S.1 = 20 then (S.1 + 1, S.2.1, S.2.2.1, yt (yt S.2.2.2 (1 + S.2.2.2 0) (xp_hd ts S.1 - 19)) 0 (S.2.2.2 0 + 1))
  else (S.1, true, S.2.2.1, yt (yt S.2.2.2 (1 + S.2.2.2 0) 0) 0 (S.2.2.2 0 + 1))
def ys_need (ts : List (Nat × Int32)) (t : Nat) (S : ys_S) : ys_S := if S.2.1 = true then S else if xp_hd ts S.1 = t then (S.1 + 1, S.2) else (S.1, true, S.2.2)
def ys_tm (ts : List (Nat × Int32)) (counts : Bool) (a : Nat) (o : yp_O) : Nat × Bool × yp_O × Nat :=
  if counts = true ∧ xp_hd ts a = 10 then (a + 1, false, o, 1)
  else if counts = true ∧ xp_hd ts a = 11 then (if xp_hd ts (a + 1) = 23 then (if (yp_ex ts 0 (a + 2) o).2.1 = true then ((yp_ex ts 0 (a + 2) o).1, true, (yp_ex ts 0 (a + 2) o).2.2, 2) else if xp_hd ts (yp_ex ts 0 (a + 2) o).1 = 24 then ((yp_ex ts 0 (a + 2) o).1 + 1, false, (yp_ex ts 0 (a + 2) o).2.2, 2) else ((yp_ex ts 0 (a + 2) o).1, true, (yp_ex ts 0 (a + 2) o).2.2, 2)) else (a + 1, true, o, 2))
  else ((yp_ex ts 0 a o).1, (yp_ex ts 0 a o).2.1, (yp_ex ts 0 a o).2.2, 0)
def ys_term (ts : List (Nat × Int32)) (i : Nat) (counts : Bool) (S : ys_S) : ys_S :=
  ((ys_tm ts counts S.1 S.2.2.1).1, (ys_tm ts counts S.1 S.2.2.1).2.1, (ys_tm ts counts S.1 S.2.2.1).2.2.1, yt (yt (yt S.2.2.2 (5 + i) (ys_tm ts counts S.1 S.2.2.1).2.2.2) (9 + i) S.2.2.1.length) (13 + i) (ys_tm ts counts S.1 S.2.2.1).2.2.1.length)
def ys_where (ts : List (Nat × Int32)) (S : ys_S) : ys_S :=
  if S.2.1 = false ∧ xp_hd ts S.1 = 6 then ((yc_co ts (S.1 + 1) S.2.2.1).1, (yc_co ts (S.1 + 1) S.2.2.1).2.1, (yc_co ts (S.1 + 1) S.2.2.1).2.2, yt (yt (yt S.2.2.2 17 1) 18 S.2.2.1.length) 19 (yc_co ts (S.1 + 1) S.2.2.1).2.2.length) else S
def ys_ins (ts : List (Nat × Int32)) : Nat → Nat → ys_S → ys_S
  | 0, _, S => S
  | n + 1, k, S => if S.2.1 = true then S else ys_ins ts n (k + 1) (if k < 2 then ys_need ts 22 (ys_term ts k false S) else ys_term ts k false S)
def ys_up1 (ts : List (Nat × Int32)) (S : ys_S) : ys_S := (if yp_isW (xp_hd ts S.1) then S.1 + 1 else S.1, S.2.1 || !(decide (xp_hd ts S.1 = 16) || decide (xp_hd ts S.1 = 17)), S.2.2.1, yt S.2.2.2 3 (if xp_hd ts S.1 = 16 then 1 else 2))
def ys_upd (ts : List (Nat × Int32)) (S : ys_S) : ys_S := if (ys_need ts 30 (ys_up1 ts (ys_name ts S))).2.1 = true then ys_need ts 30 (ys_up1 ts (ys_name ts S)) else ys_term ts 0 false (ys_need ts 30 (ys_up1 ts (ys_name ts S)))
def ys_t4 (k : Nat) : Nat := if k < 4 then k else 3
/-- one more term; is there a comma behind it? -/
def ys_tc (ts : List (Nat × Int32)) (S : ys_S) : Bool × ys_S :=
  (decide (xp_hd ts (ys_term ts (ys_t4 (S.2.2.2 4)) true S).1 = 22), (if xp_hd ts (ys_term ts (ys_t4 (S.2.2.2 4)) true S).1 = 22 then (ys_term ts (ys_t4 (S.2.2.2 4)) true S).1 + 1 else (ys_term ts (ys_t4 (S.2.2.2 4)) true S).1, (ys_term ts (ys_t4 (S.2.2.2 4)) true S).2.1, (ys_term ts (ys_t4 (S.2.2.2 4)) true S).2.2.1, yt (ys_term ts (ys_t4 (S.2.2.2 4)) true S).2.2.2 4 (S.2.2.2 4 + 1)))
def ys_terms (ts : List (Nat × Int32)) : Nat → ys_S → ys_S
  | 0, S => S
  | n + 1, S => if S.2.1 = true then S else if (ys_tc ts S).1 = true then ys_terms ts n (ys_tc ts S).2 else (ys_tc ts S).2
def ys_top (ts : List (Nat × Int32)) (S : ys_S) : ys_S := if xp_hd ts S.1 = 4 then (S.1 + 1, S.2.1, S.2.2.1, yt S.2.2.2 20 1) else (S.1, S.2.1, S.2.2.1, yt S.2.2.2 20 0)
/-- behind the terms: from -/
def ys_from (ts : List (Nat × Int32)) (S : ys_S) : ys_S := if S.2.1 = true ∨ 3 < S.2.2.2 4 then (S.1, true, S.2.2) else ys_need ts 5 S
def ys_tabs (ts : List (Nat × Int32)) (S : ys_S) : ys_S := if xp_hd ts (ys_name ts S).1 = 22 then ys_name ts ((ys_name ts S).1 + 1, (ys_name ts S).2) else ys_name ts S
def ys_group (ts : List (Nat × Int32)) (S : ys_S) : ys_S := if S.2.1 = false ∧ xp_hd ts S.1 = 7 then (yp_ca ts (S.1 + 1), yp_cx ts (S.1 + 1), S.2.2.1 ++ [(2, nI (yp_co ts (S.1 + 1)))], yt (yt S.2.2.2 21 1) 24 S.2.2.1.length) else (S.1, S.2.1, S.2.2.1, yt S.2.2.2 21 0)
def ys_order (ts : List (Nat × Int32)) (S : ys_S) : ys_S := if S.2.1 = false ∧ xp_hd ts S.1 = 8 then ys_term ts 3 true (S.1 + 1, S.2.1, S.2.2.1, yt S.2.2.2 22 1) else (S.1, S.2.1, S.2.2.1, yt S.2.2.2 22 0)
def ys_down (ts : List (Nat × Int32)) (S : ys_S) : ys_S := if S.2.2.2 22 = 1 ∧ S.2.1 = false ∧ xp_hd ts S.1 = 9 then (S.1 + 1, S.2.1, S.2.2.1, yt S.2.2.2 23 1) else (S.1, S.2.1, S.2.2.1, yt S.2.2.2 23 0)
def ys_sel (ts : List (Nat × Int32)) (S : ys_S) : ys_S :=
  if (ys_from ts (ys_terms ts (ts.length + 1) (ys_top ts S))).2.1 = true then ys_from ts (ys_terms ts (ts.length + 1) (ys_top ts S))
  else ys_down ts (ys_order ts (ys_group ts (ys_where ts (ys_tabs ts (ys_from ts (ys_terms ts (ts.length + 1) (ys_top ts S)))))))
def ys_body (ts : List (Nat × Int32)) (S : ys_S) : ys_S :=
  if xp_hd ts 0 = 0 then ys_ins ts 3 0 (ys_name ts S)
  else if xp_hd ts 0 = 1 then ys_where ts (ys_upd ts S)
  else if xp_hd ts 0 = 2 then ys_where ts (ys_name ts S)
  else if xp_hd ts 0 = 3 then ys_sel ts S
  else (S.1, true, S.2.2)
def ys_stm (ts : List (Nat × Int32)) (T : Nat → Nat) : ys_S := ((ys_body ts (1, false, [], T)).1, (ys_body ts (1, false, [], T)).2.1 || !decide ((ys_body ts (1, false, [], T)).1 + 1 = ts.length), (ys_body ts (1, false, [], T)).2.2)
/-! bad stays bad -/
theorem ys_name_b {ts : List (Nat × Int32)} {S : ys_S} (h : S.2.1 = true) : (ys_name ts S).2.1 = true := by
  unfold ys_name
  split
  · exact h
  · rfl
theorem ys_need_b {ts : List (Nat × Int32)} {t : Nat} {S : ys_S} (h : S.2.1 = true) : (ys_need ts t S).2.1 = true := by
  unfold ys_need
  rw [if_pos h]
  exact h
theorem ys_where_b {ts : List (Nat × Int32)} {S : ys_S} (h : S.2.1 = true) : (ys_where ts S).2.1 = true := by
  unfold ys_where
  rw [if_neg (fun z => by rw [h] at z; exact absurd z.1 (by decide))]
  exact h
theorem ys_ins_b {ts : List (Nat × Int32)} {S : ys_S} (h : S.2.1 = true) : ∀ n k, (ys_ins ts n k S).2.1 = true
  | 0, _ => h
  | n + 1, k => by rw [ys_ins, if_pos h]; exact h
theorem ys_upd_b {ts : List (Nat × Int32)} {S : ys_S} (h : S.2.1 = true) : (ys_upd ts S).2.1 = true := by
  have h1 : (ys_up1 ts (ys_name ts S)).2.1 = true := by
    show ((ys_name ts S).2.1 || _) = true
    rw [ys_name_b h, Bool.true_or]
  have := ys_need_b (ts := ts) (t := 30) h1
  unfold ys_upd
  rw [if_pos this]
  exact this
theorem ys_tabs_b {ts : List (Nat × Int32)} {S : ys_S} (h : S.2.1 = true) : (ys_tabs ts S).2.1 = true := by
  have h1 := ys_name_b (ts := ts) h
  unfold ys_tabs
  split
  · exact ys_name_b h1
  · exact h1
theorem ys_group_b {ts : List (Nat × Int32)} {S : ys_S} (h : S.2.1 = true) : (ys_group ts S).2.1 = true := by
  unfold ys_group
  rw [if_neg (fun z => by rw [h] at z; exact absurd z.1 (by decide))]
  exact h
theorem ys_order_b {ts : List (Nat × Int32)} {S : ys_S} (h : S.2.1 = true) : (ys_order ts S).2.1 = true := by
  unfold ys_order
  rw [if_neg (fun z => by rw [h] at z; exact absurd z.1 (by decide))]
  exact h
theorem ys_down_b {ts : List (Nat × Int32)} {S : ys_S} (h : S.2.1 = true) : (ys_down ts S).2.1 = true := by
  unfold ys_down
  split
  · exact h
  · exact h
/-! wrong stays wrong -/
def xq_Mo (f : xp_W → xp_W) : Prop := ∀ W, W.2.2.2.2.1 = true → (f W).2.2.2.2.1 = true
theorem xq_Mo.om {f : xp_M → xp_M} (hf : xp_Mo f) : xq_Mo (xp_om f) := fun W h => hf _ h
theorem xq_Mo.sf (i : Nat) (x : Int32) : xq_Mo (xp_sf i x) := fun _ h => h
theorem xq_Mo.oE (ts : List (Nat × Int32)) (j : Nat) : xq_Mo (xp_oE ts j) := fun W h => xp_Mo.E ts 6 (xp_cin j W) h
theorem xp_Mo.Xm {ts : List (Nat × Int32)} {m : xp_M} (h : m.2.1 = true) : (xp_Xm ts m).2.2.1 = true := by
  unfold xp_Xm
  split
  · exact h
  · split
    · exact xp_Mo.need ts 24 _ (xp_Mo.E ts 6 _ (xp_Mo.need ts 23 _ h))
    · exact xp_Mo.E ts 6 _ h
theorem xq_Mo.oX (ts : List (Nat × Int32)) (j : Nat) : xq_Mo (xp_oX ts j) := fun W h => xp_Mo.Xm (m := xp_cin j W) h
theorem xq_Mo.oW (ts : List (Nat × Int32)) : xq_Mo (xp_oW ts) := fun W h => by
  unfold xp_oW
  split
  · exact xp_Mo.C ts 6 _ h
  · exact h
theorem xq_Mo.oT (ts : List (Nat × Int32)) (i : Nat) : xq_Mo (xp_oT ts i) := fun W h => xp_Mo.tbl ts W.2.2.2 h
theorem xq_Mo.sl (ts : List (Nat × Int32)) : ∀ n i, xq_Mo (xp_sl ts n i)
  | 0, _ => fun _ h => h
  | n + 1, i => fun W h => by
    rw [xp_sl]
    split
    · exact xq_Mo.sl ts n (i + 1) _ (xq_Mo.oX ts i (xp_om xp_adv W) h)
    · exact h
theorem xq_Mo.s84 (ts : List (Nat × Int32)) : xq_Mo (xp_s84 ts) := fun W h => by
  have h1 := xq_Mo.oT ts 3 _ (xq_Mo.om (xp_Mo.need ts 5) W h)
  unfold xp_s84
  split
  · exact xq_Mo.oT ts 4 (xp_om xp_adv _) h1
  · exact h1
theorem xq_Mo.a1 (ts : List (Nat × Int32)) : xq_Mo (xp_a1 ts) := fun W h => by
  unfold xp_a1
  split
  · exact xp_Mo.col ts (xp_cin 4 (xp_om xp_adv W)) h
  · exact h
theorem xq_Mo.a2 (ts : List (Nat × Int32)) : xq_Mo (xp_a2 ts) := fun W h => by
  unfold xp_a2
  split
  · have h1 := xq_Mo.oX ts 5 (xp_om xp_adv W) h
    split
    · exact h1
    · exact h1
  · exact h
