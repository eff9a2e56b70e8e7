/-! ===== Parser: what it does, as a function ===== -/
/-- the place, is it wrong, the steps of the code that is read, which tables have columns -/
abbrev xp_M : Type := Nat × Bool × List (Nat × Int32) × (Nat → Bool)
def xp_hd (ts : List (Nat × Int32)) (a : Nat) : Nat := (ts.getD a (36, 0)).1
def xp_nm (ts : List (Nat × Int32)) (a : Nat) : Int32 := (ts.getD a (36, 0)).2
def xp_adv (m : xp_M) : xp_M := (m.1 + 1, m.2)
def xp_bad (m : xp_M) : xp_M := (m.1, true, m.2.2)
def xp_app (t : Nat) (o : Int32) (m : xp_M) : xp_M := (m.1, m.2.1, m.2.2.1 ++ [(t, o)], m.2.2.2)
def xp_mark (t : Nat) (m : xp_M) : xp_M := (m.1, m.2.1, m.2.2.1, fun i => if i = t then true else m.2.2.2 i)
def xp_need (ts : List (Nat × Int32)) (t : Nat) (m : xp_M) : xp_M := if xp_hd ts m.1 = t then xp_adv m else xp_bad m
def xp_tbl (ts : List (Nat × Int32)) (m : xp_M) : Nat × xp_M := if xp_hd ts m.1 = 19 then (0, xp_adv m) else (1, xp_need ts 20 m)
def xp_ctb (ts : List (Nat × Int32)) (m : xp_M) : Nat × xp_M := if xp_hd ts m.1 = 19 ∨ xp_hd ts m.1 = 20 then ((xp_tbl ts m).1, xp_need ts 21 (xp_tbl ts m).2) else (2, m)
def xp_cl2 (ts : List (Nat × Int32)) (t : Nat) (m : xp_M) : xp_M :=
  if 15 ≤ xp_hd ts m.1 ∧ xp_hd ts m.1 ≤ 18 then xp_app 34 (nI (t * 4 + (xp_hd ts m.1 - 15))) (xp_mark t (xp_adv m)) else xp_bad m
def xp_col (ts : List (Nat × Int32)) (m : xp_M) : xp_M := xp_cl2 ts (xp_ctb ts m).1 (xp_ctb ts m).2
def xp_loop (ts : List (Nat × Int32)) (p : Nat → Bool) (f : xp_M → xp_M) : Nat → xp_M → xp_M
  | 0, m => m
  | n + 1, m => if p (xp_hd ts m.1) = true then xp_loop ts p f n (xp_app (xp_hd ts m.1) 0 (f (xp_adv m))) else m
def xp_Fb (ts : List (Nat × Int32)) (fE fF : xp_M → xp_M) (m : xp_M) : xp_M :=
  if xp_hd ts m.1 = 33 then xp_adv (xp_app 33 (xp_nm ts m.1) m)
  else if xp_hd ts m.1 = 23 then xp_need ts 24 (fE (xp_adv m))
  else if xp_hd ts m.1 = 28 then xp_app 28 0 (fF (xp_app 33 0 (xp_adv m)))
  else xp_col ts m
def xp_Pf (ts : List (Nat × Int32)) (f : xp_M → xp_M) (m : xp_M) : xp_M := xp_loop ts (fun h => h == 29) f 80 (f m)
def xp_Ef (ts : List (Nat × Int32)) (f : xp_M → xp_M) (m : xp_M) : xp_M := xp_loop ts (fun h => h == 27 || h == 28) (xp_Pf ts f) 80 (xp_Pf ts f m)
def xp_F (ts : List (Nat × Int32)) : Nat → xp_M → xp_M
  | 0 => xp_Fb ts xp_bad xp_bad
  | n + 1 => xp_Fb ts (xp_Ef ts (xp_F ts n)) (xp_F ts n)
def xp_E (ts : List (Nat × Int32)) (n : Nat) : xp_M → xp_M := xp_Ef ts (xp_F ts n)
def xp_sg (h : Nat) : Nat := if h = 30 ∨ h = 31 then h else 32
def xp_cmp (ts : List (Nat × Int32)) (e : xp_M → xp_M) (m : xp_M) : xp_M :=
  xp_app (xp_sg (xp_hd ts (e m).1)) 0 (e (xp_need ts (xp_sg (xp_hd ts (e m).1)) (e m)))
def xp_Nb (ts : List (Nat × Int32)) (e fC fN : xp_M → xp_M) (m : xp_M) : xp_M :=
  if xp_hd ts m.1 = 25 then xp_need ts 26 (fC (xp_adv m))
  else if xp_hd ts m.1 = 14 then xp_app 14 0 (fN (xp_adv m))
  else xp_cmp ts e m
def xp_Kf (ts : List (Nat × Int32)) (f : xp_M → xp_M) (m : xp_M) : xp_M := xp_loop ts (fun h => h == 12) f 80 (f m)
def xp_Cf (ts : List (Nat × Int32)) (f : xp_M → xp_M) (m : xp_M) : xp_M := xp_loop ts (fun h => h == 13) (xp_Kf ts f) 80 (xp_Kf ts f m)
def xp_N (ts : List (Nat × Int32)) : Nat → xp_M → xp_M
  | 0 => xp_Nb ts (xp_E ts 0) xp_bad xp_bad
  | n + 1 => xp_Nb ts (xp_E ts (n + 1)) (xp_Cf ts (xp_N ts n)) (xp_N ts n)
def xp_C (ts : List (Nat × Int32)) (n : Nat) : xp_M → xp_M := xp_Cf ts (xp_N ts n)
/-! how far it goes, and how many steps it makes -/
def xp_G (n a : Nat) (m m' : xp_M) : Prop := m.1 ≤ m'.1 ∧ m'.1 ≤ n ∧ m'.2.2.1.length + 2 * m.1 ≤ m.2.2.1.length + 2 * m'.1 + a
theorem xp_hd_lt {ts : List (Nat × Int32)} {a t : Nat} (h : xp_hd ts a = t) (ht : t ≠ 36) : a < ts.length := by
  apply Nat.lt_of_not_le
  intro q
  apply ht
  rw [← h]
  unfold xp_hd
  rw [List.getD_eq_getElem?_getD, List.getElem?_eq_none q]
  rfl
theorem xp_G.need {ts : List (Nat × Int32)} {t a : Nat} {m m' : xp_M} (ht : t ≠ 36) (h : xp_G ts.length a m m') : xp_G ts.length a m (xp_need ts t m') := by
  unfold xp_need
  split
  · rename_i q
    have := xp_hd_lt q ht
    exact ⟨Nat.le_succ_of_le h.1, this, by have := h.2.2; show m'.2.2.1.length + 2 * m.1 ≤ m.2.2.1.length + 2 * (m'.1 + 1) + a; omega⟩
  · exact h
theorem xp_G.tbl {ts : List (Nat × Int32)} {a : Nat} {m m' : xp_M} (h : xp_G ts.length a m m') : xp_G ts.length a m (xp_tbl ts m').2 := by
  unfold xp_tbl
  split
  · rename_i q
    have := xp_hd_lt q (by decide)
    exact ⟨Nat.le_succ_of_le h.1, this, by have := h.2.2; show m'.2.2.1.length + 2 * m.1 ≤ m.2.2.1.length + 2 * (m'.1 + 1) + a; omega⟩
  · exact h.need (by decide)
theorem xp_G.rf {n : Nat} {m : xp_M} (h : m.1 ≤ n) : xp_G n 0 m m := ⟨Nat.le_refl _, h, Nat.le_refl _⟩
theorem xp_G.ctb {ts : List (Nat × Int32)} {m : xp_M} (h : m.1 ≤ ts.length) : xp_G ts.length 0 m (xp_ctb ts m).2 := by
  unfold xp_ctb
  split
  · exact (xp_G.rf h).tbl.need (by decide)
  · exact .rf h
theorem xp_ctb_lt (ts : List (Nat × Int32)) (m : xp_M) : (xp_ctb ts m).1 < 3 := by
  unfold xp_ctb xp_tbl
  split
  · split <;> exact Nat.le_of_ble_eq_true rfl
  · exact Nat.le_of_ble_eq_true rfl
def xp_Gr (n a : Nat) (f : xp_M → xp_M) : Prop := ∀ m, m.1 ≤ n → xp_G n a m (f m)
theorem xp_Gr.bad {n : Nat} : xp_Gr n 0 xp_bad := fun _ h => .rf h
theorem xp_Gr.mono {n a b : Nat} {f : xp_M → xp_M} (h : xp_Gr n a f) (hab : a ≤ b) : xp_Gr n b f := fun m hm => ⟨(h m hm).1, (h m hm).2.1, by have := (h m hm).2.2; omega⟩
theorem xp_Gr.col (ts : List (Nat × Int32)) : xp_Gr ts.length 0 (xp_col ts) := by
  intro m hm
  obtain ⟨h1, h2, h3⟩ := xp_G.ctb hm
  unfold xp_col xp_cl2
  split
  · rename_i q
    have := xp_hd_lt (t := xp_hd ts (xp_ctb ts m).2.1) rfl (by omega)
    refine ⟨?_, ?_, ?_⟩
    · show m.1 ≤ (xp_ctb ts m).2.1 + 1
      omega
    · exact this
    · show ((xp_ctb ts m).2.2.2.1 ++ [_]).length + 2 * m.1 ≤ m.2.2.1.length + 2 * ((xp_ctb ts m).2.1 + 1) + 0
      rw [List.length_append]
      show (xp_ctb ts m).2.2.2.1.length + 1 + 2 * m.1 ≤ m.2.2.1.length + 2 * ((xp_ctb ts m).2.1 + 1) + 0
      omega
  · exact ⟨h1, h2, h3⟩
theorem xp_loop_G {ts : List (Nat × Int32)} {p : Nat → Bool} {f : xp_M → xp_M} (hp : p 36 = false) (hf : xp_Gr ts.length 1 f) : ∀ n, xp_Gr ts.length 0 (xp_loop ts p f n)
  | 0 => fun _ h => .rf h
  | n + 1 => by
    intro m hm
    rw [xp_loop]
    split
    · rename_i q
      have hlt := xp_hd_lt (ts := ts) (a := m.1) rfl (fun e => by rw [e, hp] at q; cases q)
      obtain ⟨a1, a2, a3⟩ := hf (xp_adv m) hlt
      have a1 : m.1 + 1 ≤ (f (xp_adv m)).1 := a1
      have a3 : (f (xp_adv m)).2.2.1.length + 2 * (m.1 + 1) ≤ m.2.2.1.length + 2 * (f (xp_adv m)).1 + 1 := a3
      obtain ⟨b1, b2, b3⟩ := xp_loop_G hp hf n (xp_app (xp_hd ts m.1) 0 (f (xp_adv m))) a2
      have b1 : (f (xp_adv m)).1 ≤ _ := b1
      have b3 : _ ≤ ((f (xp_adv m)).2.2.1 ++ [_]).length + 2 * _ + 0 := b3
      rw [List.length_append] at b3
      have b3 : (xp_loop ts p f n (xp_app (xp_hd ts m.1) 0 (f (xp_adv m)))).2.2.1.length + 2 * (f (xp_adv m)).1 ≤ (f (xp_adv m)).2.2.1.length + 1 + 2 * (xp_loop ts p f n (xp_app (xp_hd ts m.1) 0 (f (xp_adv m)))).1 + 0 := b3
      exact ⟨by omega, b2, by omega⟩
    · exact .rf hm
theorem xp_Gr.comp {n a b : Nat} {f h : xp_M → xp_M} (hf : xp_Gr n a f) (hh : xp_Gr n b h) : xp_Gr n (a + b) (fun m => h (f m)) := by
  intro m hm
  obtain ⟨a1, a2, a3⟩ := hf m hm
  obtain ⟨b1, b2, b3⟩ := hh (f m) a2
  exact ⟨Nat.le_trans a1 b1, b2, by dsimp only; omega⟩
theorem xp_Gr.Pf {ts : List (Nat × Int32)} {f : xp_M → xp_M} (hf : xp_Gr ts.length 0 f) : xp_Gr ts.length 0 (xp_Pf ts f) := hf.comp (xp_loop_G rfl (hf.mono (Nat.zero_le _)) 80)
theorem xp_Gr.Ef {ts : List (Nat × Int32)} {f : xp_M → xp_M} (hf : xp_Gr ts.length 0 f) : xp_Gr ts.length 0 (xp_Ef ts f) := hf.Pf.comp (xp_loop_G rfl (hf.Pf.mono (Nat.zero_le _)) 80)
theorem xp_Gr.Kf {ts : List (Nat × Int32)} {f : xp_M → xp_M} (hf : xp_Gr ts.length 1 f) : xp_Gr ts.length 1 (xp_Kf ts f) := hf.comp (xp_loop_G rfl hf 80)
theorem xp_Gr.Cf {ts : List (Nat × Int32)} {f : xp_M → xp_M} (hf : xp_Gr ts.length 1 f) : xp_Gr ts.length 1 (xp_Cf ts f) := hf.Kf.comp (xp_loop_G rfl hf.Kf 80)
theorem xp_Gr.Fb {ts : List (Nat × Int32)} {fE fF : xp_M → xp_M} (hE : xp_Gr ts.length 0 fE) (hF : xp_Gr ts.length 0 fF) : xp_Gr ts.length 0 (xp_Fb ts fE fF) := by
  intro m hm
  unfold xp_Fb
  split
  · rename_i q
    have := xp_hd_lt q (by decide)
    refine ⟨Nat.le_succ _, this, ?_⟩
    show (m.2.2.1 ++ [_]).length + 2 * m.1 ≤ m.2.2.1.length + 2 * (m.1 + 1) + 0
    rw [List.length_append]
    show m.2.2.1.length + 1 + 2 * m.1 ≤ m.2.2.1.length + 2 * (m.1 + 1) + 0
    omega
  · split
    · rename_i q
      have hlt := xp_hd_lt q (by decide)
      obtain ⟨a1, a2, a3⟩ := hE (xp_adv m) hlt
      have a1 : m.1 + 1 ≤ (fE (xp_adv m)).1 := a1
      have a3 : (fE (xp_adv m)).2.2.1.length + 2 * (m.1 + 1) ≤ m.2.2.1.length + 2 * (fE (xp_adv m)).1 + 0 := a3
      exact xp_G.need (by decide) ⟨by omega, a2, by omega⟩
    · split
      · rename_i q
        have hlt := xp_hd_lt q (by decide)
        obtain ⟨a1, a2, a3⟩ := hF (xp_app 33 0 (xp_adv m)) hlt
        have a1 : m.1 + 1 ≤ (fF (xp_app 33 0 (xp_adv m))).1 := a1
        have a3 : (fF (xp_app 33 0 (xp_adv m))).2.2.1.length + 2 * (m.1 + 1) ≤ (m.2.2.1 ++ [_]).length + 2 * (fF (xp_app 33 0 (xp_adv m))).1 + 0 := a3
        rw [List.length_append] at a3
        have a3 : (fF (xp_app 33 0 (xp_adv m))).2.2.1.length + 2 * (m.1 + 1) ≤ m.2.2.1.length + 1 + 2 * (fF (xp_app 33 0 (xp_adv m))).1 + 0 := a3
        refine ⟨?_, a2, ?_⟩
        · show m.1 ≤ (fF (xp_app 33 0 (xp_adv m))).1
          omega
        · show ((fF (xp_app 33 0 (xp_adv m))).2.2.1 ++ [_]).length + 2 * m.1 ≤ m.2.2.1.length + 2 * (fF (xp_app 33 0 (xp_adv m))).1 + 0
          rw [List.length_append]
          show (fF (xp_app 33 0 (xp_adv m))).2.2.1.length + 1 + 2 * m.1 ≤ m.2.2.1.length + 2 * (fF (xp_app 33 0 (xp_adv m))).1 + 0
          omega
      · exact xp_Gr.col ts m hm
theorem xp_Gr.F (ts : List (Nat × Int32)) : ∀ n, xp_Gr ts.length 0 (xp_F ts n)
  | 0 => .Fb .bad .bad
  | n + 1 => .Fb (.Ef (xp_Gr.F ts n)) (xp_Gr.F ts n)
theorem xp_Gr.E (ts : List (Nat × Int32)) (n : Nat) : xp_Gr ts.length 0 (xp_E ts n) := .Ef (.F ts n)
theorem xp_sg_ne (h : Nat) : xp_sg h ≠ 36 := by
  unfold xp_sg
  split <;> omega
theorem xp_Gr.Nb {ts : List (Nat × Int32)} {e fC fN : xp_M → xp_M} (he : xp_Gr ts.length 0 e) (hC : xp_Gr ts.length 1 fC) (hN : xp_Gr ts.length 1 fN) : xp_Gr ts.length 1 (xp_Nb ts e fC fN) := by
  intro m hm
  unfold xp_Nb
  split
  · rename_i q
    have hlt := xp_hd_lt q (by decide)
    obtain ⟨a1, a2, a3⟩ := hC (xp_adv m) hlt
    have a1 : m.1 + 1 ≤ (fC (xp_adv m)).1 := a1
    have a3 : (fC (xp_adv m)).2.2.1.length + 2 * (m.1 + 1) ≤ m.2.2.1.length + 2 * (fC (xp_adv m)).1 + 1 := a3
    exact xp_G.need (by decide) ⟨by omega, a2, by omega⟩
  · split
    · rename_i q
      have hlt := xp_hd_lt q (by decide)
      obtain ⟨a1, a2, a3⟩ := hN (xp_adv m) hlt
      have a1 : m.1 + 1 ≤ (fN (xp_adv m)).1 := a1
      have a3 : (fN (xp_adv m)).2.2.1.length + 2 * (m.1 + 1) ≤ m.2.2.1.length + 2 * (fN (xp_adv m)).1 + 1 := a3
      refine ⟨?_, a2, ?_⟩
      · show m.1 ≤ (fN (xp_adv m)).1
        omega
      · show ((fN (xp_adv m)).2.2.1 ++ [_]).length + 2 * m.1 ≤ m.2.2.1.length + 2 * (fN (xp_adv m)).1 + 1
        rw [List.length_append]
        show (fN (xp_adv m)).2.2.1.length + 1 + 2 * m.1 ≤ m.2.2.1.length + 2 * (fN (xp_adv m)).1 + 1
        omega
    · unfold xp_cmp
      have hn := (he m hm).need (xp_sg_ne (xp_hd ts (e m).1))
      revert hn
      generalize xp_need ts (xp_sg (xp_hd ts (e m).1)) (e m) = m1
      intro hn
      obtain ⟨a1, a2, a3⟩ := hn
      obtain ⟨b1, b2, b3⟩ := he m1 a2
      refine ⟨Nat.le_trans a1 b1, b2, ?_⟩
      show ((e m1).2.2.1 ++ [_]).length + 2 * m.1 ≤ m.2.2.1.length + 2 * (e m1).1 + 1
      rw [List.length_append]
      show (e m1).2.2.1.length + 1 + 2 * m.1 ≤ m.2.2.1.length + 2 * (e m1).1 + 1
      omega
theorem xp_Gr.N (ts : List (Nat × Int32)) : ∀ n, xp_Gr ts.length 1 (xp_N ts n)
  | 0 => .Nb (.E ts 0) (xp_Gr.bad.mono (Nat.zero_le _)) (xp_Gr.bad.mono (Nat.zero_le _))
  | n + 1 => .Nb (.E ts (n + 1)) (.Cf (xp_Gr.N ts n)) (xp_Gr.N ts n)
theorem xp_Gr.C (ts : List (Nat × Int32)) (n : Nat) : xp_Gr ts.length 1 (xp_C ts n) := .Cf (.N ts n)
