/-! The abstract machine: a state is (shapes, ints, references, number of cells, number of slots). Shapes: .inl ci an object of class ci of am_cl; .inr (k, n) an array of kind k of length n. Kinds 0 .. 8 are arrays of ours (am_at), 9 .. are constant arrays. -/
abbrev am_Sh : Type := Nat ⊕ (Nat × Nat)
abbrev am_S : Type := (Nat → Option am_Sh) × (Nat → Nat → Int32) × (Nat → Nat → Option Nat) × Nat × Nat
def am_sh (σ : am_S) : Nat → Option am_Sh := σ.1
def am_i (σ : am_S) : Nat → Nat → Int32 := σ.2.1
def am_r (σ : am_S) : Nat → Nat → Option Nat := σ.2.2.1
def am_tp (σ : am_S) : Nat := σ.2.2.2.1
def am_us (σ : am_S) : Nat := σ.2.2.2.2
def am_wi (σ : am_S) (a k : Nat) (v : Int32) : am_S := (σ.1, fun b j => if b = a ∧ j = k then v else σ.2.1 b j, σ.2.2)
def am_wr (σ : am_S) (a k : Nat) (v : Option Nat) : am_S := (σ.1, σ.2.1, fun b j => if b = a ∧ j = k then v else σ.2.2.1 b j, σ.2.2.2)
def am_al (σ : am_S) (x : am_Sh) (n : Nat) : am_S := (fun b => if b = am_tp σ then some x else am_sh σ b, fun b j => if b = am_tp σ then 0 else am_i σ b j, fun b j => if b = am_tp σ then none else am_r σ b j, am_tp σ + 1, am_us σ + n)
theorem am_sh_wi (σ : am_S) (a k : Nat) (v : Int32) : am_sh (am_wi σ a k v) = am_sh σ := rfl
theorem am_sh_wr (σ : am_S) (a k : Nat) (v : Option Nat) : am_sh (am_wr σ a k v) = am_sh σ := rfl
theorem am_r_wi (σ : am_S) (a k : Nat) (v : Int32) : am_r (am_wi σ a k v) = am_r σ := rfl
theorem am_i_wr (σ : am_S) (a k : Nat) (v : Option Nat) : am_i (am_wr σ a k v) = am_i σ := rfl
theorem am_tp_wi (σ : am_S) (a k : Nat) (v : Int32) : am_tp (am_wi σ a k v) = am_tp σ := rfl
theorem am_tp_wr (σ : am_S) (a k : Nat) (v : Option Nat) : am_tp (am_wr σ a k v) = am_tp σ := rfl
theorem am_us_wi (σ : am_S) (a k : Nat) (v : Int32) : am_us (am_wi σ a k v) = am_us σ := rfl
theorem am_us_wr (σ : am_S) (a k : Nat) (v : Option Nat) : am_us (am_wr σ a k v) = am_us σ := rfl
theorem am_i_wi (σ : am_S) (a k : Nat) (v : Int32) (b j : Nat) : am_i (am_wi σ a k v) b j = if b = a ∧ j = k then v else am_i σ b j := rfl
theorem am_r_wr (σ : am_S) (a k : Nat) (v : Option Nat) (b j : Nat) : am_r (am_wr σ a k v) b j = if b = a ∧ j = k then v else am_r σ b j := rfl
theorem am_sh_al (σ : am_S) (x : am_Sh) (n b : Nat) : am_sh (am_al σ x n) b = if b = am_tp σ then some x else am_sh σ b := rfl
theorem am_i_al (σ : am_S) (x : am_Sh) (n b j : Nat) : am_i (am_al σ x n) b j = if b = am_tp σ then 0 else am_i σ b j := rfl
theorem am_r_al (σ : am_S) (x : am_Sh) (n b j : Nat) : am_r (am_al σ x n) b j = if b = am_tp σ then none else am_r σ b j := rfl
theorem am_tp_al (σ : am_S) (x : am_Sh) (n : Nat) : am_tp (am_al σ x n) = am_tp σ + 1 := rfl
theorem am_us_al (σ : am_S) (x : am_Sh) (n : Nat) : am_us (am_al σ x n) = am_us σ + n := rfl
/-! the words of every method, by their places -/
def am_tb : List Cond := lw_tbl.filter goodWord
theorem am_in {w : Cond} (i : Nat) (h : lw_tbl[i]? = some w) (hg : goodWord w = true) : w ∈ am_tb := List.mem_filter.mpr ⟨List.mem_of_getElem? h, hg⟩
theorem am_p : tables_1 = tables_1_1 ++ (tables_1_2 ++ (tables_1_3 ++ (tables_1_4 ++ (tables_1_5 ++ tables_1_6)))) := rfl
theorem am_p0 {w : Cond} (h : w ∈ tables_1) : w ∈ lw_tbl := List.mem_append_right _ h
theorem am_p1 (w : Cond) (h : w ∈ tables_1_1) : w ∈ lw_tbl := am_p0 (by rw [am_p]; simp only [List.mem_append]; exact Or.inl h)
theorem am_p2 (w : Cond) (h : w ∈ tables_1_2) : w ∈ lw_tbl := am_p0 (by rw [am_p]; simp only [List.mem_append]; exact Or.inr (Or.inl h))
theorem am_p3 (w : Cond) (h : w ∈ tables_1_3) : w ∈ lw_tbl := am_p0 (by rw [am_p]; simp only [List.mem_append]; exact Or.inr (Or.inr (Or.inl h)))
theorem am_p4 (w : Cond) (h : w ∈ tables_1_4) : w ∈ lw_tbl := am_p0 (by rw [am_p]; simp only [List.mem_append]; exact Or.inr (Or.inr (Or.inr (Or.inl h))))
theorem am_p5 (w : Cond) (h : w ∈ tables_1_5) : w ∈ lw_tbl := am_p0 (by rw [am_p]; simp only [List.mem_append]; exact Or.inr (Or.inr (Or.inr (Or.inr (Or.inl h)))))
theorem am_p6 (w : Cond) (h : w ∈ tables_1_6) : w ∈ lw_tbl := am_p0 (by rw [am_p]; simp only [List.mem_append]; exact Or.inr (Or.inr (Or.inr (Or.inr (Or.inr h)))))
theorem am_s0 (w : Cond) (l : List (MethodName × Nat)) (hl : ∀ q ∈ l, q ∈ lw_privs) (h : w ∈ k2_sels l) : w ∈ lw_tbl := List.mem_append_left _ (by
  obtain ⟨q, hq, he⟩ := List.mem_map.mp h
  exact List.mem_map.mpr ⟨q, hl q hq, he⟩)
theorem am_s1 (w : Cond) (h : w ∈ k2_sels lw_privs_1) : w ∈ lw_tbl := am_s0 w _ (fun q hq => by unfold lw_privs; simp only [List.mem_append]; exact Or.inl hq) h
theorem am_s2 (w : Cond) (h : w ∈ k2_sels lw_privs_2) : w ∈ lw_tbl := am_s0 w _ (fun q hq => by unfold lw_privs; simp only [List.mem_append]; exact Or.inr (Or.inl hq)) h
theorem am_s3 (w : Cond) (h : w ∈ k2_sels lw_privs_3) : w ∈ lw_tbl := am_s0 w _ (fun q hq => by unfold lw_privs; simp only [List.mem_append]; exact Or.inr (Or.inr (Or.inl hq))) h
theorem am_s4 (w : Cond) (h : w ∈ k2_sels lw_privs_4) : w ∈ lw_tbl := am_s0 w _ (fun q hq => by unfold lw_privs; simp only [List.mem_append]; exact Or.inr (Or.inr (Or.inr (Or.inl hq)))) h
theorem am_s5 (w : Cond) (h : w ∈ k2_sels lw_privs_5) : w ∈ lw_tbl := am_s0 w _ (fun q hq => by unfold lw_privs; simp only [List.mem_append]; exact Or.inr (Or.inr (Or.inr (Or.inr (Or.inl hq))))) h
theorem am_s6 (w : Cond) (h : w ∈ k2_sels lw_privs_6) : w ∈ lw_tbl := am_s0 w _ (fun q hq => by unfold lw_privs; simp only [List.mem_append]; exact Or.inr (Or.inr (Or.inr (Or.inr (Or.inr (hq)))))) h
theorem am_in2 {w : Cond} {T : List Cond} (hT : ∀ w ∈ T, w ∈ lw_tbl) (i : Nat) (h : T[i]? = some w) (hg : goodWord w = true) : w ∈ am_tb := List.mem_filter.mpr ⟨hT w (List.mem_of_getElem? h), hg⟩
/-- the words of a class's fields -/
theorem am_inW {C : String} {T : u_T} {N : Nat} {ws : List Cond} (h : ∀ w ∈ ws, w ∈ am_tb) (e : u_ws C T N = ws := by rfl) : ∀ w ∈ u_ws C T N, w ∈ am_tb := by rw [e]; exact h
theorem am_inL (ws : List Cond) (ps : List Nat) (h : ws.map some = ps.map (fun i => lw_tbl[i]?)) (hg : ws.all goodWord = true) : ∀ w ∈ ws, w ∈ am_tb := by
  intro w hw
  have h1 : some w ∈ ps.map (fun i => lw_tbl[i]?) := by rw [← h]; exact List.mem_map.mpr ⟨w, hw, rfl⟩
  obtain ⟨i, -, hi⟩ := List.mem_map.mp h1
  exact am_in i hi (List.all_eq_true.mp hg w hw)
theorem am_tb_good {w : Cond} (h : w ∈ am_tb) : (w.onTables && w.keeps) = true ∨ ∃ ty, w = .arrayClass ty := good_of_word (List.mem_filter.mp h).2
/-! classes, arrays, statics -/
def am_TS : u_T := fun k => match k with
  | 0 => ("java/lang/String", "value", "[B", true)
  | _ => ("java/lang/String", "coder", "B", true)
def am_TT : u_T := fun k => match k with
  | 0 => ("LabelledTables$Token", "text", "Ljava/lang/String;", true)
  | 1 => ("LabelledTables$Token", "column", "I", true)
  | _ => ("java/lang/Enum", "ordinal", "I", true)
def am_cl : List vw_C := [(RX0, TX0, NX0), (RX1, TX1, NX1), (RX2, TX2, NX2), (RX3, TX3, NX3), (RX4, TX4, NX4), (RX5, TX5, NX5), (RX6, TX6, NX6), (RX7, TX7, NX7), (RX8, am_TT, 3), (RX9, TX9, NX9), (RX10, TX10, NX10), ("java/lang/String", am_TS, 2)]
/-- is the field a reference? -/
def am_fr (ci k : Nat) : Bool := match am_cl[ci]? with
  | some r => !((r.2.1 k).2.2.1 == "I" || (r.2.1 k).2.2.1 == "Z" || (r.2.1 k).2.2.1 == "B")
  | none => false
def am_at : List FieldType := [.int, .char, .boolean, .array .int, .object RX7, .object RX5, .object RX2, .object RX0, .object RX8, .object RX8, .byte, .int]
def am_ar (k : Nat) : Bool := decide (3 ≤ k) && decide (k ≤ 9)
/-- the object class of the entries of an array -/
def am_ac (k : Nat) : Nat := match k with
  | 4 => 7
  | 5 => 5
  | 6 => 2
  | 7 => 0
  | _ => 8
/-- constant cells -/
def am_isc (x : am_Sh) : Bool := match x with
  | .inl ci => ci == 8 || decide (11 ≤ ci)
  | .inr q => decide (9 ≤ q.1)
def am_sts : List (String × String × String) := [("LabelledTables$Token", "INSERT", "LLabelledTables$Token;"), ("LabelledTables$Token", "UPDATE", "LLabelledTables$Token;"), ("LabelledTables$Token", "DELETE", "LLabelledTables$Token;"), ("LabelledTables$Token", "SELECT", "LLabelledTables$Token;"), ("LabelledTables$Token", "TOP", "LLabelledTables$Token;"), ("LabelledTables$Token", "FROM", "LLabelledTables$Token;"), ("LabelledTables$Token", "WHERE", "LLabelledTables$Token;"), ("LabelledTables$Token", "GROUP", "LLabelledTables$Token;"), ("LabelledTables$Token", "ORDER", "LLabelledTables$Token;"), ("LabelledTables$Token", "DESC", "LLabelledTables$Token;"), ("LabelledTables$Token", "COUNT", "LLabelledTables$Token;"), ("LabelledTables$Token", "SUM", "LLabelledTables$Token;"), ("LabelledTables$Token", "AND", "LLabelledTables$Token;"), ("LabelledTables$Token", "OR", "LLabelledTables$Token;"), ("LabelledTables$Token", "NOT", "LLabelledTables$Token;"), ("LabelledTables$Token", "COLUMN_K", "LLabelledTables$Token;"), ("LabelledTables$Token", "COLUMN_V", "LLabelledTables$Token;"), ("LabelledTables$Token", "COLUMN_W", "LLabelledTables$Token;"), ("LabelledTables$Token", "COLUMN_LAB", "LLabelledTables$Token;"), ("LabelledTables$Token", "NAME_A", "LLabelledTables$Token;"), ("LabelledTables$Token", "NAME_B", "LLabelledTables$Token;"), ("LabelledTables$Token", "PERIOD", "LLabelledTables$Token;"), ("LabelledTables$Token", "COMMA", "LLabelledTables$Token;"), ("LabelledTables$Token", "OPEN", "LLabelledTables$Token;"), ("LabelledTables$Token", "CLOSE", "LLabelledTables$Token;"), ("LabelledTables$Token", "OPEN_CONDITION", "LLabelledTables$Token;"), ("LabelledTables$Token", "CLOSE_CONDITION", "LLabelledTables$Token;"), ("LabelledTables$Token", "PLUS", "LLabelledTables$Token;"), ("LabelledTables$Token", "MINUS", "LLabelledTables$Token;"), ("LabelledTables$Token", "TIMES", "LLabelledTables$Token;"), ("LabelledTables$Token", "EQUAL", "LLabelledTables$Token;"), ("LabelledTables$Token", "LESS", "LLabelledTables$Token;"), ("LabelledTables$Token", "GREATER", "LLabelledTables$Token;"), ("LabelledTables$Token", "NUMBER", "LLabelledTables$Token;"), ("LabelledTables$Token", "COLUMN", "LLabelledTables$Token;"), ("LabelledTables$Token", "OTHER", "LLabelledTables$Token;"), ("LabelledTables$Token", "END", "LLabelledTables$Token;"), ("LabelledTables$Token", "ALL", "[LLabelledTables$Token;"), ("java/lang/String", "COMPACT_STRINGS", "Z"), ("jdk/internal/util/Preconditions", "SIOOBE_FORMATTER", "Ljava/util/function/BiFunction;")]
/-- the surroundings: class numbers and slots, array classes, the heap at the start, constant cells, statics -/
abbrev am_G : Type := va_G × (Nat → ClassId) × Heap × ((Nat → Option am_Sh) × (Nat → Nat → Int32) × (Nat → Nat → Option Nat)) × (Nat → Value)
def am_gv (i : Nat → Nat → Int32) (r : Nat → Nat → Option Nat) (b : Bool) (a k : Nat) : Value := if b then va_rf (r a k) else .int (i a k)
theorem am_gvF (i : Nat → Nat → Int32) (r : Nat → Nat → Option Nat) (a k : Nat) : am_gv i r false a k = .int (i a k) := rfl
theorem am_gvT (i : Nat → Nat → Int32) (r : Nat → Nat → Option Nat) (a k : Nat) : am_gv i r true a k = va_rf (r a k) := rfl
def am_FI (U : State) (C f d : String) (i : Nat) : Prop := ∃ cf kf fi fd, U.fieldFound? C f d = some (cf, kf, fi, fd) ∧ fd.slot = i ∧ fd.isStatic = false
theorem am_FI.moved {u U : State} {C f d : String} {i : Nat} (hvm : u.vm.Alike U.vm) (h : am_FI u C f d i) : am_FI U C f d i := by
  obtain ⟨cf, kf, fi, fd, h1, h2, h3⟩ := h
  obtain ⟨kf', hi', -⟩ := State.fieldFound?_setVm (s := u) hvm h1
  exact ⟨cf, kf', fi, fd, by simpa only [State.fieldFound?, State.vm_setVm] using hi', h2, h3⟩
/-- links to private members of nest mates -/
def am_nst : List Cond := [.methodLinkNest RX9 32 yX1_init RX9, .methodLinkNest RX6 26 yX0_init RX9, .methodLinkNest RX1 20 yX3_init RX9, .methodLinkNest RX2 38 yX9_dominates RX9]
/-- what the tables and the start say -/
def am_E (g : am_G) (U : State) : Prop :=
  (∀ ci r, am_cl[ci]? = some r → (∀ k, k < r.2.2 → am_FI U (r.2.1 k).1 (r.2.1 k).2.1 (r.2.1 k).2.2.1 (g.1.2 ci k)) ∧ (am_isc (.inl ci) = false → u_Kn U r.1 r.2.1 r.2.2 (g.1.1 ci) (g.1.2 ci)) ∧ (ci = 8 → ClassAt U r.1 (g.1.1 ci))) ∧
  (∀ k ty, am_at[k]? = some ty → k ≤ 8 → ArrOfT U (g.2.1 k) ty ∧ va_RA U (g.2.1 k) ty) ∧
  (∀ i q, am_sts[i]? = some q → va_Z q.1 q.2.1 q.2.2 (g.2.2.2.2 i) (fun a => g.2.2.1.size ≤ a) U g.2.2.1) ∧
  (∀ a ci, g.2.2.2.1.1 a = some (.inl ci) → ∃ r, am_cl[ci]? = some r ∧ va_O r.1 a (fun a => g.2.2.1.size ≤ a) U g.2.2.1 ∧ ∀ k, k < r.2.2 → va_OF (r.2.1 k).1 (r.2.1 k).2.1 (r.2.1 k).2.2.1 (am_gv g.2.2.2.1.2.1 g.2.2.2.1.2.2 (am_fr ci k) a k) a (fun a => g.2.2.1.size ≤ a) U g.2.2.1) ∧
  (∀ a q, g.2.2.2.1.1 a = some (.inr q) → ∃ ty, am_at[q.1]? = some ty ∧ va_T ty a q.2 (fun j => am_gv g.2.2.2.1.2.1 g.2.2.2.1.2.2 (am_ar q.1) a j) (fun a => g.2.2.1.size ≤ a) U g.2.2.1) ∧
  (∀ i, i < 38 → ∃ a, g.2.2.2.2 i = .ref a) ∧
  (∃ kA kI, U.vm.classes[g.2.1 3]? = some kA ∧ kA.kind = .array (g.2.1 0) (.array .int) ∧ U.vm.classes[g.2.1 0]? = some kI) ∧
  (∀ k, 4 ≤ k → k ≤ 8 → ∃ r, am_cl[am_ac k]? = some r ∧ va_AO r.1 U) ∧ (Cond.arrayOver (.array .int)).before #[] U = true ∧
  ∀ w ∈ am_nst, va_Nw w U
/-- the address of a constant -/
def am_tk (g : am_G) (i : Nat) : Nat := match g.2.2.2.2 i with
  | .ref a => a
  | _ => 0
theorem am_E.moved {g : am_G} {u U : State} (hvm : u.vm.Alike U.vm) (hn : ∀ w ∈ am_nst, va_Nw w u → va_Nw w U) (h : am_E g u) : am_E g U := by
  obtain ⟨h1, h2, h3, h4, h5, h6, ⟨kA, kI, h7, h8, h9⟩, h10, h11, h12⟩ := h
  refine ⟨fun ci r hr => ?_, fun k ty hk h8 => ?_, fun i q hq => (h3 i q hq).moved hvm, fun a ci ha => ?_, fun a q ha => ?_, h6, ?_, fun k h4k hk8 => ?_, over_moved hvm h11, fun w hw => hn w hw (h12 w hw)⟩
  · obtain ⟨a1, a2, a3⟩ := h1 ci r hr
    exact ⟨fun k hk => (a1 k hk).moved hvm, fun hc => u_Kn_moved hvm (a2 hc), fun hc => classAt_moved hvm (a3 hc)⟩
  · obtain ⟨a1, a2⟩ := h2 k ty hk h8
    exact ⟨arrOfT_moved hvm a1, a2.moved hvm⟩
  · obtain ⟨r, a1, a2, a3⟩ := h4 a ci ha
    exact ⟨r, a1, a2.moved hvm, fun k hk => (a3 k hk).moved hvm⟩
  · obtain ⟨ty, a1, a2⟩ := h5 a q ha
    exact ⟨ty, a1, a2.moved hvm⟩
  · obtain ⟨k', hk', he⟩ := hvm.2.2 _ _ h7
    obtain ⟨k2, hk2, -⟩ := hvm.2.2 _ _ h9
    exact ⟨k', k2, hk', by rw [he]; exact h8, hk2⟩
  · obtain ⟨r, a1, a2⟩ := h10 k h4k hk8
    exact ⟨r, a1, a2.moved hvm⟩
theorem am_E.same {g : am_G} {u U : State} (hvm : u.vm = U.vm) (h : am_E g u) : am_E g U := h.moved (by rw [hvm]; exact Vm.Alike.refl _) (fun w hw hz => hz.same (by
  simp only [am_nst, List.mem_cons, List.not_mem_nil, or_false] at hw
  rcases hw with rfl | rfl | rfl | rfl <;> rfl) hvm)
theorem am_E.warm {g : am_G} {u U : State} (hW : u.WarmedH U.vm) (h : am_E g u) : am_E g U := h.moved hW.alike (fun w hw hz => by
  simp only [am_nst, List.mem_cons, List.not_mem_nil, or_false] at hw
  rcases hw with rfl | rfl | rfl | rfl <;> exact va_Nw.warmM hW hz)
/-- an own cell -/
def am_cell (g : am_G) (σ : am_S) (H : Heap) (a : Nat) (x : am_Sh) : Prop := match x with
  | .inl ci => ∃ r, am_cl[ci]? = some r ∧ t_OB a (g.1.1 ci) r.2.2 (g.1.2 ci) H (fun k => am_gv (am_i σ) (am_r σ) (am_fr ci k) a k)
  | .inr q => q.1 ≤ 8 ∧ H[a]? = some (arrV (g.2.1 q.1) q.2 (fun j => am_gv (am_i σ) (am_r σ) (am_ar q.1) a j))
/-- the heap is as the state says -/
def am_R (g : am_G) (σ : am_S) (H : Heap) : Prop :=
  H.size = am_tp σ ∧ g.2.2.1.size ≤ am_tp σ ∧ (∀ q : Nat, q < g.2.2.1.size → H[q]? = g.2.2.1[q]?) ∧
  (∀ a x, am_sh σ a = some x → am_isc x = false → g.2.2.1.size ≤ a ∧ am_cell g σ H a x) ∧
  (∀ a x, am_sh σ a = some x → am_isc x = true → g.2.2.2.1.1 a = some x ∧ am_i σ a = g.2.2.2.1.2.1 a ∧ am_r σ a = g.2.2.2.1.2.2 a)
theorem am_cell.lt {g : am_G} {σ : am_S} {H : Heap} {a : Nat} {x : am_Sh} (h : am_cell g σ H a x) : a < H.size := by
  cases x with
  | inl ci =>
    obtain ⟨r, -, cell, h1, -⟩ := h
    exact (Array.getElem?_eq_some_iff.mp h1).1
  | inr q => exact (Array.getElem?_eq_some_iff.mp h.2).1
theorem am_cell.kept {g : am_G} {σ σ' : am_S} {H H' : Heap} {a : Nat} {x : am_Sh} (h : am_cell g σ H a x) (hq : H'[a]? = H[a]?) (hi : am_i σ' a = am_i σ a) (hr : am_r σ' a = am_r σ a) : am_cell g σ' H' a x := by
  cases x with
  | inl ci =>
    obtain ⟨r, h1, h2⟩ := h
    refine ⟨r, h1, (h2.kept hq).to fun k _ => ?_⟩
    unfold am_gv
    rw [hi, hr]
  | inr q =>
    refine ⟨h.1, ?_⟩
    rw [hq, h.2]
    unfold am_gv
    rw [hi, hr]
/-- one own cell is written -/
theorem am_R.set {g : am_G} {σ σ' : am_S} {H H' : Heap} {a : Nat} {x : am_Sh} (h : am_R g σ H) (hx : am_sh σ a = some x) (hc : am_isc x = false) (hz : H'.size = H.size) (ho : ∀ q : Nat, q ≠ a → H'[q]? = H[q]?) (hn : am_cell g σ' H' a x)
    (hs : am_sh σ' = am_sh σ) (ht : am_tp σ' = am_tp σ) (hi : ∀ b, b ≠ a → am_i σ' b = am_i σ b) (hr : ∀ b, b ≠ a → am_r σ' b = am_r σ b) : am_R g σ' H' := by
  obtain ⟨h1, h2, h3, h4, h5⟩ := h
  refine ⟨by rw [hz, ht]; exact h1, by rw [ht]; exact h2, fun q hq => ?_, fun b y hb hy => ?_, fun b y hb hy => ?_⟩
  · rw [ho q (fun e => ?_)]
    · exact h3 q hq
    · have := (h4 a x hx hc).1
      omega
  · rw [hs] at hb
    by_cases e : b = a
    · subst e
      cases hx.symm.trans hb
      exact ⟨(h4 b x hx hc).1, hn⟩
    · exact ⟨(h4 b y hb hy).1, (h4 b y hb hy).2.kept (ho b e) (hi b e) (hr b e)⟩
  · rw [hs] at hb
    have e : b ≠ a := fun e => by
      subst e
      cases hx.symm.trans hb
      rw [hc] at hy
      cases hy
    rw [hi b e, hr b e]
    exact h5 b y hb hy
/-- locals, by their places -/
def am_L (ls : Array Slot) (n : Nat) (L : List (Option Value)) : Prop := ls.size = n ∧ L.length ≤ n ∧ lv_wf ls ∧ ∀ (i : Nat) (v : Value), L[i]? = some (some v) → ls[i]? = some (Slot.val v)
theorem am_L.at {ls : Array Slot} {n i : Nat} {L : List (Option Value)} {v : Value} (h : am_L ls n L) (hi : L[i]? = some (some v)) : ls[i]? = some (.val v) := h.2.2.2 i v hi
/-- the list that the kit's rows take -/
def am_as : Nat → List (Option Value) → List (Nat × Value)
  | _, [] => []
  | i, some v :: L => (i, v) :: am_as (i + 1) L
  | i, none :: L => am_as (i + 1) L
theorem am_as_mem {L : List (Option Value)} : ∀ {j : Nat} {q : Nat × Value}, q ∈ am_as j L ↔ ∃ i, q.1 = j + i ∧ L[i]? = some (some q.2) := by
  induction L with
  | nil => intro j q; simp [am_as]
  | cons o L ih =>
    intro j q
    cases o with
    | none =>
      rw [am_as, ih]
      constructor
      · rintro ⟨i, h1, h2⟩
        exact ⟨i + 1, by omega, by simpa using h2⟩
      · rintro ⟨i, h1, h2⟩
        cases i with
        | zero => simp at h2
        | succ i => exact ⟨i, by omega, by simpa using h2⟩
    | some v =>
      rw [am_as, List.mem_cons, ih]
      constructor
      · rintro (rfl | ⟨i, h1, h2⟩)
        · exact ⟨0, by simp, by simp⟩
        · exact ⟨i + 1, by omega, by simpa using h2⟩
      · rintro ⟨i, h1, h2⟩
        cases i with
        | zero =>
          left
          simp at h2
          obtain ⟨a, b⟩ := q
          simp at h1 h2
          rw [h1, h2]
        | succ i => exact Or.inr ⟨i, by omega, by simpa using h2⟩
theorem am_L.has {ls : Array Slot} {n : Nat} {L : List (Option Value)} (h : am_L ls n L) : lv_has ls n (am_as 0 L) := by
  refine ⟨h.1, h.2.2.1, fun q hq => ?_⟩
  obtain ⟨i, h1, h2⟩ := am_as_mem.mp hq
  rw [show q.1 = i by omega]
  exact h.2.2.2 i _ h2
def am_kl (L : List (Option Value)) (i : Nat) : List (Option Value) := match i with
  | 0 => L
  | j + 1 => match L[j]? with
    | some (some (.long _)) => L.set j none
    | some (some (.double _)) => L.set j none
    | _ => L
/-- a store of one slot -/
def am_st (L : List (Option Value)) (i : Nat) (v : Value) : List (Option Value) := (am_kl L i).set i (some v)
theorem am_st_mem {L : List (Option Value)} {i j : Nat} {v w : Value} (h : (am_st L i v)[j]? = some (some w)) (hv : v.category = 1) : (j, w) ∈ (i, v) :: (am_as 0 L).filter (fun q => !(q.1 == i) && !(q.1 + 1 == i && q.2.category == 2)) := by
  unfold am_st at h
  rw [List.getElem?_set] at h
  by_cases e : i = j
  · subst e
    simp only [if_true] at h
    split at h
    · cases h
      exact List.mem_cons_self
    · cases h
  · rw [if_neg e] at h
    refine List.mem_cons_of_mem _ (List.mem_filter.mpr ?_)
    have key : L[j]? = some (some w) ∧ ¬ (j + 1 = i ∧ w.category = 2) := by
      unfold am_kl at h
      cases i with
      | zero => exact ⟨h, fun q => by omega⟩
      | succ k =>
        dsimp only at h
        split at h
        · rename_i x hx
          rw [List.getElem?_set] at h
          by_cases e2 : k = j
          · subst e2
            simp only [if_true] at h
            split at h <;> cases h
          · rw [if_neg e2] at h
            exact ⟨h, fun q => by omega⟩
        · rename_i x hx
          rw [List.getElem?_set] at h
          by_cases e2 : k = j
          · subst e2
            simp only [if_true] at h
            split at h <;> cases h
          · rw [if_neg e2] at h
            exact ⟨h, fun q => by omega⟩
        · rename_i n1 n2
          refine ⟨h, fun q => ?_⟩
          have e3 : j = k := by omega
          subst e3
          cases w with
          | long x => exact n1 x h
          | double x => exact n2 x h
          | _ => simp [Value.category] at q
    refine ⟨am_as_mem.mpr ⟨j, by simp, key.1⟩, ?_⟩
    simp only [Bool.and_eq_true, Bool.not_eq_true', beq_eq_false_iff_ne, ne_eq]
    refine ⟨fun q => e q.symm, ?_⟩
    have := key.2
    cases hb : (j + 1 == i && w.category == 2) with
    | false => rfl
    | true =>
      simp only [Bool.and_eq_true, beq_iff_eq] at hb
      exact absurd hb this
theorem am_L.put {ls : Array Slot} {n i : Nat} {L : List (Option Value)} {v : Value} (h : am_L ls n L) (hc : v.category = 1) {ls' : Array Slot} (h' : lv_has ls' n ((i, v) :: (am_as 0 L).filter (fun q => !(q.1 == i) && !(q.1 + 1 == i && q.2.category == 2)))) : am_L ls' n (am_st L i v) := by
  refine ⟨h'.1, ?_, h'.2.1, fun j w hj => h'.2.2 (j, w) (am_st_mem hj hc)⟩
  have hk : (am_kl L i).length = L.length := by
    unfold am_kl
    cases i with
    | zero => rfl
    | succ k =>
      dsimp only
      split <;> simp
  unfold am_st
  rw [List.length_set, hk]
  exact h.2.1
/-- the locals with which a method begins -/
def am_ent (vs : List Value) : List (Option Value) := vs.flatMap (fun v => if v.category = 2 then [some v, none] else [some v])
def am_ini (vs : List Value) (n : Nat) : List (Option Value) := am_ent vs ++ List.replicate (n - (am_ent vs).length) none
theorem am_ent_mem (vs : List Value) : ∀ (j i : Nat) (v : Value), (am_ent vs)[i]? = some (some v) → (j + i, v) ∈ lv_args j vs := by
  induction vs with
  | nil => intro j i v h; simp [am_ent] at h
  | cons w vs ih =>
    intro j i v h
    rw [lv_args]
    by_cases hw : w.category = 2
    · rw [if_pos hw]
      have e : am_ent (w :: vs) = some w :: none :: am_ent vs := by simp [am_ent, hw]
      rw [e] at h
      match i, h with
      | 0, h =>
        simp at h
        subst h
        exact List.mem_cons_self
      | 1, h => simp at h
      | i + 2, h =>
        have := ih (j + 2) i v (by simpa using h)
        refine List.mem_cons_of_mem _ ?_
        rw [show j + (i + 2) = j + 2 + i by omega]
        exact this
    · rw [if_neg hw]
      have e : am_ent (w :: vs) = some w :: am_ent vs := by simp [am_ent, hw]
      rw [e] at h
      match i, h with
      | 0, h =>
        simp at h
        subst h
        exact List.mem_cons_self
      | i + 1, h =>
        have := ih (j + 1) i v (by simpa using h)
        refine List.mem_cons_of_mem _ ?_
        rw [show j + (i + 1) = j + 1 + i by omega]
        exact this
theorem am_ini_L (vs : List Value) {n : Nat} (h : (lg_sl vs).length ≤ n) : am_L ((lg_sl vs ++ List.replicate (n - (lg_sl vs).length) Slot.unset).toArray) n (am_ini vs n) := by
  have h0 := lv_entry vs h
  have hl : (am_ent vs).length = (lg_sl vs).length := by
    clear h h0
    induction vs with
    | nil => rfl
    | cons w vs ih =>
      have e1 : am_ent (w :: vs) = (if w.category = 2 then [some w, none] else [some w]) ++ am_ent vs := rfl
      have e2 : lg_sl (w :: vs) = (if w.category = 2 then [.val w, .second] else [.val w]) ++ lg_sl vs := rfl
      rw [e1, e2, List.length_append, List.length_append, ih]
      split <;> rfl
  refine ⟨h0.1, ?_, h0.2.1, fun i v hi => ?_⟩
  · unfold am_ini
    rw [List.length_append, List.length_replicate, hl]
    omega
  · unfold am_ini at hi
    rw [List.getElem?_append] at hi
    split at hi
    · have := am_ent_mem vs 0 i v hi
      rw [Nat.zero_add] at this
      exact h0.2.2 (i, v) this
    · rw [List.getElem?_replicate] at hi
      split at hi <;> cases hi
/-! ===== what a method's walk rests on ===== -/
/-- a method: name, bytes, locals, answer -/
abbrev am_M : Type := MethodName × ByteArray × Nat × Option FieldType
def am_F (g : am_G) (M : am_M) (d : Nat) (p : Program) (R : Room) (s : State) (m : MethodId) (args : Array Value) (meth : Method) (c : Code) : Prop :=
  p.tables.exec = Jvm.exec ∧ c.code = M.2.1 ∧ meth.sig.returnType = M.2.2.2 ∧ c.maxLocals = M.2.2.1 ∧ s.vm.findClass M.1.cls = some m.cls ∧ (∀ w ∈ am_tb, w.before args s = true) ∧ am_E g s ∧ meth.locks = false ∧ meth.name = M.1.name ∧ d ≤ R.frames ∧ 60 * d ≤ R.locals
/-- an answer that the return instruction at pc gives -/
def am_ret (M : am_M) (pc : Nat) (v : Option Value) : Prop :=
  (decode M.2.1 pc = .ok (.ireturn, 1) ∧ ∃ x ty, v = some (.int x) ∧ M.2.2.2 = some ty ∧ narrow ty (.int x) = .int x) ∨
  (decode M.2.1 pc = .ok (.areturn, 1) ∧ ∃ a ty, v = some (.ref a) ∧ M.2.2.2 = some ty ∧ ((∃ n, ty = .object n) ∨ ∃ t, ty = .array t)) ∨
  (decode M.2.1 pc = .ok (.return_, 1) ∧ v = none ∧ M.2.2.2 = none)
/-- from pc, with these locals, this stack, this state: the method ends, with Q -/
def am_W (g : am_G) (l : Launch) (M : am_M) (d : Nat) (lim : Nat × Nat) (Q : Option Value → am_S → Prop) (pc : Nat) (L : List (Option Value)) (st : List Value) (σ : am_S) : Prop :=
  ∀ (p : Program) (e : Env) (R : Room) (s : State) (m : MethodId) (args : Array Value) (below : List Frame) (meth : Method) (c : Code) (H : Heap) (locs : List Loc) (cells slots mc ms : Nat) (ls : Array Slot) (Z : State → Prop),
    am_F g M d p R s m args meth c → am_R g σ H → (∀ q ∈ locs, g.2.2.1.size ≤ q.base) → am_L ls M.2.2.1 L →
    cells + lim.1 = mc + am_tp σ → slots + lim.2 = ms + am_us σ → am_tp σ ≤ lim.1 → am_us σ ≤ lim.2 → mc ≤ R.cells → ms ≤ R.slots →
    (∀ (pc' : Nat) (v : Option Value) (σ' : am_S) (H' : Heap) (locs' : List Loc) (ls' : Array Slot), am_ret M pc' v → Q v σ' → am_R g σ' H' → (∀ q ∈ locs', g.2.2.1.size ≤ q.base) → am_tp σ' = lim.1 → am_us σ' = lim.2 → W p l e R s m args below meth c H' locs' mc ms Z (F0 m pc' ls' v.toList)) →
    W p l e R s m args below meth c H locs cells slots Z (F0 m pc ls st)
/-- a method's contract, from one state -/
def am_C (g : am_G) (l : Launch) (M : am_M) (d : Nat) (lim : Nat × Nat) (args : List Value) (σ : am_S) (Q : Option Value → am_S → Prop) : Prop :=
  am_tp σ ≤ lim.1 ∧ am_us σ ≤ lim.2 ∧
  Met l M.1 (Cond.code M.1 M.2.1 M.2.2.1 M.2.2.2 :: am_tb) { frames := d, cells := lim.1 - am_tp σ, slots := lim.2 - am_us σ, locals := 60 * d }
    (fun v U => v = args.toArray ∧ am_R g σ U.heap ∧ am_E g U)
    (fun _ _ oc t => ∃ v σ', oc = .returned v ∧ Q v σ' ∧ am_R g σ' t.heap ∧ am_tp σ' = lim.1 ∧ am_us σ' = lim.2)
    (lim.1 - am_tp σ) (lim.2 - am_us σ) (fun q => g.2.2.1.size ≤ q)
theorem am_W.mono {g : am_G} {l : Launch} {M : am_M} {d : Nat} {lim : Nat × Nat} {Q Q' : Option Value → am_S → Prop} {pc : Nat} {L : List (Option Value)} {st : List Value} {σ : am_S} (h : am_W g l M d lim Q pc L st σ) (hq : ∀ v σ', Q v σ' → Q' v σ') : am_W g l M d lim Q' pc L st σ :=
  fun p e R s m args below meth c H locs cells slots mc ms ls Z a1 a2 a3 a4 a5 a6 a7 a8 a9 a10 a11 => h p e R s m args below meth c H locs cells slots mc ms ls Z a1 a2 a3 a4 a5 a6 a7 a8 a9 a10 (fun pc' v σ' H' locs' ls' b1 b2 => a11 pc' v σ' H' locs' ls' b1 (hq v σ' b2))
set_option maxHeartbeats 4000000 in
/-- a contract out of the walk of its body -/
theorem am_C.of {g : am_G} {l : Launch} {M : am_M} {d : Nat} {lim : Nat × Nat} {args : List Value} {σ : am_S} {Q : Option Value → am_S → Prop} (hp : plainName M.1.cls = true) (ht : am_tp σ ≤ lim.1) (hu : am_us σ ≤ lim.2) (hl : (lg_sl args).length ≤ M.2.2.1)
    (h : am_W g l M d lim Q 0 (am_ini args M.2.2.1) [] σ) : am_C g l M d lim args σ Q := by
  refine ⟨ht, hu, ?_⟩
  refine Met.ofW (cc := M.2.1) (maxL := M.2.2.1) (ret := M.2.2.2) hp rfl ?_
  intro p e s m as below meth c s₁ B hml hv
  obtain ⟨rfl, hR, hE⟩ := hv
  have hx := B.exec
  have hb := B.bytes
  have hr := B.returns
  have hts := atoms_spec (ws := Cond.code M.1 M.2.1 M.2.2.1 M.2.2.2 :: am_tb) B.pre
  have hown : s.vm.findClass M.1.cls = some m.cls := findClass_of_methodNamed B.named
  have hlocks := B.notSynchronized
  have hin : meth.name = M.1.name := (name_of_methodNamed B.named B.method).1
  rw [lg_entry_eq]
  refine h p e _ s m _ below meth c s.heap [] 0 0 (lim.1 - am_tp σ) (lim.2 - am_us σ) _ _ ⟨hx, hb, hr, hml, hown, fun w hw => hts w (List.mem_cons_of_mem _ hw), hE, hlocks, hin, Nat.le_refl _, Nat.le_refl _⟩ hR (fun q hq => by cases hq) (am_ini_L args hl) (by omega) (by omega) ht hu (Nat.le_refl _) (Nat.le_refl _) ?_
  intro pc' v σ' H' locs' ls' hret hq hR' hlo h1 h2
  have hQ : ∀ t : State, t.heap = H' → s.WarmedH t.vm → (fun (_ : Array Value) (_ : State) (oc : Outcome) (t : State) => ∃ v σ', oc = .returned v ∧ Q v σ' ∧ am_R g σ' t.heap ∧ am_tp σ' = lim.1 ∧ am_us σ' = lim.2) args.toArray s (.returned v) t :=
    fun t ht _ => ⟨v, σ', rfl, hq, by rw [ht]; exact hR', h1, h2⟩
  rcases hret with ⟨hd, x, ty, rfl, hty, hn⟩ | ⟨hd, a, ty, rfl, hty, hk⟩ | ⟨hd, rfl, hty⟩
  · exact W.zret hx hb (hr.trans hty) hn hQ hlo hd hlocks
  · exact W.aret hx hb (hr.trans hty) hk (Or.inr ⟨a, rfl⟩) hQ hlo hd hlocks
  · exact W.vret hx hb (hr.trans hty) hQ hlo hd hlocks
/-! ===== one transformer an instruction; its rule ===== -/
abbrev am_K : Type := List (Option Value) → List Value → am_S → Prop
def ax_const (v : Value) (K : am_K) : am_K := fun L st σ => K L (v :: st) σ
def ax_iload (n : Nat) (K : am_K) : am_K := fun L st σ => match L[n]? with
  | some (some (.int x)) => K L (.int x :: st) σ
  | _ => False
def ax_lload (n : Nat) (K : am_K) : am_K := fun L st σ => match L[n]? with
  | some (some (.long x)) => K L (.long x :: st) σ
  | _ => False
def ax_aload (n : Nat) (K : am_K) : am_K := fun L st σ => match L[n]? with
  | some (some (.ref x)) => K L (.ref x :: st) σ
  | _ => False
def ax_istore (n : Nat) (K : am_K) : am_K := fun L st σ => match st with
  | .int x :: r => K (am_st L n (.int x)) r σ
  | _ => False
def ax_astore (n : Nat) (K : am_K) : am_K := fun L st σ => match st with
  | .ref x :: r => K (am_st L n (.ref x)) r σ
  | _ => False
def ax_iinc (n : Nat) (k : Int32) (K : am_K) : am_K := fun L st σ => match L[n]? with
  | some (some (.int x)) => K (am_st L n (.int (x + k))) st σ
  | _ => False
def ax_i2 (f : Int32 → Int32 → Int32) (K : am_K) : am_K := fun L st σ => match st with
  | .int y :: .int x :: r => K L (.int (f x y) :: r) σ
  | _ => False
def ax_i2n (f : Int32 → Int32 → Int32) (K : am_K) : am_K := fun L st σ => match st with
  | .int y :: .int x :: r => ¬ y = 0 ∧ K L (.int (f x y) :: r) σ
  | _ => False
def ax_l2 (f : Int64 → Int64 → Int64) (K : am_K) : am_K := fun L st σ => match st with
  | .long y :: .long x :: r => K L (.long (f x y) :: r) σ
  | _ => False
def ax_lsh (f : Int64 → Int32 → Int64) (K : am_K) : am_K := fun L st σ => match st with
  | .int y :: .long x :: r => K L (.long (f x y) :: r) σ
  | _ => False
def ax_ii (f : Int32 → Int32) (K : am_K) : am_K := fun L st σ => match st with
  | .int x :: r => K L (.int (f x) :: r) σ
  | _ => False
def ax_il (f : Int32 → Int64) (K : am_K) : am_K := fun L st σ => match st with
  | .int x :: r => K L (.long (f x) :: r) σ
  | _ => False
def ax_li (f : Int64 → Int32) (K : am_K) : am_K := fun L st σ => match st with
  | .long x :: r => K L (.int (f x) :: r) σ
  | _ => False
def ax_pop (K : am_K) : am_K := fun L st σ => match st with
  | v :: r => v.category = 1 ∧ K L r σ
  | _ => False
def ax_dup (K : am_K) : am_K := fun L st σ => match st with
  | v :: r => v.category = 1 ∧ K L (v :: v :: r) σ
  | _ => False
def ax_dup2 (K : am_K) : am_K := fun L st σ => match st with
  | w :: v :: r => w.category = 1 ∧ v.category = 1 ∧ K L (w :: v :: w :: v :: r) σ
  | _ => False
def ax_if (P : Int32 → Prop) (T K : am_K) : am_K := fun L st σ => match st with
  | .int x :: r => (P x → T L r σ) ∧ (¬ P x → K L r σ)
  | _ => False
def ax_cmp (P : Int32 → Int32 → Prop) (T K : am_K) : am_K := fun L st σ => match st with
  | .int y :: .int x :: r => (P x y → T L r σ) ∧ (¬ P x y → K L r σ)
  | _ => False
def ax_acmp (b : Bool) (T K : am_K) : am_K := fun L st σ => match st with
  | .ref y :: .ref x :: r => (x = y → (if b then T else K) L r σ) ∧ (¬ x = y → (if b then K else T) L r σ)
  | _ => False
def ax_goto (T : am_K) : am_K := T
def ax_getI (ci k : Nat) (K : am_K) : am_K := fun L st σ => match st with
  | .ref a :: r => am_sh σ a = some (.inl ci) ∧ K L (.int (am_i σ a k) :: r) σ
  | _ => False
def ax_getR (ci k : Nat) (K : am_K) : am_K := fun L st σ => match st with
  | .ref a :: r => am_sh σ a = some (.inl ci) ∧ ∃ b, am_r σ a k = some b ∧ K L (.ref b :: r) σ
  | _ => False
/-- (z: a boolean) -/
def ax_putI (z : Bool) (ci k : Nat) (K : am_K) : am_K := fun L st σ => match st with
  | .int v :: .ref a :: r => am_sh σ a = some (.inl ci) ∧ (z = true → v = 0 ∨ v = 1) ∧ K L r (am_wi σ a k v)
  | _ => False
def ax_putR (ci k : Nat) (K : am_K) : am_K := fun L st σ => match st with
  | .ref v :: .ref a :: r => am_sh σ a = some (.inl ci) ∧ K L r (am_wr σ a k (some v))
  | _ => False
def ax_gets (g : am_G) (i : Nat) (K : am_K) : am_K := fun L st σ => K L (g.2.2.2.2 i :: st) σ
def ax_getsT (g : am_G) (i : Nat) (K : am_K) : am_K := fun L st σ => K L (.ref (am_tk g i) :: st) σ
/-- an index within -/
def am_ix (i : Int32) (n : Nat) : Prop := 0 ≤ i.toInt ∧ i.toInt < n
theorem am_ix.vp {i : Int32} {n : Nat} (h : am_ix i n) : vp_in i n := by
  intro q
  obtain ⟨h1, h2⟩ := h
  rcases q with q | q
  · rw [Int32.lt_iff_toInt_lt, Int32.toInt_zero] at q
    omega
  · have : i.toNatClampNeg = i.toInt.toNat := rfl
    omega
theorem am_ix.lt {i : Int32} {n : Nat} (h : am_ix i n) : i.toNatClampNeg < n := by
  obtain ⟨h1, h2⟩ := h
  have : i.toNatClampNeg = i.toInt.toNat := rfl
  omega
def ax_aldI (k : Nat) (K : am_K) : am_K := fun L st σ => match st with
  | .int i :: .ref a :: r => ∃ n, am_sh σ a = some (.inr (k, n)) ∧ am_ix i n ∧ K L (.int (am_i σ a i.toNatClampNeg) :: r) σ
  | _ => False
def ax_aldR (k : Nat) (K : am_K) : am_K := fun L st σ => match st with
  | .int i :: .ref a :: r => ∃ n, am_sh σ a = some (.inr (k, n)) ∧ am_ix i n ∧ ∃ b, am_r σ a i.toNatClampNeg = some b ∧ K L (.ref b :: r) σ
  | _ => False
def ax_astI (k : Nat) (f : Int32 → Int32) (K : am_K) : am_K := fun L st σ => match st with
  | .int x :: .int i :: .ref a :: r => ∃ n, am_sh σ a = some (.inr (k, n)) ∧ am_ix i n ∧ K L r (am_wi σ a i.toNatClampNeg (f x))
  | _ => False
def ax_astR (k : Nat) (K : am_K) : am_K := fun L st σ => match st with
  | .ref x :: .int i :: .ref a :: r => ∃ n, am_sh σ a = some (.inr (k, n)) ∧ am_ix i n ∧ (if k = 3 then ∃ n', am_sh σ x = some (.inr (0, n')) else am_sh σ x = some (.inl (am_ac k))) ∧ K L r (am_wr σ a i.toNatClampNeg (some x))
  | _ => False
def ax_alen (K : am_K) : am_K := fun L st σ => match st with
  | .ref a :: r => ∃ k n, am_sh σ a = some (.inr (k, n)) ∧ K L (.int (Int32.ofNat n) :: r) σ
  | _ => False
def ax_new (lim : Nat × Nat) (ci n : Nat) (K : am_K) : am_K := fun L st σ => am_tp σ + 1 ≤ lim.1 ∧ am_us σ + n ≤ lim.2 ∧ K L (.ref (am_tp σ) :: st) (am_al σ (.inl ci) n)
def ax_newa (lim : Nat × Nat) (k : Nat) (K : am_K) : am_K := fun L st σ => match st with
  | .int n :: r => 0 ≤ n.toInt ∧ n.toInt ≤ 100000 ∧ am_tp σ + 1 ≤ lim.1 ∧ am_us σ + n.toNatClampNeg ≤ lim.2 ∧ K L (.ref (am_tp σ) :: r) (am_al σ (.inr (k, n.toNatClampNeg)) n.toNatClampNeg)
  | _ => False
def ax_call (g : am_G) (l : Launch) (d : Nat) (lim : Nat × Nat) (M' : am_M) (ci : Option Nat) (n : Nat) (K : am_K) : am_K := fun L st σ =>
  ∃ (d' : Nat) (lim' : Nat × Nat) (Qc : Option Value → am_S → Prop), d' < d ∧ lim'.1 ≤ lim.1 ∧ lim'.2 ≤ lim.2 ∧ n ≤ st.length ∧ ((st.drop n).map fun v => v.category).sum ≤ 8 ∧
    (∀ c, ci = some c → ∃ b, st[n - 1]? = some (.ref b) ∧ am_sh σ b = some (.inl c)) ∧ am_C g l M' d' lim' (st.take n).reverse σ Qc ∧
    ∀ v σ', Qc v σ' → am_tp σ' = lim'.1 → am_us σ' = lim'.2 → K L (v.toList ++ st.drop n) σ'
def ax_oinit (K : am_K) : am_K := fun L st σ => match st with
  | .ref _ :: r => (r.map fun v => v.category).sum ≤ 8 ∧ K L r σ
  | _ => False
/-- System.arraycopy of ints -/
def ax_copy (K : am_K) : am_K := fun L st σ => match st with
  | .int n :: .int dp :: .ref b :: .int sp :: .ref a :: r => ∃ na nb, a ≠ b ∧ am_sh σ a = some (.inr (0, na)) ∧ am_sh σ b = some (.inr (0, nb)) ∧ 0 ≤ n.toInt ∧ 0 ≤ dp.toInt ∧ 0 ≤ sp.toInt ∧ sp.toInt + n.toInt ≤ na ∧ dp.toInt + n.toInt ≤ nb ∧ (r.map fun v => v.category).sum ≤ 8 ∧
      K L r (σ.1, fun c j => if c = b ∧ dp.toNatClampNeg ≤ j ∧ j < dp.toNatClampNeg + n.toNatClampNeg then am_i σ a (sp.toNatClampNeg + (j - dp.toNatClampNeg)) else am_i σ c j, σ.2.2)
  | _ => False
def ax_ret (lim : Nat × Nat) (z : Bool) (Q : Option Value → am_S → Prop) : am_K := fun _ st σ => match st with
  | [.int x] => (z = true → x = 0 ∨ x = 1) ∧ am_tp σ = lim.1 ∧ am_us σ = lim.2 ∧ Q (some (.int x)) σ
  | _ => False
def ax_aret (lim : Nat × Nat) (Q : Option Value → am_S → Prop) : am_K := fun _ st σ => match st with
  | [.ref x] => am_tp σ = lim.1 ∧ am_us σ = lim.2 ∧ Q (some (.ref x)) σ
  | _ => False
def ax_vret (lim : Nat × Nat) (Q : Option Value → am_S → Prop) : am_K := fun _ st σ => st = [] ∧ am_tp σ = lim.1 ∧ am_us σ = lim.2 ∧ Q none σ
