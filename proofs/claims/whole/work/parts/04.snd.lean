section SX
variable {g : am_G} {l : Launch} {M : am_M} {d : Nat} {lim : Nat × Nat} {Q : Option Value → am_S → Prop} {pc : Nat} {K T : am_K}
theorem sx_iconst {n : Int} {v : Int32} (hd : decode M.2.1 pc = .ok (.iconst n, 1)) (hv : Int32.ofInt n = v) (hk : ∀ L st σ, K L st σ → am_W g l M d lim Q (pc + 1) L st σ) : ∀ L st σ, ax_const (.int v) K L st σ → am_W g l M d lim Q pc L st σ := by
  intro L st σ h
  intro p e R s m args below meth c H locs cells slots mc ms ls Z hF hR hlo hL c1 c2 c3 c4 c5 c6 hz
  exact lv_iconst hF.1 hF.2.1 hd hv (hk L (.int v :: st) σ h p e R s m args below meth c H locs cells slots mc ms ls Z hF hR hlo hL c1 c2 c3 c4 c5 c6 hz)
theorem sx_bipush {n : Int} {v : Int32} (hd : decode M.2.1 pc = .ok (.bipush n, 2)) (hv : (Int8.ofInt n).toInt32 = v) (hk : ∀ L st σ, K L st σ → am_W g l M d lim Q (pc + 2) L st σ) : ∀ L st σ, ax_const (.int v) K L st σ → am_W g l M d lim Q pc L st σ := by
  intro L st σ h
  intro p e R s m args below meth c H locs cells slots mc ms ls Z hF hR hlo hL c1 c2 c3 c4 c5 c6 hz
  exact lv_bipush hF.1 hF.2.1 hd hv (hk L (.int v :: st) σ h p e R s m args below meth c H locs cells slots mc ms ls Z hF hR hlo hL c1 c2 c3 c4 c5 c6 hz)
theorem sx_sipush {n : Int} {v : Int32} (hd : decode M.2.1 pc = .ok (.sipush n, 3)) (hv : (Int16.ofInt n).toInt32 = v) (hk : ∀ L st σ, K L st σ → am_W g l M d lim Q (pc + 3) L st σ) : ∀ L st σ, ax_const (.int v) K L st σ → am_W g l M d lim Q pc L st σ := by
  intro L st σ h
  intro p e R s m args below meth c H locs cells slots mc ms ls Z hF hR hlo hL c1 c2 c3 c4 c5 c6 hz
  exact lv_sipush hF.1 hF.2.1 hd hv (hk L (.int v :: st) σ h p e R s m args below meth c H locs cells slots mc ms ls Z hF hR hlo hL c1 c2 c3 c4 c5 c6 hz)
theorem sx_ldc2 {index : Nat} {v : Int64} (hd : decode M.2.1 pc = .ok (.ldc2_w index, 3)) (hw : Cond.constantLong M.1.cls index v ∈ am_tb) (hk : ∀ L st σ, K L st σ → am_W g l M d lim Q (pc + 3) L st σ) : ∀ L st σ, ax_const (.long v) K L st σ → am_W g l M d lim Q pc L st σ := by
  intro L st σ h
  intro p e R s m args below meth c H locs cells slots mc ms ls Z hF hR hlo hL c1 c2 c3 c4 c5 c6 hz
  exact lv_ldc2 hF.1 hF.2.1 hF.2.2.2.2.1 (hF.2.2.2.2.2.1 _ hw) hd (hk L (.long v :: st) σ h p e R s m args below meth c H locs cells slots mc ms ls Z hF hR hlo hL c1 c2 c3 c4 c5 c6 hz)
theorem sx_iload_n {k : Fin 4} {i : Nat} (hd : decode M.2.1 pc = .ok (.iload_n k, 1)) (hi : (k : Nat) = i) (hk : ∀ L st σ, K L st σ → am_W g l M d lim Q (pc + 1) L st σ) : ∀ L st σ, ax_iload i K L st σ → am_W g l M d lim Q pc L st σ := by
  intro L st σ h
  intro p e R s m args below meth c H locs cells slots mc ms ls Z hF hR hlo hL c1 c2 c3 c4 c5 c6 hz
  unfold ax_iload at h
  split at h
  · rename_i x hx
    exact lv_iload_n hF.1 hF.2.1 hd hi (hL.at hx) (hk L (.int x :: st) σ h p e R s m args below meth c H locs cells slots mc ms ls Z hF hR hlo hL c1 c2 c3 c4 c5 c6 hz)
  · exact h.elim
theorem sx_iload {i : Nat} (hd : decode M.2.1 pc = .ok (.iload i, 2)) (hk : ∀ L st σ, K L st σ → am_W g l M d lim Q (pc + 2) L st σ) : ∀ L st σ, ax_iload i K L st σ → am_W g l M d lim Q pc L st σ := by
  intro L st σ h
  intro p e R s m args below meth c H locs cells slots mc ms ls Z hF hR hlo hL c1 c2 c3 c4 c5 c6 hz
  unfold ax_iload at h
  split at h
  · rename_i x hx
    exact lv_iload hF.1 hF.2.1 hd (hL.at hx) (hk L (.int x :: st) σ h p e R s m args below meth c H locs cells slots mc ms ls Z hF hR hlo hL c1 c2 c3 c4 c5 c6 hz)
  · exact h.elim
theorem sx_lload_n {k : Fin 4} {i : Nat} (hd : decode M.2.1 pc = .ok (.lload_n k, 1)) (hi : (k : Nat) = i) (hk : ∀ L st σ, K L st σ → am_W g l M d lim Q (pc + 1) L st σ) : ∀ L st σ, ax_lload i K L st σ → am_W g l M d lim Q pc L st σ := by
  intro L st σ h
  intro p e R s m args below meth c H locs cells slots mc ms ls Z hF hR hlo hL c1 c2 c3 c4 c5 c6 hz
  unfold ax_lload at h
  split at h
  · rename_i x hx
    exact lv_lload_n hF.1 hF.2.1 hd hi (hL.at hx) (hk L (.long x :: st) σ h p e R s m args below meth c H locs cells slots mc ms ls Z hF hR hlo hL c1 c2 c3 c4 c5 c6 hz)
  · exact h.elim
theorem sx_lload {i : Nat} (hd : decode M.2.1 pc = .ok (.lload i, 2)) (hk : ∀ L st σ, K L st σ → am_W g l M d lim Q (pc + 2) L st σ) : ∀ L st σ, ax_lload i K L st σ → am_W g l M d lim Q pc L st σ := by
  intro L st σ h
  intro p e R s m args below meth c H locs cells slots mc ms ls Z hF hR hlo hL c1 c2 c3 c4 c5 c6 hz
  unfold ax_lload at h
  split at h
  · rename_i x hx
    exact lv_lload hF.1 hF.2.1 hd (hL.at hx) (hk L (.long x :: st) σ h p e R s m args below meth c H locs cells slots mc ms ls Z hF hR hlo hL c1 c2 c3 c4 c5 c6 hz)
  · exact h.elim
theorem sx_aload_n {k : Fin 4} {i : Nat} (hd : decode M.2.1 pc = .ok (.aload_n k, 1)) (hi : (k : Nat) = i) (hk : ∀ L st σ, K L st σ → am_W g l M d lim Q (pc + 1) L st σ) : ∀ L st σ, ax_aload i K L st σ → am_W g l M d lim Q pc L st σ := by
  intro L st σ h
  intro p e R s m args below meth c H locs cells slots mc ms ls Z hF hR hlo hL c1 c2 c3 c4 c5 c6 hz
  unfold ax_aload at h
  split at h
  · rename_i x hx
    exact lv_aload_n hF.1 hF.2.1 hd hi (hL.at hx) (hk L (.ref x :: st) σ h p e R s m args below meth c H locs cells slots mc ms ls Z hF hR hlo hL c1 c2 c3 c4 c5 c6 hz)
  · exact h.elim
theorem sx_aload {i : Nat} (hd : decode M.2.1 pc = .ok (.aload i, 2)) (hk : ∀ L st σ, K L st σ → am_W g l M d lim Q (pc + 2) L st σ) : ∀ L st σ, ax_aload i K L st σ → am_W g l M d lim Q pc L st σ := by
  intro L st σ h
  intro p e R s m args below meth c H locs cells slots mc ms ls Z hF hR hlo hL c1 c2 c3 c4 c5 c6 hz
  unfold ax_aload at h
  split at h
  · rename_i x hx
    exact lv_aload hF.1 hF.2.1 hd (hL.at hx) (hk L (.ref x :: st) σ h p e R s m args below meth c H locs cells slots mc ms ls Z hF hR hlo hL c1 c2 c3 c4 c5 c6 hz)
  · exact h.elim
theorem sx_istore_n {k : Fin 4} {i : Nat} (hd : decode M.2.1 pc = .ok (.istore_n k, 1)) (hi : (k : Nat) = i) (hn : i < M.2.2.1) (hk : ∀ L st σ, K L st σ → am_W g l M d lim Q (pc + 1) L st σ) : ∀ L st σ, ax_istore i K L st σ → am_W g l M d lim Q pc L st σ := by
  intro L st σ h
  intro p e R s m args below meth c H locs cells slots mc ms ls Z hF hR hlo hL c1 c2 c3 c4 c5 c6 hz
  unfold ax_istore at h
  split at h
  · rename_i x r
    exact lv_istore_n hF.1 hF.2.1 hd hi hL.has hn rfl (fun ls2 hl2 => hk (am_st L i (.int x)) r σ h p e R s m args below meth c H locs cells slots mc ms ls2 Z hF hR hlo (hL.put rfl hl2) c1 c2 c3 c4 c5 c6 hz)
  · exact h.elim
theorem sx_istore {i : Nat} (hd : decode M.2.1 pc = .ok (.istore i, 2)) (hn : i < M.2.2.1) (hk : ∀ L st σ, K L st σ → am_W g l M d lim Q (pc + 2) L st σ) : ∀ L st σ, ax_istore i K L st σ → am_W g l M d lim Q pc L st σ := by
  intro L st σ h
  intro p e R s m args below meth c H locs cells slots mc ms ls Z hF hR hlo hL c1 c2 c3 c4 c5 c6 hz
  unfold ax_istore at h
  split at h
  · rename_i x r
    exact lv_istore hF.1 hF.2.1 hd hL.has hn rfl (fun ls2 hl2 => hk (am_st L i (.int x)) r σ h p e R s m args below meth c H locs cells slots mc ms ls2 Z hF hR hlo (hL.put rfl hl2) c1 c2 c3 c4 c5 c6 hz)
  · exact h.elim
theorem sx_astore_n {k : Fin 4} {i : Nat} (hd : decode M.2.1 pc = .ok (.astore_n k, 1)) (hi : (k : Nat) = i) (hn : i < M.2.2.1) (hk : ∀ L st σ, K L st σ → am_W g l M d lim Q (pc + 1) L st σ) : ∀ L st σ, ax_astore i K L st σ → am_W g l M d lim Q pc L st σ := by
  intro L st σ h
  intro p e R s m args below meth c H locs cells slots mc ms ls Z hF hR hlo hL c1 c2 c3 c4 c5 c6 hz
  unfold ax_astore at h
  split at h
  · rename_i x r
    exact lv_astore_n hF.1 hF.2.1 hd hi hL.has hn rfl (fun ls2 hl2 => hk (am_st L i (.ref x)) r σ h p e R s m args below meth c H locs cells slots mc ms ls2 Z hF hR hlo (hL.put rfl hl2) c1 c2 c3 c4 c5 c6 hz)
  · exact h.elim
theorem sx_astore {i : Nat} (hd : decode M.2.1 pc = .ok (.astore i, 2)) (hn : i < M.2.2.1) (hk : ∀ L st σ, K L st σ → am_W g l M d lim Q (pc + 2) L st σ) : ∀ L st σ, ax_astore i K L st σ → am_W g l M d lim Q pc L st σ := by
  intro L st σ h
  intro p e R s m args below meth c H locs cells slots mc ms ls Z hF hR hlo hL c1 c2 c3 c4 c5 c6 hz
  unfold ax_astore at h
  split at h
  · rename_i x r
    exact lv_astore hF.1 hF.2.1 hd hL.has hn rfl (fun ls2 hl2 => hk (am_st L i (.ref x)) r σ h p e R s m args below meth c H locs cells slots mc ms ls2 Z hF hR hlo (hL.put rfl hl2) c1 c2 c3 c4 c5 c6 hz)
  · exact h.elim
theorem sx_iinc {i : Nat} {n : Int} {v : Int32} (hd : decode M.2.1 pc = .ok (.iinc i n, 3)) (hn : i < M.2.2.1) (hv : Int32.ofInt n = v) (hk : ∀ L st σ, K L st σ → am_W g l M d lim Q (pc + 3) L st σ) : ∀ L st σ, ax_iinc i v K L st σ → am_W g l M d lim Q pc L st σ := by
  intro L st σ h
  intro p e R s m args below meth c H locs cells slots mc ms ls Z hF hR hlo hL c1 c2 c3 c4 c5 c6 hz
  unfold ax_iinc at h
  split at h
  · rename_i x hx
    obtain ⟨j, hj⟩ := List.getElem?_of_mem (am_as_mem.mpr ⟨i, (Nat.zero_add i).symm, hx⟩ : (i, Value.int x) ∈ am_as 0 L)
    exact lv_iinc (k := j) hF.1 hF.2.1 hd hL.has hj (by rw [hv]) hn rfl (fun ls2 hl2 => hk (am_st L i (.int (x + v))) st σ h p e R s m args below meth c H locs cells slots mc ms ls2 Z hF hR hlo (hL.put rfl hl2) c1 c2 c3 c4 c5 c6 hz)
  · exact h.elim
theorem sx_iadd (hd : decode M.2.1 pc = .ok (.iadd, 1)) (hk : ∀ L st σ, K L st σ → am_W g l M d lim Q (pc + 1) L st σ) : ∀ L st σ, ax_i2 (fun x y => x + y) K L st σ → am_W g l M d lim Q pc L st σ := by
  intro L st σ h
  intro p e R s m args below meth c H locs cells slots mc ms ls Z hF hR hlo hL c1 c2 c3 c4 c5 c6 hz
  unfold ax_i2 at h
  split at h
  · rename_i y x r
    exact lv_iadd hF.1 hF.2.1 hd (hk L _ σ h p e R s m args below meth c H locs cells slots mc ms ls Z hF hR hlo hL c1 c2 c3 c4 c5 c6 hz)
  · exact h.elim
theorem sx_isub (hd : decode M.2.1 pc = .ok (.isub, 1)) (hk : ∀ L st σ, K L st σ → am_W g l M d lim Q (pc + 1) L st σ) : ∀ L st σ, ax_i2 (fun x y => x - y) K L st σ → am_W g l M d lim Q pc L st σ := by
  intro L st σ h
  intro p e R s m args below meth c H locs cells slots mc ms ls Z hF hR hlo hL c1 c2 c3 c4 c5 c6 hz
  unfold ax_i2 at h
  split at h
  · rename_i y x r
    exact lv_isub hF.1 hF.2.1 hd (hk L _ σ h p e R s m args below meth c H locs cells slots mc ms ls Z hF hR hlo hL c1 c2 c3 c4 c5 c6 hz)
  · exact h.elim
theorem sx_imul (hd : decode M.2.1 pc = .ok (.imul, 1)) (hk : ∀ L st σ, K L st σ → am_W g l M d lim Q (pc + 1) L st σ) : ∀ L st σ, ax_i2 (fun x y => x * y) K L st σ → am_W g l M d lim Q pc L st σ := by
  intro L st σ h
  intro p e R s m args below meth c H locs cells slots mc ms ls Z hF hR hlo hL c1 c2 c3 c4 c5 c6 hz
  unfold ax_i2 at h
  split at h
  · rename_i y x r
    exact lv_imul hF.1 hF.2.1 hd (hk L _ σ h p e R s m args below meth c H locs cells slots mc ms ls Z hF hR hlo hL c1 c2 c3 c4 c5 c6 hz)
  · exact h.elim
theorem sx_iand (hd : decode M.2.1 pc = .ok (.iand, 1)) (hk : ∀ L st σ, K L st σ → am_W g l M d lim Q (pc + 1) L st σ) : ∀ L st σ, ax_i2 (fun x y => x &&& y) K L st σ → am_W g l M d lim Q pc L st σ := by
  intro L st σ h
  intro p e R s m args below meth c H locs cells slots mc ms ls Z hF hR hlo hL c1 c2 c3 c4 c5 c6 hz
  unfold ax_i2 at h
  split at h
  · rename_i y x r
    exact lv_iand hF.1 hF.2.1 hd (hk L _ σ h p e R s m args below meth c H locs cells slots mc ms ls Z hF hR hlo hL c1 c2 c3 c4 c5 c6 hz)
  · exact h.elim
theorem sx_ior (hd : decode M.2.1 pc = .ok (.ior, 1)) (hk : ∀ L st σ, K L st σ → am_W g l M d lim Q (pc + 1) L st σ) : ∀ L st σ, ax_i2 (fun x y => x ||| y) K L st σ → am_W g l M d lim Q pc L st σ := by
  intro L st σ h
  intro p e R s m args below meth c H locs cells slots mc ms ls Z hF hR hlo hL c1 c2 c3 c4 c5 c6 hz
  unfold ax_i2 at h
  split at h
  · rename_i y x r
    exact lv_ior hF.1 hF.2.1 hd (hk L _ σ h p e R s m args below meth c H locs cells slots mc ms ls Z hF hR hlo hL c1 c2 c3 c4 c5 c6 hz)
  · exact h.elim
theorem sx_ixor (hd : decode M.2.1 pc = .ok (.ixor, 1)) (hk : ∀ L st σ, K L st σ → am_W g l M d lim Q (pc + 1) L st σ) : ∀ L st σ, ax_i2 (fun x y => x ^^^ y) K L st σ → am_W g l M d lim Q pc L st σ := by
  intro L st σ h
  intro p e R s m args below meth c H locs cells slots mc ms ls Z hF hR hlo hL c1 c2 c3 c4 c5 c6 hz
  unfold ax_i2 at h
  split at h
  · rename_i y x r
    exact lv_ixor hF.1 hF.2.1 hd (hk L _ σ h p e R s m args below meth c H locs cells slots mc ms ls Z hF hR hlo hL c1 c2 c3 c4 c5 c6 hz)
  · exact h.elim
theorem sx_ishr (hd : decode M.2.1 pc = .ok (.ishr, 1)) (hk : ∀ L st σ, K L st σ → am_W g l M d lim Q (pc + 1) L st σ) : ∀ L st σ, ax_i2 (fun x y => x >>> (y &&& 31)) K L st σ → am_W g l M d lim Q pc L st σ := by
  intro L st σ h
  intro p e R s m args below meth c H locs cells slots mc ms ls Z hF hR hlo hL c1 c2 c3 c4 c5 c6 hz
  unfold ax_i2 at h
  split at h
  · rename_i y x r
    exact lv_ishr hF.1 hF.2.1 hd (hk L _ σ h p e R s m args below meth c H locs cells slots mc ms ls Z hF hR hlo hL c1 c2 c3 c4 c5 c6 hz)
  · exact h.elim
theorem sx_idiv (hd : decode M.2.1 pc = .ok (.idiv, 1)) (hk : ∀ L st σ, K L st σ → am_W g l M d lim Q (pc + 1) L st σ) : ∀ L st σ, ax_i2n (fun x y => x / y) K L st σ → am_W g l M d lim Q pc L st σ := by
  intro L st σ h
  intro p e R s m args below meth c H locs cells slots mc ms ls Z hF hR hlo hL c1 c2 c3 c4 c5 c6 hz
  unfold ax_i2n at h
  split at h
  · rename_i y x r
    exact lv_idiv hF.1 hF.2.1 hd h.1 (hk L _ σ h.2 p e R s m args below meth c H locs cells slots mc ms ls Z hF hR hlo hL c1 c2 c3 c4 c5 c6 hz)
  · exact h.elim
theorem sx_irem (hd : decode M.2.1 pc = .ok (.irem, 1)) (hk : ∀ L st σ, K L st σ → am_W g l M d lim Q (pc + 1) L st σ) : ∀ L st σ, ax_i2n (fun x y => x - x / y * y) K L st σ → am_W g l M d lim Q pc L st σ := by
  intro L st σ h
  intro p e R s m args below meth c H locs cells slots mc ms ls Z hF hR hlo hL c1 c2 c3 c4 c5 c6 hz
  unfold ax_i2n at h
  split at h
  · rename_i y x r
    exact lv_irem hF.1 hF.2.1 hd h.1 (hk L _ σ h.2 p e R s m args below meth c H locs cells slots mc ms ls Z hF hR hlo hL c1 c2 c3 c4 c5 c6 hz)
  · exact h.elim
theorem sx_land (hd : decode M.2.1 pc = .ok (.land, 1)) (hk : ∀ L st σ, K L st σ → am_W g l M d lim Q (pc + 1) L st σ) : ∀ L st σ, ax_l2 (fun x y => x &&& y) K L st σ → am_W g l M d lim Q pc L st σ := by
  intro L st σ h
  intro p e R s m args below meth c H locs cells slots mc ms ls Z hF hR hlo hL c1 c2 c3 c4 c5 c6 hz
  unfold ax_l2 at h
  split at h
  · rename_i y x r
    exact lv_land hF.1 hF.2.1 hd (hk L _ σ h p e R s m args below meth c H locs cells slots mc ms ls Z hF hR hlo hL c1 c2 c3 c4 c5 c6 hz)
  · exact h.elim
theorem sx_lor (hd : decode M.2.1 pc = .ok (.lor, 1)) (hk : ∀ L st σ, K L st σ → am_W g l M d lim Q (pc + 1) L st σ) : ∀ L st σ, ax_l2 (fun x y => x ||| y) K L st σ → am_W g l M d lim Q pc L st σ := by
  intro L st σ h
  intro p e R s m args below meth c H locs cells slots mc ms ls Z hF hR hlo hL c1 c2 c3 c4 c5 c6 hz
  unfold ax_l2 at h
  split at h
  · rename_i y x r
    exact lv_lor hF.1 hF.2.1 hd (hk L _ σ h p e R s m args below meth c H locs cells slots mc ms ls Z hF hR hlo hL c1 c2 c3 c4 c5 c6 hz)
  · exact h.elim
theorem sx_lshl (hd : decode M.2.1 pc = .ok (.lshl, 1)) (hk : ∀ L st σ, K L st σ → am_W g l M d lim Q (pc + 1) L st σ) : ∀ L st σ, ax_lsh (fun x y => x <<< (y.toInt64 &&& 63)) K L st σ → am_W g l M d lim Q pc L st σ := by
  intro L st σ h
  intro p e R s m args below meth c H locs cells slots mc ms ls Z hF hR hlo hL c1 c2 c3 c4 c5 c6 hz
  unfold ax_lsh at h
  split at h
  · rename_i y x r
    exact lv_lshl hF.1 hF.2.1 hd rfl (hk L _ σ h p e R s m args below meth c H locs cells slots mc ms ls Z hF hR hlo hL c1 c2 c3 c4 c5 c6 hz)
  · exact h.elim
theorem sx_lshr (hd : decode M.2.1 pc = .ok (.lshr, 1)) (hk : ∀ L st σ, K L st σ → am_W g l M d lim Q (pc + 1) L st σ) : ∀ L st σ, ax_lsh (fun x y => x >>> (y.toInt64 &&& 63)) K L st σ → am_W g l M d lim Q pc L st σ := by
  intro L st σ h
  intro p e R s m args below meth c H locs cells slots mc ms ls Z hF hR hlo hL c1 c2 c3 c4 c5 c6 hz
  unfold ax_lsh at h
  split at h
  · rename_i y x r
    exact lv_lshr hF.1 hF.2.1 hd rfl (hk L _ σ h p e R s m args below meth c H locs cells slots mc ms ls Z hF hR hlo hL c1 c2 c3 c4 c5 c6 hz)
  · exact h.elim
theorem sx_lushr (hd : decode M.2.1 pc = .ok (.lushr, 1)) (hk : ∀ L st σ, K L st σ → am_W g l M d lim Q (pc + 1) L st σ) : ∀ L st σ, ax_lsh (fun x y => (x.toUInt64 >>> (y.toInt64.toUInt64 &&& Int64.toUInt64 63)).toInt64) K L st σ → am_W g l M d lim Q pc L st σ := by
  intro L st σ h
  intro p e R s m args below meth c H locs cells slots mc ms ls Z hF hR hlo hL c1 c2 c3 c4 c5 c6 hz
  unfold ax_lsh at h
  split at h
  · rename_i y x r
    exact lv_lushr hF.1 hF.2.1 hd rfl (hk L _ σ h p e R s m args below meth c H locs cells slots mc ms ls Z hF hR hlo hL c1 c2 c3 c4 c5 c6 hz)
  · exact h.elim
theorem sx_i2l (hd : decode M.2.1 pc = .ok (.i2l, 1)) (hk : ∀ L st σ, K L st σ → am_W g l M d lim Q (pc + 1) L st σ) : ∀ L st σ, ax_il (fun x => x.toInt64) K L st σ → am_W g l M d lim Q pc L st σ := by
  intro L st σ h
  intro p e R s m args below meth c H locs cells slots mc ms ls Z hF hR hlo hL c1 c2 c3 c4 c5 c6 hz
  unfold ax_il at h
  split at h
  · rename_i x r
    exact lv_i2l hF.1 hF.2.1 hd rfl (hk L _ σ h p e R s m args below meth c H locs cells slots mc ms ls Z hF hR hlo hL c1 c2 c3 c4 c5 c6 hz)
  · exact h.elim
theorem sx_l2i (hd : decode M.2.1 pc = .ok (.l2i, 1)) (hk : ∀ L st σ, K L st σ → am_W g l M d lim Q (pc + 1) L st σ) : ∀ L st σ, ax_li (fun x => x.toInt32) K L st σ → am_W g l M d lim Q pc L st σ := by
  intro L st σ h
  intro p e R s m args below meth c H locs cells slots mc ms ls Z hF hR hlo hL c1 c2 c3 c4 c5 c6 hz
  unfold ax_li at h
  split at h
  · rename_i x r
    exact lv_l2i hF.1 hF.2.1 hd rfl (hk L _ σ h p e R s m args below meth c H locs cells slots mc ms ls Z hF hR hlo hL c1 c2 c3 c4 c5 c6 hz)
  · exact h.elim
theorem sx_i2c (hd : decode M.2.1 pc = .ok (.i2c, 1)) (hk : ∀ L st σ, K L st σ → am_W g l M d lim Q (pc + 1) L st σ) : ∀ L st σ, ax_ii (fun x => (x.toUInt32 % 65536).toInt32) K L st σ → am_W g l M d lim Q pc L st σ := by
  intro L st σ h
  intro p e R s m args below meth c H locs cells slots mc ms ls Z hF hR hlo hL c1 c2 c3 c4 c5 c6 hz
  unfold ax_ii at h
  split at h
  · rename_i x r
    exact lv_i2c hF.1 hF.2.1 hd rfl (hk L _ σ h p e R s m args below meth c H locs cells slots mc ms ls Z hF hR hlo hL c1 c2 c3 c4 c5 c6 hz)
  · exact h.elim
theorem sx_pop (hd : decode M.2.1 pc = .ok (.pop, 1)) (hk : ∀ L st σ, K L st σ → am_W g l M d lim Q (pc + 1) L st σ) : ∀ L st σ, ax_pop K L st σ → am_W g l M d lim Q pc L st σ := by
  intro L st σ h
  intro p e R s m args below meth c H locs cells slots mc ms ls Z hF hR hlo hL c1 c2 c3 c4 c5 c6 hz
  unfold ax_pop at h
  split at h
  · exact lv_pop hF.1 hF.2.1 hd h.1 (hk L _ σ h.2 p e R s m args below meth c H locs cells slots mc ms ls Z hF hR hlo hL c1 c2 c3 c4 c5 c6 hz)
  · exact h.elim
theorem sx_dup (hd : decode M.2.1 pc = .ok (.dup, 1)) (hk : ∀ L st σ, K L st σ → am_W g l M d lim Q (pc + 1) L st σ) : ∀ L st σ, ax_dup K L st σ → am_W g l M d lim Q pc L st σ := by
  intro L st σ h
  intro p e R s m args below meth c H locs cells slots mc ms ls Z hF hR hlo hL c1 c2 c3 c4 c5 c6 hz
  unfold ax_dup at h
  split at h
  · exact lv_dup hF.1 hF.2.1 hd h.1 (hk L _ σ h.2 p e R s m args below meth c H locs cells slots mc ms ls Z hF hR hlo hL c1 c2 c3 c4 c5 c6 hz)
  · exact h.elim
theorem sx_dup2 (hd : decode M.2.1 pc = .ok (.dup2, 1)) (hk : ∀ L st σ, K L st σ → am_W g l M d lim Q (pc + 1) L st σ) : ∀ L st σ, ax_dup2 K L st σ → am_W g l M d lim Q pc L st σ := by
  intro L st σ h
  intro p e R s m args below meth c H locs cells slots mc ms ls Z hF hR hlo hL c1 c2 c3 c4 c5 c6 hz
  unfold ax_dup2 at h
  split at h
  · exact lv_dup2_11 hF.1 hF.2.1 hd h.1 h.2.1 (hk L _ σ h.2.2 p e R s m args below meth c H locs cells slots mc ms ls Z hF hR hlo hL c1 c2 c3 c4 c5 c6 hz)
  · exact h.elim
theorem sx_if_eq {off : Int} {tgt : Nat} (hd : decode M.2.1 pc = .ok (.ifCond .eq off, 3)) (ht : (pc : Int) + off = (tgt : Int)) (hT : ∀ L st σ, T L st σ → am_W g l M d lim Q tgt L st σ) (hk : ∀ L st σ, K L st σ → am_W g l M d lim Q (pc + 3) L st σ) : ∀ L st σ, ax_if (fun x => x = 0) T K L st σ → am_W g l M d lim Q pc L st σ := by
  intro L st σ h
  intro p e R s m args below meth c H locs cells slots mc ms ls Z hF hR hlo hL c1 c2 c3 c4 c5 c6 hz
  unfold ax_if at h
  split at h
  · exact (lv_if_eq hF.1 hF.2.1 hd ht (fun q => hT L _ σ (h.1 (q)) p e R s m args below meth c H locs cells slots mc ms ls Z hF hR hlo hL c1 c2 c3 c4 c5 c6 hz) (fun q => hk L _ σ (h.2 (q)) p e R s m args below meth c H locs cells slots mc ms ls Z hF hR hlo hL c1 c2 c3 c4 c5 c6 hz))
  · exact h.elim
theorem sx_if_ne {off : Int} {tgt : Nat} (hd : decode M.2.1 pc = .ok (.ifCond .ne off, 3)) (ht : (pc : Int) + off = (tgt : Int)) (hT : ∀ L st σ, T L st σ → am_W g l M d lim Q tgt L st σ) (hk : ∀ L st σ, K L st σ → am_W g l M d lim Q (pc + 3) L st σ) : ∀ L st σ, ax_if (fun x => x = 0) K T L st σ → am_W g l M d lim Q pc L st σ := by
  intro L st σ h
  intro p e R s m args below meth c H locs cells slots mc ms ls Z hF hR hlo hL c1 c2 c3 c4 c5 c6 hz
  unfold ax_if at h
  split at h
  · exact (lv_if_ne hF.1 hF.2.1 hd ht (fun q => hT L _ σ (h.2 (q)) p e R s m args below meth c H locs cells slots mc ms ls Z hF hR hlo hL c1 c2 c3 c4 c5 c6 hz) (fun q => hk L _ σ (h.1 (q)) p e R s m args below meth c H locs cells slots mc ms ls Z hF hR hlo hL c1 c2 c3 c4 c5 c6 hz))
  · exact h.elim
theorem sx_if_lt {off : Int} {tgt : Nat} (hd : decode M.2.1 pc = .ok (.ifCond .lt off, 3)) (ht : (pc : Int) + off = (tgt : Int)) (hT : ∀ L st σ, T L st σ → am_W g l M d lim Q tgt L st σ) (hk : ∀ L st σ, K L st σ → am_W g l M d lim Q (pc + 3) L st σ) : ∀ L st σ, ax_if (fun x => x.toInt < 0) T K L st σ → am_W g l M d lim Q pc L st σ := by
  intro L st σ h
  intro p e R s m args below meth c H locs cells slots mc ms ls Z hF hR hlo hL c1 c2 c3 c4 c5 c6 hz
  unfold ax_if at h
  split at h
  · exact (lv_if_lt hF.1 hF.2.1 hd ht (fun q => hT L _ σ (h.1 (by have := Int32.lt_iff_toInt_lt.mp q; rwa [Int32.toInt_zero] at this)) p e R s m args below meth c H locs cells slots mc ms ls Z hF hR hlo hL c1 c2 c3 c4 c5 c6 hz) (fun q => hk L _ σ (h.2 (by intro z; exact q (Int32.lt_iff_toInt_lt.mpr (by rw [Int32.toInt_zero]; exact z)))) p e R s m args below meth c H locs cells slots mc ms ls Z hF hR hlo hL c1 c2 c3 c4 c5 c6 hz))
  · exact h.elim
theorem sx_if_ge {off : Int} {tgt : Nat} (hd : decode M.2.1 pc = .ok (.ifCond .ge off, 3)) (ht : (pc : Int) + off = (tgt : Int)) (hT : ∀ L st σ, T L st σ → am_W g l M d lim Q tgt L st σ) (hk : ∀ L st σ, K L st σ → am_W g l M d lim Q (pc + 3) L st σ) : ∀ L st σ, ax_if (fun x => x.toInt < 0) K T L st σ → am_W g l M d lim Q pc L st σ := by
  intro L st σ h
  intro p e R s m args below meth c H locs cells slots mc ms ls Z hF hR hlo hL c1 c2 c3 c4 c5 c6 hz
  unfold ax_if at h
  split at h
  · exact (lv_if_ge hF.1 hF.2.1 hd ht (fun q => hT L _ σ (h.2 (by have := Int32.le_iff_toInt_le.mp q; rw [Int32.toInt_zero] at this; omega)) p e R s m args below meth c H locs cells slots mc ms ls Z hF hR hlo hL c1 c2 c3 c4 c5 c6 hz) (fun q => hk L _ σ (h.1 (by have := mt Int32.le_iff_toInt_le.mpr q; rw [Int32.toInt_zero] at this; omega)) p e R s m args below meth c H locs cells slots mc ms ls Z hF hR hlo hL c1 c2 c3 c4 c5 c6 hz))
  · exact h.elim
theorem sx_if_gt {off : Int} {tgt : Nat} (hd : decode M.2.1 pc = .ok (.ifCond .gt off, 3)) (ht : (pc : Int) + off = (tgt : Int)) (hT : ∀ L st σ, T L st σ → am_W g l M d lim Q tgt L st σ) (hk : ∀ L st σ, K L st σ → am_W g l M d lim Q (pc + 3) L st σ) : ∀ L st σ, ax_if (fun x => 0 < x.toInt) T K L st σ → am_W g l M d lim Q pc L st σ := by
  intro L st σ h
  intro p e R s m args below meth c H locs cells slots mc ms ls Z hF hR hlo hL c1 c2 c3 c4 c5 c6 hz
  unfold ax_if at h
  split at h
  · exact (lv_if_gt hF.1 hF.2.1 hd ht (fun q => hT L _ σ (h.1 (by have := Int32.lt_iff_toInt_lt.mp q; rwa [Int32.toInt_zero] at this)) p e R s m args below meth c H locs cells slots mc ms ls Z hF hR hlo hL c1 c2 c3 c4 c5 c6 hz) (fun q => hk L _ σ (h.2 (by intro z; exact q (Int32.lt_iff_toInt_lt.mpr (by rw [Int32.toInt_zero]; exact z)))) p e R s m args below meth c H locs cells slots mc ms ls Z hF hR hlo hL c1 c2 c3 c4 c5 c6 hz))
  · exact h.elim
theorem sx_if_le {off : Int} {tgt : Nat} (hd : decode M.2.1 pc = .ok (.ifCond .le off, 3)) (ht : (pc : Int) + off = (tgt : Int)) (hT : ∀ L st σ, T L st σ → am_W g l M d lim Q tgt L st σ) (hk : ∀ L st σ, K L st σ → am_W g l M d lim Q (pc + 3) L st σ) : ∀ L st σ, ax_if (fun x => 0 < x.toInt) K T L st σ → am_W g l M d lim Q pc L st σ := by
  intro L st σ h
  intro p e R s m args below meth c H locs cells slots mc ms ls Z hF hR hlo hL c1 c2 c3 c4 c5 c6 hz
  unfold ax_if at h
  split at h
  · exact (lv_if_le hF.1 hF.2.1 hd ht (fun q => hT L _ σ (h.2 (by have := Int32.le_iff_toInt_le.mp q; rw [Int32.toInt_zero] at this; omega)) p e R s m args below meth c H locs cells slots mc ms ls Z hF hR hlo hL c1 c2 c3 c4 c5 c6 hz) (fun q => hk L _ σ (h.1 (by have := mt Int32.le_iff_toInt_le.mpr q; rw [Int32.toInt_zero] at this; omega)) p e R s m args below meth c H locs cells slots mc ms ls Z hF hR hlo hL c1 c2 c3 c4 c5 c6 hz))
  · exact h.elim
theorem sx_icmp_eq {off : Int} {tgt : Nat} (hd : decode M.2.1 pc = .ok (.if_icmp .eq off, 3)) (ht : (pc : Int) + off = (tgt : Int)) (hT : ∀ L st σ, T L st σ → am_W g l M d lim Q tgt L st σ) (hk : ∀ L st σ, K L st σ → am_W g l M d lim Q (pc + 3) L st σ) : ∀ L st σ, ax_cmp (fun x y => x = y) T K L st σ → am_W g l M d lim Q pc L st σ := by
  intro L st σ h
  intro p e R s m args below meth c H locs cells slots mc ms ls Z hF hR hlo hL c1 c2 c3 c4 c5 c6 hz
  unfold ax_cmp at h
  split at h
  · exact (lv_icmp_eq hF.1 hF.2.1 hd ht (fun q => hT L _ σ (h.1 (q)) p e R s m args below meth c H locs cells slots mc ms ls Z hF hR hlo hL c1 c2 c3 c4 c5 c6 hz) (fun q => hk L _ σ (h.2 (q)) p e R s m args below meth c H locs cells slots mc ms ls Z hF hR hlo hL c1 c2 c3 c4 c5 c6 hz))
  · exact h.elim
theorem sx_icmp_ne {off : Int} {tgt : Nat} (hd : decode M.2.1 pc = .ok (.if_icmp .ne off, 3)) (ht : (pc : Int) + off = (tgt : Int)) (hT : ∀ L st σ, T L st σ → am_W g l M d lim Q tgt L st σ) (hk : ∀ L st σ, K L st σ → am_W g l M d lim Q (pc + 3) L st σ) : ∀ L st σ, ax_cmp (fun x y => x = y) K T L st σ → am_W g l M d lim Q pc L st σ := by
  intro L st σ h
  intro p e R s m args below meth c H locs cells slots mc ms ls Z hF hR hlo hL c1 c2 c3 c4 c5 c6 hz
  unfold ax_cmp at h
  split at h
  · exact (lv_icmp_ne hF.1 hF.2.1 hd ht (fun q => hT L _ σ (h.2 (q)) p e R s m args below meth c H locs cells slots mc ms ls Z hF hR hlo hL c1 c2 c3 c4 c5 c6 hz) (fun q => hk L _ σ (h.1 (q)) p e R s m args below meth c H locs cells slots mc ms ls Z hF hR hlo hL c1 c2 c3 c4 c5 c6 hz))
  · exact h.elim
theorem sx_icmp_lt {off : Int} {tgt : Nat} (hd : decode M.2.1 pc = .ok (.if_icmp .lt off, 3)) (ht : (pc : Int) + off = (tgt : Int)) (hT : ∀ L st σ, T L st σ → am_W g l M d lim Q tgt L st σ) (hk : ∀ L st σ, K L st σ → am_W g l M d lim Q (pc + 3) L st σ) : ∀ L st σ, ax_cmp (fun x y => x.toInt < y.toInt) T K L st σ → am_W g l M d lim Q pc L st σ := by
  intro L st σ h
  intro p e R s m args below meth c H locs cells slots mc ms ls Z hF hR hlo hL c1 c2 c3 c4 c5 c6 hz
  unfold ax_cmp at h
  split at h
  · exact (lv_icmp_lt hF.1 hF.2.1 hd ht (fun q => hT L _ σ (h.1 (Int32.lt_iff_toInt_lt.mp q)) p e R s m args below meth c H locs cells slots mc ms ls Z hF hR hlo hL c1 c2 c3 c4 c5 c6 hz) (fun q => hk L _ σ (h.2 (mt Int32.lt_iff_toInt_lt.mpr q)) p e R s m args below meth c H locs cells slots mc ms ls Z hF hR hlo hL c1 c2 c3 c4 c5 c6 hz))
  · exact h.elim
theorem sx_icmp_ge {off : Int} {tgt : Nat} (hd : decode M.2.1 pc = .ok (.if_icmp .ge off, 3)) (ht : (pc : Int) + off = (tgt : Int)) (hT : ∀ L st σ, T L st σ → am_W g l M d lim Q tgt L st σ) (hk : ∀ L st σ, K L st σ → am_W g l M d lim Q (pc + 3) L st σ) : ∀ L st σ, ax_cmp (fun x y => x.toInt < y.toInt) K T L st σ → am_W g l M d lim Q pc L st σ := by
  intro L st σ h
  intro p e R s m args below meth c H locs cells slots mc ms ls Z hF hR hlo hL c1 c2 c3 c4 c5 c6 hz
  unfold ax_cmp at h
  split at h
  · exact (lv_icmp_ge hF.1 hF.2.1 hd ht (fun q => hT L _ σ (h.2 (by have := Int32.le_iff_toInt_le.mp q; omega)) p e R s m args below meth c H locs cells slots mc ms ls Z hF hR hlo hL c1 c2 c3 c4 c5 c6 hz) (fun q => hk L _ σ (h.1 (by have := mt Int32.le_iff_toInt_le.mpr q; omega)) p e R s m args below meth c H locs cells slots mc ms ls Z hF hR hlo hL c1 c2 c3 c4 c5 c6 hz))
  · exact h.elim
theorem sx_icmp_gt {off : Int} {tgt : Nat} (hd : decode M.2.1 pc = .ok (.if_icmp .gt off, 3)) (ht : (pc : Int) + off = (tgt : Int)) (hT : ∀ L st σ, T L st σ → am_W g l M d lim Q tgt L st σ) (hk : ∀ L st σ, K L st σ → am_W g l M d lim Q (pc + 3) L st σ) : ∀ L st σ, ax_cmp (fun x y => y.toInt < x.toInt) T K L st σ → am_W g l M d lim Q pc L st σ := by
  intro L st σ h
  intro p e R s m args below meth c H locs cells slots mc ms ls Z hF hR hlo hL c1 c2 c3 c4 c5 c6 hz
  unfold ax_cmp at h
  split at h
  · exact (lv_icmp_gt hF.1 hF.2.1 hd ht (fun q => hT L _ σ (h.1 (Int32.lt_iff_toInt_lt.mp q)) p e R s m args below meth c H locs cells slots mc ms ls Z hF hR hlo hL c1 c2 c3 c4 c5 c6 hz) (fun q => hk L _ σ (h.2 (mt Int32.lt_iff_toInt_lt.mpr q)) p e R s m args below meth c H locs cells slots mc ms ls Z hF hR hlo hL c1 c2 c3 c4 c5 c6 hz))
  · exact h.elim
theorem sx_icmp_le {off : Int} {tgt : Nat} (hd : decode M.2.1 pc = .ok (.if_icmp .le off, 3)) (ht : (pc : Int) + off = (tgt : Int)) (hT : ∀ L st σ, T L st σ → am_W g l M d lim Q tgt L st σ) (hk : ∀ L st σ, K L st σ → am_W g l M d lim Q (pc + 3) L st σ) : ∀ L st σ, ax_cmp (fun x y => y.toInt < x.toInt) K T L st σ → am_W g l M d lim Q pc L st σ := by
  intro L st σ h
  intro p e R s m args below meth c H locs cells slots mc ms ls Z hF hR hlo hL c1 c2 c3 c4 c5 c6 hz
  unfold ax_cmp at h
  split at h
  · exact (lv_icmp_le hF.1 hF.2.1 hd ht (fun q => hT L _ σ (h.2 (by have := Int32.le_iff_toInt_le.mp q; omega)) p e R s m args below meth c H locs cells slots mc ms ls Z hF hR hlo hL c1 c2 c3 c4 c5 c6 hz) (fun q => hk L _ σ (h.1 (by have := mt Int32.le_iff_toInt_le.mpr q; omega)) p e R s m args below meth c H locs cells slots mc ms ls Z hF hR hlo hL c1 c2 c3 c4 c5 c6 hz))
  · exact h.elim
theorem sx_acmp_eq {off : Int} {tgt : Nat} (hd : decode M.2.1 pc = .ok (.if_acmp .eq off, 3)) (ht : (pc : Int) + off = (tgt : Int)) (hT : ∀ L st σ, T L st σ → am_W g l M d lim Q tgt L st σ) (hk : ∀ L st σ, K L st σ → am_W g l M d lim Q (pc + 3) L st σ) : ∀ L st σ, ax_acmp true T K L st σ → am_W g l M d lim Q pc L st σ := by
  intro L st σ h
  intro p e R s m args below meth c H locs cells slots mc ms ls Z hF hR hlo hL c1 c2 c3 c4 c5 c6 hz
  unfold ax_acmp at h
  split at h
  · rename_i y x r
    simp only [if_true, Bool.false_eq_true, if_false] at h
    exact lv_acmp_eq (rx := some x) (ry := some y) hF.1 hF.2.1 hd ht (fun q => hT L _ σ (h.1 (Option.some.inj q)) p e R s m args below meth c H locs cells slots mc ms ls Z hF hR hlo hL c1 c2 c3 c4 c5 c6 hz) (fun q => hk L _ σ (h.2 (fun z => q (congrArg some z))) p e R s m args below meth c H locs cells slots mc ms ls Z hF hR hlo hL c1 c2 c3 c4 c5 c6 hz)
  · exact h.elim
theorem sx_acmp_ne {off : Int} {tgt : Nat} (hd : decode M.2.1 pc = .ok (.if_acmp .ne off, 3)) (ht : (pc : Int) + off = (tgt : Int)) (hT : ∀ L st σ, T L st σ → am_W g l M d lim Q tgt L st σ) (hk : ∀ L st σ, K L st σ → am_W g l M d lim Q (pc + 3) L st σ) : ∀ L st σ, ax_acmp false T K L st σ → am_W g l M d lim Q pc L st σ := by
  intro L st σ h
  intro p e R s m args below meth c H locs cells slots mc ms ls Z hF hR hlo hL c1 c2 c3 c4 c5 c6 hz
  unfold ax_acmp at h
  split at h
  · rename_i y x r
    simp only [if_true, Bool.false_eq_true, if_false] at h
    exact lv_acmp_ne (rx := some x) (ry := some y) hF.1 hF.2.1 hd ht (fun q => hT L _ σ (h.2 (fun z => q (congrArg some z))) p e R s m args below meth c H locs cells slots mc ms ls Z hF hR hlo hL c1 c2 c3 c4 c5 c6 hz) (fun q => hk L _ σ (h.1 (Option.some.inj q)) p e R s m args below meth c H locs cells slots mc ms ls Z hF hR hlo hL c1 c2 c3 c4 c5 c6 hz)
  · exact h.elim
theorem sx_goto {off : Int} {tgt : Nat} (hd : decode M.2.1 pc = .ok (.goto off, 3)) (ht : (pc : Int) + off = (tgt : Int)) (hT : ∀ L st σ, T L st σ → am_W g l M d lim Q tgt L st σ) : ∀ L st σ, ax_goto T L st σ → am_W g l M d lim Q pc L st σ := by
  intro L st σ h
  intro p e R s m args below meth c H locs cells slots mc ms ls Z hF hR hlo hL c1 c2 c3 c4 c5 c6 hz
  exact lv_goto hF.1 hF.2.1 hd ht (hT L st σ h p e R s m args below meth c H locs cells slots mc ms ls Z hF hR hlo hL c1 c2 c3 c4 c5 c6 hz)
/-- the field that a link names -/
def am_FL (own : String) (idx ci k : Nat) : Prop := ∃ r, am_cl[ci]? = some r ∧ k < r.2.2 ∧ Cond.fieldLink own idx (r.2.1 k).1 (r.2.1 k).2.1 (r.2.1 k).2.2.1 ∈ am_tb
theorem am_read {g : am_G} {σ : am_S} {H : Heap} {s : State} {a ci k : Nat} {r : vw_C} (hR : am_R g σ H) (hE : am_E g s) (ha : am_sh σ a = some (.inl ci)) (hr : am_cl[ci]? = some r) (hk : k < r.2.2) :
    ∃ cf kf fi fd cell, s.fieldFound? (r.2.1 k).1 (r.2.1 k).2.1 (r.2.1 k).2.2.1 = some (cf, kf, fi, fd) ∧ fd.isStatic = false ∧ H[a]? = some cell ∧ cell.vm ≠ .unknown ∧ cell.slots[fd.slot]? = some (am_gv (am_i σ) (am_r σ) (am_fr ci k) a k) := by
  obtain ⟨h1, h2, h3, h4, h5⟩ := hR
  cases hc : am_isc (.inl ci) with
  | false =>
    obtain ⟨-, r', e1, cell, e2, e3, e4, e5⟩ := h4 a _ ha hc
    cases hr.symm.trans e1
    obtain ⟨cf, kf, fi, fd, f1, f2, f3⟩ := (hE.1 ci r hr).1 k hk
    exact ⟨cf, kf, fi, fd, cell, f1, f3, e2, by rw [e4]; exact (fun h => by cases h), by rw [f2]; exact e5 k hk⟩
  | true =>
    obtain ⟨e1, e2, e3⟩ := h5 a _ ha hc
    obtain ⟨r', f1, f2, f3⟩ := hE.2.2.2.1 a ci e1
    cases hr.symm.trans f1
    obtain ⟨cf, kf, fi, fd, cell, g1, g2, g3, g4, g5, g6⟩ := f3 k hk
    refine ⟨cf, kf, fi, fd, cell, g1, g2, ?_, g4, ?_⟩
    · rw [h3 a (Nat.not_le.mp g6)]
      exact g3
    · rw [g5]
      unfold am_gv
      rw [e2, e3]
theorem sx_getI {idx ci k : Nat} (hd : decode M.2.1 pc = .ok (.getfield idx, 3)) (hl : am_FL M.1.cls idx ci k) (hb : am_fr ci k = false) (hk : ∀ L st σ, K L st σ → am_W g l M d lim Q (pc + 3) L st σ) : ∀ L st σ, ax_getI ci k K L st σ → am_W g l M d lim Q pc L st σ := by
  intro L st σ h
  intro p e R s m args below meth c H locs cells slots mc ms ls Z hF hR hlo hL c1 c2 c3 c4 c5 c6 hz
  obtain ⟨r, hr, hkn, hw⟩ := hl
  unfold ax_getI at h
  split at h
  · rename_i a rest
    obtain ⟨h1, h2⟩ := h
    obtain ⟨cf, kf, fi, fd, cell, f1, f2, f3, f4, f5⟩ := am_read hR hF.2.2.2.2.2.2.1 h1 hr hkn
    rw [hb, am_gvF] at f5
    exact W.getf hF.1 hF.2.1 hF.2.2.2.2.1 (hF.2.2.2.2.2.1 _ hw) f1 f2 f3 f4 f5 rfl rfl hd (hk L _ σ h2 p e R s m args below meth c H locs cells slots mc ms ls Z hF hR hlo hL c1 c2 c3 c4 c5 c6 hz)
  · exact h.elim
theorem sx_getR {idx ci k : Nat} (hd : decode M.2.1 pc = .ok (.getfield idx, 3)) (hl : am_FL M.1.cls idx ci k) (hb : am_fr ci k = true) (hk : ∀ L st σ, K L st σ → am_W g l M d lim Q (pc + 3) L st σ) : ∀ L st σ, ax_getR ci k K L st σ → am_W g l M d lim Q pc L st σ := by
  intro L st σ h
  intro p e R s m args below meth c H locs cells slots mc ms ls Z hF hR hlo hL c1 c2 c3 c4 c5 c6 hz
  obtain ⟨r, hr, hkn, hw⟩ := hl
  unfold ax_getR at h
  split at h
  · rename_i a rest
    obtain ⟨h1, b, h3, h2⟩ := h
    obtain ⟨cf, kf, fi, fd, cell, f1, f2, f3, f4, f5⟩ := am_read hR hF.2.2.2.2.2.2.1 h1 hr hkn
    rw [hb, am_gvT, h3] at f5
    exact W.getf hF.1 hF.2.1 hF.2.2.2.2.1 (hF.2.2.2.2.2.1 _ hw) f1 f2 f3 f4 f5 rfl rfl hd (hk L _ σ h2 p e R s m args below meth c H locs cells slots mc ms ls Z hF hR hlo hL c1 c2 c3 c4 c5 c6 hz)
  · exact h.elim
/-- what a class's table says -/
def am_CD (ci : Nat) : Prop := am_isc (.inl ci) = false ∧ ∃ (r : vw_C) (ty : Nat → FieldType), am_cl[ci]? = some r ∧ (∀ k, k < r.2.2 → parseFieldDescriptor (r.2.1 k).2.2.1 = some (ty k)) ∧ (∀ a, a < r.2.2 → ∀ b, b < r.2.2 → a ≠ b → (r.2.1 a).2.1 ≠ (r.2.1 b).2.1) ∧ (∀ w ∈ u_ws r.1 r.2.1 r.2.2, w ∈ am_tb) ∧ (∀ k, k < r.2.2 → defaultValue (ty k) = am_gv (fun _ _ => 0) (fun _ _ => none) (am_fr ci k) 0 k) ∧ Cond.instantiable r.1 r.2.2 ∈ am_tb ∧ Cond.initialized r.1 ∈ am_tb
def am_fin (ci k : Nat) : Bool := match am_cl[ci]? with
  | some r => (r.2.1 k).2.2.2
  | none => false
def am_dec (ci k : Nat) : String := match am_cl[ci]? with
  | some r => (r.2.1 k).1
  | none => ""
def am_desc (ci k : Nat) : Option FieldType := match am_cl[ci]? with
  | some r => parseFieldDescriptor (r.2.1 k).2.2.1
  | none => none
theorem am_updV (σ σ' : am_S) (ci a k : Nat) (v : Value) (hv : am_gv (am_i σ') (am_r σ') (am_fr ci k) a k = v) (ho : ∀ j, j ≠ k → am_i σ' a j = am_i σ a j ∧ am_r σ' a j = am_r σ a j) (j : Nat) : updV (fun k => am_gv (am_i σ) (am_r σ) (am_fr ci k) a k) k v j = am_gv (am_i σ') (am_r σ') (am_fr ci j) a j := by
  unfold updV
  by_cases e : j = k
  · subst e
    rw [if_pos rfl, hv]
  · rw [if_neg e]
    unfold am_gv
    rw [(ho j e).1, (ho j e).2]
theorem sx_put0 {idx ci k : Nat} {v : Value} {ty : FieldType} {a : Nat} {L : List (Option Value)} {rest : List Value} {σ σ' : am_S} (hd : decode M.2.1 pc = .ok (.putfield idx, 3)) (hl : am_FL M.1.cls idx ci k) (hD : am_CD ci) (hfin : am_fin ci k = false ∨ (M.1.name = "<init>" ∧ am_dec ci k = M.1.cls)) (hty : am_desc ci k = some ty) (hn : narrow ty v = v) (hfit : fits ty v = true)
    (hsh : am_sh σ a = some (.inl ci)) (hs : am_sh σ' = am_sh σ) (ht : am_tp σ' = am_tp σ) (hu : am_us σ' = am_us σ) (hv : am_gv (am_i σ') (am_r σ') (am_fr ci k) a k = v) (ho : ∀ j, j ≠ k → am_i σ' a j = am_i σ a j ∧ am_r σ' a j = am_r σ a j) (hi : ∀ b, b ≠ a → am_i σ' b = am_i σ b) (hr : ∀ b, b ≠ a → am_r σ' b = am_r σ b)
    (h : am_W g l M d lim Q (pc + 3) L rest σ') : am_W g l M d lim Q pc L (v :: .ref a :: rest) σ := by
  intro p e R s m args below meth c H locs cells slots mc ms ls Z hF hR hlo hL c1 c2 c3 c4 c5 c6 hz
  obtain ⟨r, e1, hkn, hw⟩ := hl
  obtain ⟨hc, r', tyf, e2, d1, d2, d3, -, -, -⟩ := hD
  cases e1.symm.trans e2
  have hown := hF.2.2.2.2.1
  have hts := hF.2.2.2.2.2.1
  have hE := hF.2.2.2.2.2.2.1
  have hK := (hE.1 ci r e1).2.1 hc
  have hcell := (hR.2.2.2.1 a _ hsh hc).2
  obtain ⟨r', e3, cell, q1, q2, q3, q4⟩ := hcell
  cases e1.symm.trans e3
  have hd9 : parseFieldDescriptor (r.2.1 k).2.2.1 = some ty := by
    unfold am_desc at hty
    rw [e1] at hty
    exact hty
  have hin : ∀ w ∈ u_ws r.1 r.2.1 r.2.2, w.before args s = true := fun w hw => hts w (d3 w hw)
  obtain ⟨hS, hfc, kC, hkC, hkind⟩ := hK
  have hap : ∀ x y, x < r.2.2 → y < r.2.2 → x ≠ y → (g.1.2 ci) x ≠ (g.1.2 ci) y := by
    intro x y hx hy hne
    obtain ⟨_, _, _, fa, hia, ea⟩ := hS x hx
    obtain ⟨_, _, _, fb, hib, eb⟩ := hS y hy
    rw [← ea, ← eb]
    refine u_apart (u_lays hts d3 hx) (u_lays hts d3 hy) hia hib ?_
    rw [(State.fieldFound?_type hia (d1 x hx)).1, (State.fieldFound?_type hib (d1 y hy)).1]
    exact d2 x hx y hy hne
  obtain ⟨cf, kf, fi, f, hi9, hsl⟩ := hS k hkn
  have hlay := hin _ (u_in_lay hkn)
  unfold u_lay at hlay
  have hst := (u_facts hfc hkC (u_lays hts d3 hkn) hi9).1
  have fin : ∀ H' : Heap, H'[a]? = some (cell.setSlot ((g.1.2 ci) k) v) → H'.size = H.size → (∀ q : Nat, q ≠ a → H'[q]? = H[q]?) → am_R g σ' H' := by
    intro H' x1 x2 x3
    refine hR.set hsh hc x2 x3 ⟨r, e1, t_OB.to (V := updV (fun k => am_gv (am_i σ) (am_r σ) (am_fr ci k) a k) k v) ⟨_, x1, q2, q3, t_set q4 hap hkn v⟩ (fun j _ => am_updV σ σ' ci a k v hv ho j)⟩ hs ht hi hr
  have hlo2 : ∀ q ∈ locs ++ [⟨a, (g.1.2 ci) k⟩], g.2.2.1.size ≤ q.base := by
    intro q hq
    rcases List.mem_append.mp hq with h9 | h9
    · exact hlo q h9
    · rw [List.mem_singleton.mp h9]
      exact (hR.2.2.2.1 a _ hsh hc).1
  by_cases hf : (r.2.1 k).2.2.2 = true
  · rw [if_pos hf] at hlay
    have hfn : am_fin ci k = true := by unfold am_fin; rw [e1]; exact hf
    rcases hfin with hz9 | ⟨hz9, hz8⟩
    · rw [hfn] at hz9; cases hz9
    have hcf : m.cls = cf := by
      obtain ⟨_, _, c', _, _, _, -, -, hf', -, -, -, hown2, -⟩ := Cond.laysFinal_spec hlay
      have e1' : c' = cf := by have := hi9.symm.trans hf'; simp at this; exact this.1.symm
      unfold am_dec at hz8
      rw [e1] at hz8
      dsimp only at hz8
      rw [hz8] at hown2
      rw [← e1']; exact Option.some.inj (hown.symm.trans hown2)
    have h6 := u_fits hfc hkC hkind (Or.inr hlay) hi9 hd9 hn hfit
    refine W.putFinK hF.1 hF.2.1 hown (hts _ hw) hi9 hst hcf (hF.2.2.2.2.2.2.2.2.1.trans hz9) (by rw [q2]; exact h6) q1 q3 (by rw [hsl]; exact k2_hasslot (q4 k hkn)) rfl rfl hd fun H' x1 x2 x3 => ?_
    rw [hsl] at x1 ⊢
    exact h p e R s m args below meth c H' _ cells slots mc ms ls Z hF (fin H' x1 x2 x3) hlo2 hL (by rw [ht]; exact c1) (by rw [hu]; exact c2) (by rw [ht]; exact c3) (by rw [hu]; exact c4) c5 c6 hz
  · rw [if_neg hf] at hlay
    have h6 := u_store hfc hkC hkind hlay hi9 hd9 hn hfit
    refine W.putK hF.1 hF.2.1 (f := f) ⟨hown, hts _ hw, ⟨_, _, _, hi9⟩, hst⟩ (by rw [q2]; exact h6) q1 q3 (by rw [hsl]; exact k2_hasslot (q4 k hkn)) rfl rfl hd fun H' x1 x2 x3 => ?_
    rw [hsl] at x1 ⊢
    exact h p e R s m args below meth c H' _ cells slots mc ms ls Z hF (fin H' x1 x2 x3) hlo2 hL (by rw [ht]; exact c1) (by rw [hu]; exact c2) (by rw [ht]; exact c3) (by rw [hu]; exact c4) c5 c6 hz
theorem sx_putI {idx ci k : Nat} (hd : decode M.2.1 pc = .ok (.putfield idx, 3)) (hl : am_FL M.1.cls idx ci k) (hD : am_CD ci) (hfin : am_fin ci k = false ∨ (M.1.name = "<init>" ∧ am_dec ci k = M.1.cls)) (hty : am_desc ci k = some .int) (hb : am_fr ci k = false) (hk : ∀ L st σ, K L st σ → am_W g l M d lim Q (pc + 3) L st σ) : ∀ L st σ, ax_putI false ci k K L st σ → am_W g l M d lim Q pc L st σ := by
  intro L st σ h
  unfold ax_putI at h
  split at h
  · rename_i v a rest
    obtain ⟨h1, h2, h3⟩ := h
    exact sx_put0 (v := .int v) (σ' := am_wi σ a k v) hd hl hD hfin hty rfl rfl h1 rfl rfl rfl (by rw [hb, am_gvF, am_i_wi, if_pos ⟨rfl, rfl⟩]) (fun j hj => ⟨by rw [am_i_wi, if_neg (fun q => hj q.2)], rfl⟩) (fun b hb => funext fun j => by rw [am_i_wi, if_neg (fun q => hb q.1)]) (fun b hb => rfl) (hk L rest _ h3)
  · exact h.elim
theorem sx_putZ {idx ci k : Nat} (hd : decode M.2.1 pc = .ok (.putfield idx, 3)) (hl : am_FL M.1.cls idx ci k) (hD : am_CD ci) (hfin : am_fin ci k = false ∨ (M.1.name = "<init>" ∧ am_dec ci k = M.1.cls)) (hty : am_desc ci k = some .boolean) (hb : am_fr ci k = false) (hk : ∀ L st σ, K L st σ → am_W g l M d lim Q (pc + 3) L st σ) : ∀ L st σ, ax_putI true ci k K L st σ → am_W g l M d lim Q pc L st σ := by
  intro L st σ h
  unfold ax_putI at h
  split at h
  · rename_i v a rest
    obtain ⟨h1, h2, h3⟩ := h
    have h4 := h2 rfl
    exact sx_put0 (v := .int v) (σ' := am_wi σ a k v) hd hl hD hfin hty (by rcases h4 with rfl | rfl <;> rfl) (by rcases h4 with rfl | rfl <;> rfl) h1 rfl rfl rfl (by rw [hb, am_gvF, am_i_wi, if_pos ⟨rfl, rfl⟩]) (fun j hj => ⟨by rw [am_i_wi, if_neg (fun q => hj q.2)], rfl⟩) (fun b hb => funext fun j => by rw [am_i_wi, if_neg (fun q => hb q.1)]) (fun b hb => rfl) (hk L rest _ h3)
  · exact h.elim
theorem sx_putR {idx ci k : Nat} {ty : FieldType} (hd : decode M.2.1 pc = .ok (.putfield idx, 3)) (hl : am_FL M.1.cls idx ci k) (hD : am_CD ci) (hfin : am_fin ci k = false ∨ (M.1.name = "<init>" ∧ am_dec ci k = M.1.cls)) (hty : am_desc ci k = some ty) (hn : ∀ a, narrow ty (.ref a) = .ref a ∧ fits ty (.ref a) = true) (hb : am_fr ci k = true) (hk : ∀ L st σ, K L st σ → am_W g l M d lim Q (pc + 3) L st σ) : ∀ L st σ, ax_putR ci k K L st σ → am_W g l M d lim Q pc L st σ := by
  intro L st σ h
  unfold ax_putR at h
  split at h
  · rename_i v a rest
    obtain ⟨h1, h3⟩ := h
    exact sx_put0 (v := .ref v) (σ' := am_wr σ a k (some v)) hd hl hD hfin hty (hn v).1 (hn v).2 h1 rfl rfl rfl (by rw [hb, am_gvT, am_r_wr, if_pos ⟨rfl, rfl⟩]; rfl) (fun j hj => ⟨rfl, by rw [am_r_wr, if_neg (fun q => hj q.2)]⟩) (fun b hb => rfl) (fun b hb => funext fun j => by rw [am_r_wr, if_neg (fun q => hb q.1)]) (hk L rest _ h3)
  · exact h.elim
theorem sx_gets {idx i : Nat} {q : String × String × String} (hd : decode M.2.1 pc = .ok (.getstatic idx, 3)) (hq : am_sts[i]? = some q) (hw : Cond.fieldLink M.1.cls idx q.1 q.2.1 q.2.2 ∈ am_tb) (hk : ∀ L st σ, K L st σ → am_W g l M d lim Q (pc + 3) L st σ) : ∀ L st σ, ax_gets g i K L st σ → am_W g l M d lim Q pc L st σ := by
  intro L st σ h
  intro p e R s m args below meth c H locs cells slots mc ms ls Z hF hR hlo hL c1 c2 c3 c4 c5 c6 hz
  obtain ⟨cf, kf, fi, f, a, cell, z1, z2, z3, z4, z5, z6, z7, z8⟩ := hF.2.2.2.2.2.2.1.2.2.1 i q hq
  refine W.gets hF.1 hF.2.1 hF.2.2.2.2.1 (hF.2.2.2.2.2.1 _ hw) z1 z2 z3 z4 (by rw [hR.2.2.1 a (Nat.not_le.mp z8)]; exact z5) (fun z => by rw [z] at z6; cases z6) z7 rfl hd (hk L _ σ h p e R s m args below meth c H locs cells slots mc ms ls Z hF hR hlo hL c1 c2 c3 c4 c5 c6 hz)
theorem sx_getsT {idx i : Nat} {q : String × String × String} (hd : decode M.2.1 pc = .ok (.getstatic idx, 3)) (hq : am_sts[i]? = some q) (hw : Cond.fieldLink M.1.cls idx q.1 q.2.1 q.2.2 ∈ am_tb) (hi : i < 38) (hk : ∀ L st σ, K L st σ → am_W g l M d lim Q (pc + 3) L st σ) : ∀ L st σ, ax_getsT g i K L st σ → am_W g l M d lim Q pc L st σ := by
  intro L st σ h
  intro p e R s m args below meth c H locs cells slots mc ms ls Z hF hR hlo hL c1 c2 c3 c4 c5 c6 hz
  obtain ⟨b, hb⟩ := hF.2.2.2.2.2.2.1.2.2.2.2.2.1 i hi
  have hb2 : g.2.2.2.2 i = .ref (am_tk g i) := by unfold am_tk; rw [hb]
  exact sx_gets hd hq hw hk L st σ (by unfold ax_gets; rw [hb2]; exact h) p e R s m args below meth c H locs cells slots mc ms ls Z hF hR hlo hL c1 c2 c3 c4 c5 c6 hz
/-- an array's cell, as its readers want it -/
theorem am_aread {g : am_G} {σ : am_S} {H : Heap} {s : State} {a k n : Nat} (hR : am_R g σ H) (hE : am_E g s) (ha : am_sh σ a = some (.inr (k, n))) :
    ∃ cell ty, am_at[k]? = some ty ∧ H[a]? = some cell ∧ s.isArrayOf cell ty ∧ cell.vm ≠ .unknown ∧ n ≤ cell.slots.size ∧ cell.slots.size.toInt32 = Int32.ofNat n ∧ (cell.slots.size = n ∨ 9 ≤ k) ∧ ∀ j : Nat, j < n → cell.slots[j]? = some (am_gv (am_i σ) (am_r σ) (am_ar k) a j) := by
  obtain ⟨h1, h2, h3, h4, h5⟩ := hR
  cases hc : am_isc (.inr (k, n)) with
  | false =>
    obtain ⟨-, h8, e2⟩ := h4 a _ ha hc
    have hk : k < am_at.length := by
      have : am_at.length = 12 := rfl
      dsimp only at h8
      omega
    have e3 : am_at[k]? = some am_at[k] := List.getElem?_eq_getElem hk
    obtain ⟨f1, f2⟩ := hE.2.1 k _ e3 h8
    exact ⟨_, _, e3, e2, f1 _ _, (fun h => by cases h), (by rw [arrV_size]; exact Nat.le_refl _), (by rw [arrV_size] <;> rfl), Or.inl (arrV_size _ _ _), fun j hj => by rw [arrV_read _ _ hj]⟩
  | true =>
    obtain ⟨e1, e2, e3⟩ := h5 a _ ha hc
    obtain ⟨ty, f1, cell, g1, g2, g3, g4, g5, g6, g7⟩ := hE.2.2.2.2.1 a _ e1
    have h9 : 9 ≤ k := by simpa [am_isc] using hc
    refine ⟨cell, ty, f1, ?_, g2, g3, g4, g5, Or.inr h9, fun j hj => ?_⟩
    · rw [h3 a (Nat.not_le.mp g7)]
      exact g1
    · rw [g6 j hj]
      unfold am_gv
      rw [e2, e3]
theorem sx_iald (hd : decode M.2.1 pc = .ok (.iaload, 1)) (hk : ∀ L st σ, K L st σ → am_W g l M d lim Q (pc + 1) L st σ) : ∀ L st σ, ax_aldI 0 K L st σ → am_W g l M d lim Q pc L st σ := by
  intro L st σ h
  intro p e R s m args below meth c H locs cells slots mc ms ls Z hF hR hlo hL c1 c2 c3 c4 c5 c6 hz
  unfold ax_aldI at h
  split at h
  · rename_i i a r
    obtain ⟨n, h1, h2, h3⟩ := h
    obtain ⟨cell, ty, e0, e1, e2, e3, e4, e5, e6, e7⟩ := am_aread hR hF.2.2.2.2.2.2.1 h1
    cases e0
    exact W.iald hF.1 hF.2.1 e1 e2 e3 (fun q => by rcases q with q | q; exact h2.vp (Or.inl q); have := h2.lt; omega) (e7 _ h2.lt) rfl rfl hd (hk L _ σ h3 p e R s m args below meth c H locs cells slots mc ms ls Z hF hR hlo hL c1 c2 c3 c4 c5 c6 hz)
  · exact h.elim
theorem sx_cald (hd : decode M.2.1 pc = .ok (.caload, 1)) (hk : ∀ L st σ, K L st σ → am_W g l M d lim Q (pc + 1) L st σ) : ∀ L st σ, ax_aldI 1 K L st σ → am_W g l M d lim Q pc L st σ := by
  intro L st σ h
  intro p e R s m args below meth c H locs cells slots mc ms ls Z hF hR hlo hL c1 c2 c3 c4 c5 c6 hz
  unfold ax_aldI at h
  split at h
  · rename_i i a r
    obtain ⟨n, h1, h2, h3⟩ := h
    obtain ⟨cell, ty, e0, e1, e2, e3, e4, e5, e6, e7⟩ := am_aread hR hF.2.2.2.2.2.2.1 h1
    cases e0
    exact W.cald hF.1 hF.2.1 e1 e2 e3 (fun q => by rcases q with q | q; exact h2.vp (Or.inl q); have := h2.lt; omega) (e7 _ h2.lt) rfl rfl hd (hk L _ σ h3 p e R s m args below meth c H locs cells slots mc ms ls Z hF hR hlo hL c1 c2 c3 c4 c5 c6 hz)
  · exact h.elim
theorem sx_zald (hd : decode M.2.1 pc = .ok (.baload, 1)) (hk : ∀ L st σ, K L st σ → am_W g l M d lim Q (pc + 1) L st σ) : ∀ L st σ, ax_aldI 2 K L st σ → am_W g l M d lim Q pc L st σ := by
  intro L st σ h
  intro p e R s m args below meth c H locs cells slots mc ms ls Z hF hR hlo hL c1 c2 c3 c4 c5 c6 hz
  unfold ax_aldI at h
  split at h
  · rename_i i a r
    obtain ⟨n, h1, h2, h3⟩ := h
    obtain ⟨cell, ty, e0, e1, e2, e3, e4, e5, e6, e7⟩ := am_aread hR hF.2.2.2.2.2.2.1 h1
    cases e0
    exact W.zald hF.1 hF.2.1 e1 e2 e3 (fun q => by rcases q with q | q; exact h2.vp (Or.inl q); have := h2.lt; omega) (e7 _ h2.lt) rfl rfl hd (hk L _ σ h3 p e R s m args below meth c H locs cells slots mc ms ls Z hF hR hlo hL c1 c2 c3 c4 c5 c6 hz)
  · exact h.elim
theorem sx_bald (hd : decode M.2.1 pc = .ok (.baload, 1)) (hk : ∀ L st σ, K L st σ → am_W g l M d lim Q (pc + 1) L st σ) : ∀ L st σ, ax_aldI 10 K L st σ → am_W g l M d lim Q pc L st σ := by
  intro L st σ h
  intro p e R s m args below meth c H locs cells slots mc ms ls Z hF hR hlo hL c1 c2 c3 c4 c5 c6 hz
  unfold ax_aldI at h
  split at h
  · rename_i i a r
    obtain ⟨n, h1, h2, h3⟩ := h
    obtain ⟨cell, ty, e0, e1, e2, e3, e4, e5, e6, e7⟩ := am_aread hR hF.2.2.2.2.2.2.1 h1
    cases e0
    exact W.bald hF.1 hF.2.1 e1 e2 e3 (fun q => by rcases q with q | q; exact h2.vp (Or.inl q); have := h2.lt; omega) (e7 _ h2.lt) rfl rfl hd (hk L _ σ h3 p e R s m args below meth c H locs cells slots mc ms ls Z hF hR hlo hL c1 c2 c3 c4 c5 c6 hz)
  · exact h.elim
theorem sx_sald (hd : decode M.2.1 pc = .ok (.iaload, 1)) (hk : ∀ L st σ, K L st σ → am_W g l M d lim Q (pc + 1) L st σ) : ∀ L st σ, ax_aldI 11 K L st σ → am_W g l M d lim Q pc L st σ := by
  intro L st σ h
  intro p e R s m args below meth c H locs cells slots mc ms ls Z hF hR hlo hL c1 c2 c3 c4 c5 c6 hz
  unfold ax_aldI at h
  split at h
  · rename_i i a r
    obtain ⟨n, h1, h2, h3⟩ := h
    obtain ⟨cell, ty, e0, e1, e2, e3, e4, e5, e6, e7⟩ := am_aread hR hF.2.2.2.2.2.2.1 h1
    cases e0
    exact W.iald hF.1 hF.2.1 e1 e2 e3 (fun q => by rcases q with q | q; exact h2.vp (Or.inl q); have := h2.lt; omega) (e7 _ h2.lt) rfl rfl hd (hk L _ σ h3 p e R s m args below meth c H locs cells slots mc ms ls Z hF hR hlo hL c1 c2 c3 c4 c5 c6 hz)
  · exact h.elim
theorem sx_aald {k : Nat} (hd : decode M.2.1 pc = .ok (.aaload, 1)) (hk3 : 3 ≤ k ∧ k ≤ 9) (hk : ∀ L st σ, K L st σ → am_W g l M d lim Q (pc + 1) L st σ) : ∀ L st σ, ax_aldR k K L st σ → am_W g l M d lim Q pc L st σ := by
  intro L st σ h
  intro p e R s m args below meth c H locs cells slots mc ms ls Z hF hR hlo hL c1 c2 c3 c4 c5 c6 hz
  unfold ax_aldR at h
  split at h
  · rename_i i a r
    obtain ⟨n, h1, h2, b, hb, h3⟩ := h
    obtain ⟨cell, ty, e0, e1, e2, e3, e4, e5, e6, e7⟩ := am_aread hR hF.2.2.2.2.2.2.1 h1
    have hty : ty.isReference = true := by
      have : k = 3 ∨ k = 4 ∨ k = 5 ∨ k = 6 ∨ k = 7 ∨ k = 8 ∨ k = 9 := by omega
      rcases this with rfl | rfl | rfl | rfl | rfl | rfl | rfl <;> (cases e0; rfl)
    have e8 := e7 _ h2.lt
    rw [show am_ar k = true by simp [am_ar, hk3.1, hk3.2], am_gvT, hb] at e8
    exact W.aald hF.1 hF.2.1 e1 e2 hty e3 (fun q => by rcases q with q | q; exact h2.vp (Or.inl q); have := h2.lt; omega) e8 rfl rfl hd (hk L _ σ h3 p e R s m args below meth c H locs cells slots mc ms ls Z hF hR hlo hL c1 c2 c3 c4 c5 c6 hz)
  · exact h.elim
theorem sx_alen (hd : decode M.2.1 pc = .ok (.arraylength, 1)) (hk : ∀ L st σ, K L st σ → am_W g l M d lim Q (pc + 1) L st σ) : ∀ L st σ, ax_alen K L st σ → am_W g l M d lim Q pc L st σ := by
  intro L st σ h
  intro p e R s m args below meth c H locs cells slots mc ms ls Z hF hR hlo hL c1 c2 c3 c4 c5 c6 hz
  unfold ax_alen at h
  split at h
  · rename_i a r
    obtain ⟨k, n, h1, h3⟩ := h
    obtain ⟨cell, ty, e0, e1, e2, e3, e4, e5, e6, e7⟩ := am_aread hR hF.2.2.2.2.2.2.1 h1
    exact W.alen hF.1 hF.2.1 e1 e2 e5 rfl rfl hd (hk L _ σ h3 p e R s m args below meth c H locs cells slots mc ms ls Z hF hR hlo hL c1 c2 c3 c4 c5 c6 hz)
  · exact h.elim
theorem am_astore {g : am_G} {σ σ' : am_S} {H H' : Heap} {s : State} {a k n i : Nat} {v : Value} (hR : am_R g σ H) (hk : k ≤ 8) (ha : am_sh σ a = some (.inr (k, n))) (he : H'[a]? = some ((arrV (g.2.1 k) n (fun j => am_gv (am_i σ) (am_r σ) (am_ar k) a j)).setSlot i v)) (hz : H'.size = H.size) (ho : ∀ q : Nat, q ≠ a → H'[q]? = H[q]?)
    (hs : am_sh σ' = am_sh σ) (ht : am_tp σ' = am_tp σ) (hv : am_gv (am_i σ') (am_r σ') (am_ar k) a i = v) (hj : ∀ j, j ≠ i → am_i σ' a j = am_i σ a j ∧ am_r σ' a j = am_r σ a j) (hi : ∀ b, b ≠ a → am_i σ' b = am_i σ b) (hr : ∀ b, b ≠ a → am_r σ' b = am_r σ b) : am_R g σ' H' := by
  refine hR.set ha (by simp [am_isc]; omega) hz ho ⟨hk, ?_⟩ hs ht hi hr
  rw [he, arrV_store]
  refine congrArg some (congrArg (arrV (g.2.1 k) n) (funext fun j => ?_))
  unfold updV
  by_cases e : j = i
  · subst e
    rw [if_pos rfl, hv]
  · rw [if_neg e]
    unfold am_gv
    rw [(hj j e).1, (hj j e).2]
theorem sx_iast (hd : decode M.2.1 pc = .ok (.iastore, 1)) (hk : ∀ L st σ, K L st σ → am_W g l M d lim Q (pc + 1) L st σ) : ∀ L st σ, ax_astI 0 (fun x => x) K L st σ → am_W g l M d lim Q pc L st σ := by
  intro L st σ h
  intro p e R s m args below meth c H locs cells slots mc ms ls Z hF hR hlo hL c1 c2 c3 c4 c5 c6 hz
  unfold ax_astI at h
  split at h
  · rename_i x i a r
    obtain ⟨n, h1, h2, h3⟩ := h
    have e2 := (hR.2.2.2.1 a _ h1 rfl).2.2
    have e3 := ((hF.2.2.2.2.2.2.1.2.1 0 _ rfl (by decide)).1 n (fun j => am_gv (am_i σ) (am_r σ) (am_ar 0) a j))
    refine W.iast hF.1 hF.2.1 e2 e3 (fun z => by cases z) (by show ¬ (i < 0 ∨ (arrV _ _ _).slots.size ≤ _); rw [arrV_size]; exact h2.vp) rfl rfl hd (fun H' x1 x2 x3 => ?_)
    exact hk L r _ h3 p e R s m args below meth c H' _ cells slots mc ms ls Z hF (am_astore (s := s) (i := i.toNatClampNeg) (v := _) hR (by decide) h1 x1 x2 x3 rfl rfl (by show Value.int (if _ then _ else _) = _; rw [if_pos ⟨rfl, rfl⟩] <;> rfl) (fun j hj => ⟨by rw [am_i_wi, if_neg (fun q => hj q.2)], rfl⟩) (fun b hb => funext fun j => by rw [am_i_wi, if_neg (fun q => hb q.1)]) (fun b hb => rfl)) (fun q hq => by rcases List.mem_append.mp hq with h9 | h9; exact hlo q h9; rw [List.mem_singleton.mp h9]; exact (hR.2.2.2.1 a _ h1 rfl).1) hL c1 c2 c3 c4 c5 c6 hz
  · exact h.elim
theorem sx_cast (hd : decode M.2.1 pc = .ok (.castore, 1)) (hk : ∀ L st σ, K L st σ → am_W g l M d lim Q (pc + 1) L st σ) : ∀ L st σ, ax_astI 1 (fun x => vp_nar .char x) K L st σ → am_W g l M d lim Q pc L st σ := by
  intro L st σ h
  intro p e R s m args below meth c H locs cells slots mc ms ls Z hF hR hlo hL c1 c2 c3 c4 c5 c6 hz
  unfold ax_astI at h
  split at h
  · rename_i x i a r
    obtain ⟨n, h1, h2, h3⟩ := h
    have e2 := (hR.2.2.2.1 a _ h1 rfl).2.2
    have e3 := ((hF.2.2.2.2.2.2.1.2.1 1 _ rfl (by decide)).1 n (fun j => am_gv (am_i σ) (am_r σ) (am_ar 1) a j))
    refine W.cast hF.1 hF.2.1 e2 e3 (fun z => by cases z) (by show ¬ (i < 0 ∨ (arrV _ _ _).slots.size ≤ _); rw [arrV_size]; exact h2.vp) rfl rfl hd (fun H' x1 x2 x3 => ?_)
    exact hk L r _ h3 p e R s m args below meth c H' _ cells slots mc ms ls Z hF (am_astore (s := s) (i := i.toNatClampNeg) (v := _) hR (by decide) h1 x1 x2 x3 rfl rfl (by show Value.int (if _ then _ else _) = _; rw [if_pos ⟨rfl, rfl⟩] <;> rfl) (fun j hj => ⟨by rw [am_i_wi, if_neg (fun q => hj q.2)], rfl⟩) (fun b hb => funext fun j => by rw [am_i_wi, if_neg (fun q => hb q.1)]) (fun b hb => rfl)) (fun q hq => by rcases List.mem_append.mp hq with h9 | h9; exact hlo q h9; rw [List.mem_singleton.mp h9]; exact (hR.2.2.2.1 a _ h1 rfl).1) hL c1 c2 c3 c4 c5 c6 hz
  · exact h.elim
theorem sx_zast (hd : decode M.2.1 pc = .ok (.bastore, 1)) (hk : ∀ L st σ, K L st σ → am_W g l M d lim Q (pc + 1) L st σ) : ∀ L st σ, ax_astI 2 (fun x => vp_nar .boolean x) K L st σ → am_W g l M d lim Q pc L st σ := by
  intro L st σ h
  intro p e R s m args below meth c H locs cells slots mc ms ls Z hF hR hlo hL c1 c2 c3 c4 c5 c6 hz
  unfold ax_astI at h
  split at h
  · rename_i x i a r
    obtain ⟨n, h1, h2, h3⟩ := h
    have e2 := (hR.2.2.2.1 a _ h1 rfl).2.2
    have e3 := ((hF.2.2.2.2.2.2.1.2.1 2 _ rfl (by decide)).1 n (fun j => am_gv (am_i σ) (am_r σ) (am_ar 2) a j))
    refine W.zast hF.1 hF.2.1 e2 e3 (fun z => by cases z) (by show ¬ (i < 0 ∨ (arrV _ _ _).slots.size ≤ _); rw [arrV_size]; exact h2.vp) rfl rfl hd (fun H' x1 x2 x3 => ?_)
    exact hk L r _ h3 p e R s m args below meth c H' _ cells slots mc ms ls Z hF (am_astore (s := s) (i := i.toNatClampNeg) (v := _) hR (by decide) h1 x1 x2 x3 rfl rfl (by show Value.int (if _ then _ else _) = _; rw [if_pos ⟨rfl, rfl⟩] <;> rfl) (fun j hj => ⟨by rw [am_i_wi, if_neg (fun q => hj q.2)], rfl⟩) (fun b hb => funext fun j => by rw [am_i_wi, if_neg (fun q => hb q.1)]) (fun b hb => rfl)) (fun q hq => by rcases List.mem_append.mp hq with h9 | h9; exact hlo q h9; rw [List.mem_singleton.mp h9]; exact (hR.2.2.2.1 a _ h1 rfl).1) hL c1 c2 c3 c4 c5 c6 hz
  · exact h.elim
theorem am_obj {g : am_G} {σ : am_S} {H : Heap} {s : State} {a ci : Nat} {r : vw_C} (hR : am_R g σ H) (hE : am_E g s) (ha : am_sh σ a = some (.inl ci)) (hr : am_cl[ci]? = some r) :
    ∃ cell : Cell, H[a]? = some cell ∧ cell.vm.isStatics = false ∧ s.vm.findClass r.1 = some cell.cls := by
  cases hc : am_isc (.inl ci) with
  | false =>
    obtain ⟨-, r', e1, cell, e2, e3, e4, e5⟩ := hR.2.2.2.1 a _ ha hc
    cases hr.symm.trans e1
    exact ⟨cell, e2, by rw [e4]; rfl, by rw [e3]; exact ((hE.1 ci r hr).2.1 hc).2.1⟩
  | true =>
    obtain ⟨e1, e2, e3⟩ := hR.2.2.2.2 a _ ha hc
    obtain ⟨r', f1, ⟨cell, f2, f3, f4, f5⟩, -⟩ := hE.2.2.2.1 a ci e1
    cases hr.symm.trans f1
    exact ⟨cell, by rw [hR.2.2.1 a (Nat.not_le.mp f5)]; exact f2, f3, f4⟩
theorem sx_aast {k : Nat} (hd : decode M.2.1 pc = .ok (.aastore, 1)) (hk3 : 3 ≤ k ∧ k ≤ 8) (hk : ∀ L st σ, K L st σ → am_W g l M d lim Q (pc + 1) L st σ) : ∀ L st σ, ax_astR k K L st σ → am_W g l M d lim Q pc L st σ := by
  intro L st σ h
  intro p e R s m args below meth c H locs cells slots mc ms ls Z hF hR hlo hL c1 c2 c3 c4 c5 c6 hz
  unfold ax_astR at h
  split at h
  · rename_i x i a r
    obtain ⟨n, h1, h2, h4, h3⟩ := h
    have hE := hF.2.2.2.2.2.2.1
    have hnc : am_isc (.inr (k, n)) = false := by simp [am_isc]; omega
    have e2 := (hR.2.2.2.1 a _ h1 hnc).2.2
    have key : ∃ (kA : Class) (comp : ClassId) (t : FieldType) (cv : Cell) (kC : Class), s.vm.classes[g.2.1 k]? = some kA ∧ kA.kind = .array comp t ∧ t.isReference = true ∧ H[x]? = some cv ∧ cv.vm.isStatics = false ∧ cv.cls = comp ∧ s.vm.classes[comp]? = some kC := by
      by_cases e3 : k = 3
      · subst e3
        rw [if_pos rfl] at h4
        obtain ⟨n', h4⟩ := h4
        obtain ⟨kA, kI, y1, y2, y3⟩ := hE.2.2.2.2.2.2.1
        exact ⟨kA, _, _, _, kI, y1, y2, rfl, (hR.2.2.2.1 x _ h4 rfl).2.2, rfl, rfl, y3⟩
      · rw [if_neg e3] at h4
        obtain ⟨q, hq, -⟩ := hE.2.2.2.2.2.2.2.1 k (by omega) hk3.2
        obtain ⟨cv, y1, y2, y3⟩ := am_obj hR hE h4 hq
        obtain ⟨kC, hkC, -⟩ := Vm.findClass_spec y3
        have hat : am_at[k]? = some (.object q.1) := by
          have : k = 4 ∨ k = 5 ∨ k = 6 ∨ k = 7 ∨ k = 8 := by omega
          rcases this with rfl | rfl | rfl | rfl | rfl <;> (cases hq; rfl)
        obtain ⟨kA, comp, z1, z2, z3, -⟩ := (hE.2.1 k _ hat hk3.2).2
        cases z3.symm.trans y3
        exact ⟨kA, _, _, cv, kC, z1, z2, rfl, y1, y2, rfl, hkC⟩
    obtain ⟨kA, comp, t, cv, kC, k1, k2, kr, k3, k4, rfl, k6⟩ := key
    have har : am_ar k = true := by simp [am_ar]; omega
    refine W.aast hF.1 hF.2.1 e2 (fun q z => by cases z) (fun z => by cases z) k1 k2 kr k6 ⟨fun z => h2.vp (Or.inl z), by show _ < (arrV _ _ _).slots.size; rw [arrV_size]; exact h2.lt⟩ k3 (fun q z => by rw [z] at k4; cases k4) k6 (va_asg _ _) rfl rfl hd (fun H' x1 x2 x3 => ?_)
    exact hk L r _ h3 p e R s m args below meth c H' _ cells slots mc ms ls Z hF (am_astore (s := s) (i := i.toNatClampNeg) (v := _) hR hk3.2 h1 x1 x2 x3 rfl rfl (by rw [har, am_gvT, am_r_wr, if_pos ⟨rfl, rfl⟩] <;> rfl) (fun j hj => ⟨rfl, by rw [am_r_wr, if_neg (fun q => hj q.2)]⟩) (fun b hb => rfl) (fun b hb => funext fun j => by rw [am_r_wr, if_neg (fun q => hb q.1)])) (fun q hq => by rcases List.mem_append.mp hq with h9 | h9; exact hlo q h9; rw [List.mem_singleton.mp h9]; exact (hR.2.2.2.1 a _ h1 hnc).1) hL c1 c2 c3 c4 c5 c6 hz
  · exact h.elim
/-- a cell is made -/
theorem am_R.al {g : am_G} {σ : am_S} {H H' : Heap} {x : am_Sh} {n : Nat} (h : am_R g σ H) (hc : am_isc x = false) (hz : H'.size = H.size + 1) (ho : ∀ q : Nat, q < H.size → H'[q]? = H[q]?) (hn : am_cell g (am_al σ x n) H' (am_tp σ) x) : am_R g (am_al σ x n) H' := by
  obtain ⟨h1, h2, h3, h4, h5⟩ := h
  refine ⟨by rw [hz, am_tp_al, h1], by rw [am_tp_al]; omega, fun q hq => ?_, fun b y hb hy => ?_, fun b y hb hy => ?_⟩
  · rw [ho q (by omega)]
    exact h3 q hq
  · rw [am_sh_al] at hb
    by_cases e : b = am_tp σ
    · rw [if_pos e] at hb
      cases hb
      subst e
      exact ⟨h2, hn⟩
    · rw [if_neg e] at hb
      have g4 := h4 b y hb hy
      exact ⟨g4.1, g4.2.kept (ho b g4.2.lt) (funext fun j => by rw [am_i_al, if_neg e]) (funext fun j => by rw [am_r_al, if_neg e])⟩
  · rw [am_sh_al] at hb
    by_cases e : b = am_tp σ
    · rw [if_pos e] at hb
      cases hb
      rw [hc] at hy
      cases hy
    · rw [if_neg e] at hb
      have g5 := h5 b y hb hy
      exact ⟨g5.1, (funext fun j => by rw [am_i_al, if_neg e] : am_i (am_al σ x n) b = am_i σ b).trans g5.2.1, (funext fun j => by rw [am_r_al, if_neg e] : am_r (am_al σ x n) b = am_r σ b).trans g5.2.2⟩
theorem sx_new {idx ci n : Nat} {r : vw_C} (hd : decode M.2.1 pc = .ok (.new idx, 3)) (hr : am_cl[ci]? = some r) (hn : r.2.2 = n) (hD : am_CD ci) (hw : Cond.classLink M.1.cls idx r.1 ∈ am_tb) (hk : ∀ L st σ, K L st σ → am_W g l M d lim Q (pc + 3) L st σ) : ∀ L st σ, ax_new lim ci n K L st σ → am_W g l M d lim Q pc L st σ := by
  intro L st σ h
  intro p e R s m args below meth c H locs cells slots mc ms ls Z hF hR hlo hL c1 c2 c3 c4 c5 c6 hz
  obtain ⟨h1, h2, h3⟩ := h
  subst hn
  obtain ⟨hc, r2, tyf, e2, d1, d2, d3, d4, d5, d6⟩ := hD
  cases hr.symm.trans e2
  have hts := hF.2.2.2.2.2.1
  have hKn := ((hF.2.2.2.2.2.2.1).1 ci r hr).2.1 hc
  refine W.newcK hF.1 hF.2.1 hF.2.2.2.2.1 (hts _ hw) (hts _ d5) (hts _ d6) rfl hd (by omega) (by omega) hKn.2.1 hR.1 fun H1 kC hkC e1 z1 o1 => ?_
  have hR1 : am_R g (am_al σ (.inl ci) r.2.2) H1 := by
    refine hR.al hc (by rw [z1, hR.1]) (fun q hq => o1 q (by rw [← hR.1]; exact hq)) ⟨r, hr, (u_born tyf hts d3 hKn hkC e1 d1).to fun k hk9 => ?_⟩
    rw [d4 k hk9]
    unfold am_gv
    rw [am_i_al, if_pos rfl, am_r_al, if_pos rfl]
  exact hk L _ _ h3 p e R s m args below meth c H1 locs (cells + 1) (slots + r.2.2) mc ms ls Z hF hR1 hlo hL (by rw [am_tp_al]; omega) (by rw [am_us_al]; omega) (by rw [am_tp_al]; exact h1) (by rw [am_us_al]; exact h2) c5 c6 hz
theorem sx_newa0 (hd : decode M.2.1 pc = .ok (.newarray .int, 2)) (hw : Cond.arrayClass .int ∈ am_tb) (hk : ∀ L st σ, K L st σ → am_W g l M d lim Q (pc + 2) L st σ) : ∀ L st σ, ax_newa lim 0 K L st σ → am_W g l M d lim Q pc L st σ := by
  intro L st σ h
  intro p e R s m args below meth c H locs cells slots mc ms ls Z hF hR hlo hL c1 c2 c3 c4 c5 c6 hz
  unfold ax_newa at h
  split at h
  · rename_i n r
    obtain ⟨n1, n2, h1, h2, h3⟩ := h
    have hts := hF.2.2.2.2.2.1
    have hn0 : ¬ n < 0 := by rw [Int32.lt_iff_toInt_lt, Int32.toInt_zero]; omega
    have hcl : n.toNatClampNeg = n.toInt.toNat := rfl
    have hsz : H.size = am_tp σ := hR.1
    refine va_newaK (atype := .int) hF.1 hF.2.1 (hts _ hw) rfl hd rfl hn0 rfl (by show n.toNatClampNeg * 4 ≤ _; omega) (by omega) (by omega) hsz fun H1 cA e1 z1 o1 hAr hNm => ?_
    obtain ⟨-, hra⟩ := (hF.2.2.2.2.2.2.1).2.1 0 _ rfl (by decide)
    have hcA : some cA = some (g.2.1 0) := hNm.symm.trans hra
    cases hcA
    have hR1 : am_R g (am_al σ (.inr (0, n.toNatClampNeg)) n.toNatClampNeg) H1 := by
      refine hR.al rfl (by rw [z1, hsz]) (fun q hq => o1 q (by omega)) ⟨by show 0 ≤ 8; decide, ?_⟩
      rw [e1]
      refine congrArg some (congrArg (arrV (g.2.1 0) n.toNatClampNeg) (funext fun j => ?_))
      rw [show am_ar 0 = false from rfl, am_gvF, am_i_al, if_pos rfl] <;> rfl
    exact hk L _ _ h3 p e R s m args below meth c H1 locs (cells + 1) (slots + n.toNatClampNeg) mc ms ls Z hF hR1 hlo hL (by rw [am_tp_al]; omega) (by rw [am_us_al]; omega) (by rw [am_tp_al]; exact h1) (by rw [am_us_al]; exact h2) c5 c6 hz
  · exact h.elim
theorem sx_newa1 (hd : decode M.2.1 pc = .ok (.newarray .char, 2)) (hw : Cond.arrayClass .char ∈ am_tb) (hk : ∀ L st σ, K L st σ → am_W g l M d lim Q (pc + 2) L st σ) : ∀ L st σ, ax_newa lim 1 K L st σ → am_W g l M d lim Q pc L st σ := by
  intro L st σ h
  intro p e R s m args below meth c H locs cells slots mc ms ls Z hF hR hlo hL c1 c2 c3 c4 c5 c6 hz
  unfold ax_newa at h
  split at h
  · rename_i n r
    obtain ⟨n1, n2, h1, h2, h3⟩ := h
    have hts := hF.2.2.2.2.2.1
    have hn0 : ¬ n < 0 := by rw [Int32.lt_iff_toInt_lt, Int32.toInt_zero]; omega
    have hcl : n.toNatClampNeg = n.toInt.toNat := rfl
    have hsz : H.size = am_tp σ := hR.1
    refine va_newaK (atype := .char) hF.1 hF.2.1 (hts _ hw) rfl hd rfl hn0 rfl (by show n.toNatClampNeg * 2 ≤ _; omega) (by omega) (by omega) hsz fun H1 cA e1 z1 o1 hAr hNm => ?_
    obtain ⟨-, hra⟩ := (hF.2.2.2.2.2.2.1).2.1 1 _ rfl (by decide)
    have hcA : some cA = some (g.2.1 1) := hNm.symm.trans hra
    cases hcA
    have hR1 : am_R g (am_al σ (.inr (1, n.toNatClampNeg)) n.toNatClampNeg) H1 := by
      refine hR.al rfl (by rw [z1, hsz]) (fun q hq => o1 q (by omega)) ⟨by show 1 ≤ 8; decide, ?_⟩
      rw [e1]
      refine congrArg some (congrArg (arrV (g.2.1 1) n.toNatClampNeg) (funext fun j => ?_))
      rw [show am_ar 1 = false from rfl, am_gvF, am_i_al, if_pos rfl] <;> rfl
    exact hk L _ _ h3 p e R s m args below meth c H1 locs (cells + 1) (slots + n.toNatClampNeg) mc ms ls Z hF hR1 hlo hL (by rw [am_tp_al]; omega) (by rw [am_us_al]; omega) (by rw [am_tp_al]; exact h1) (by rw [am_us_al]; exact h2) c5 c6 hz
  · exact h.elim
theorem sx_newa2 (hd : decode M.2.1 pc = .ok (.newarray .boolean, 2)) (hw : Cond.arrayClass .boolean ∈ am_tb) (hk : ∀ L st σ, K L st σ → am_W g l M d lim Q (pc + 2) L st σ) : ∀ L st σ, ax_newa lim 2 K L st σ → am_W g l M d lim Q pc L st σ := by
  intro L st σ h
  intro p e R s m args below meth c H locs cells slots mc ms ls Z hF hR hlo hL c1 c2 c3 c4 c5 c6 hz
  unfold ax_newa at h
  split at h
  · rename_i n r
    obtain ⟨n1, n2, h1, h2, h3⟩ := h
    have hts := hF.2.2.2.2.2.1
    have hn0 : ¬ n < 0 := by rw [Int32.lt_iff_toInt_lt, Int32.toInt_zero]; omega
    have hcl : n.toNatClampNeg = n.toInt.toNat := rfl
    have hsz : H.size = am_tp σ := hR.1
    refine va_newaK (atype := .boolean) hF.1 hF.2.1 (hts _ hw) rfl hd rfl hn0 rfl (by show n.toNatClampNeg * 1 ≤ _; omega) (by omega) (by omega) hsz fun H1 cA e1 z1 o1 hAr hNm => ?_
    obtain ⟨-, hra⟩ := (hF.2.2.2.2.2.2.1).2.1 2 _ rfl (by decide)
    have hcA : some cA = some (g.2.1 2) := hNm.symm.trans hra
    cases hcA
    have hR1 : am_R g (am_al σ (.inr (2, n.toNatClampNeg)) n.toNatClampNeg) H1 := by
      refine hR.al rfl (by rw [z1, hsz]) (fun q hq => o1 q (by omega)) ⟨by show 2 ≤ 8; decide, ?_⟩
      rw [e1]
      refine congrArg some (congrArg (arrV (g.2.1 2) n.toNatClampNeg) (funext fun j => ?_))
      rw [show am_ar 2 = false from rfl, am_gvF, am_i_al, if_pos rfl] <;> rfl
    exact hk L _ _ h3 p e R s m args below meth c H1 locs (cells + 1) (slots + n.toNatClampNeg) mc ms ls Z hF hR1 hlo hL (by rw [am_tp_al]; omega) (by rw [am_us_al]; omega) (by rw [am_tp_al]; exact h1) (by rw [am_us_al]; exact h2) c5 c6 hz
  · exact h.elim
theorem sx_anew {idx k : Nat} {r : vw_C} (hd : decode M.2.1 pc = .ok (.anewarray idx, 3)) (hk4 : 4 ≤ k ∧ k ≤ 8) (hr : am_cl[am_ac k]? = some r) (hw : Cond.classLink M.1.cls idx r.1 ∈ am_tb) (hk : ∀ L st σ, K L st σ → am_W g l M d lim Q (pc + 3) L st σ) : ∀ L st σ, ax_newa lim k K L st σ → am_W g l M d lim Q pc L st σ := by
  intro L st σ h
  intro p e R s m args below meth c H locs cells slots mc ms ls Z hF hR hlo hL c1 c2 c3 c4 c5 c6 hz
  unfold ax_newa at h
  split at h
  · rename_i n rs
    obtain ⟨n1, n2, h1, h2, h3⟩ := h
    have hts := hF.2.2.2.2.2.1
    have hE := hF.2.2.2.2.2.2.1
    have hn0 : ¬ n < 0 := by rw [Int32.lt_iff_toInt_lt, Int32.toInt_zero]; omega
    have hcl : n.toNatClampNeg = n.toInt.toNat := rfl
    have hsz : H.size = am_tp σ := hR.1
    obtain ⟨q, hq, hao⟩ := hE.2.2.2.2.2.2.2.1 k hk4.1 hk4.2
    cases hr.symm.trans hq
    have hat : am_at[k]? = some (.object r.1) := by
      have : k = 4 ∨ k = 5 ∨ k = 6 ∨ k = 7 ∨ k = 8 := by omega
      rcases this with rfl | rfl | rfl | rfl | rfl <;> (cases hr; rfl)
    refine W.anew hF.1 hF.2.1 hF.2.2.2.2.1 (hts _ hw) (va_AO.use hao) rfl hd rfl hn0 (by omega) (by omega) (by omega) fun cA kA comp f1 f2 f3 f4 => ?_
    obtain ⟨kA9, comp9, y1, y2, y3, y4⟩ := (hE.2.1 k _ hat hk4.2).2
    have hcA : some cA = some (g.2.1 k) := f1.symm.trans y4
    cases hcA
    generalize hH1 : H.push ({ cls := g.2.1 k, slots := Array.replicate n.toNatClampNeg .null, vm := .none } : Cell) = H1
    have z1 : H1.size = H.size + 1 := by rw [← hH1, Array.size_push]
    have e1 : H1[H.size]? = some (arrV (g.2.1 k) n.toNatClampNeg (fun _ => .null)) := by rw [← hH1, Array.getElem?_push_size, ← arrV_new]
    have o1 : ∀ q : Nat, q < H.size → H1[q]? = H[q]? := fun q hq => by rw [← hH1, Array.getElem?_push, if_neg (Nat.ne_of_lt hq)]
    have hR1 : am_R g (am_al σ (.inr (k, n.toNatClampNeg)) n.toNatClampNeg) H1 := by
      refine hR.al (by simp [am_isc]; omega) z1 o1 ⟨hk4.2, ?_⟩
      rw [← hsz, e1]
      refine congrArg some (congrArg (arrV (g.2.1 k) n.toNatClampNeg) (funext fun j => ?_))
      rw [show am_ar k = true by simp [am_ar]; omega, am_gvT, am_r_al, if_pos hsz] <;> rfl
    rw [show (Value.ref H.size) = .ref (am_tp σ) by rw [hsz]]
    exact hk L _ _ h3 p e R s m args below meth c H1 locs (cells + 1) (slots + n.toNatClampNeg) mc ms ls Z hF hR1 hlo hL (by rw [am_tp_al]; omega) (by rw [am_us_al]; omega) (by rw [am_tp_al]; exact h1) (by rw [am_us_al]; exact h2) c5 c6 hz
  · exact h.elim
theorem sx_oinit {idx : Nat} (hd : decode M.2.1 pc = .ok (.invokespecial idx, 3)) (hw : Cond.methodLink M.1.cls idx objectInit ∈ am_tb) (h2 : Cond.instanceMethod objectInit ∈ am_tb) (h3 : Cond.code objectInit ⟨#[0xb1]⟩ 1 none ∈ am_tb) (hdp : 1 ≤ d) (hk : ∀ L st σ, K L st σ → am_W g l M d lim Q (pc + 3) L st σ) : ∀ L st σ, ax_oinit K L st σ → am_W g l M d lim Q pc L st σ := by
  intro L st σ h
  intro p e R s m args below meth c H locs cells slots mc ms ls Z hF hR hlo hL c1 c2 c3 c4 c5 c6 hz
  unfold ax_oinit at h
  split at h
  · rename_i a r
    have hts := hF.2.2.2.2.2.1
    have hd1 := hF.2.2.2.2.2.2.2.2.2.1
    have hd2 := hF.2.2.2.2.2.2.2.2.2.2
    refine W.objInit hF.1 hF.2.1 hF.2.2.2.2.1 (hts _ hw) (hts _ h2) (hts _ h3) rfl (by show ls.size = _; rw [hL.1]; exact hF.2.2.2.1.symm) rfl hd (by omega) (by show 2 * 0 + _ + 12 ≤ _; omega) (hk L r σ h.2 p e R s m args below meth c H locs cells slots mc ms ls Z hF hR hlo hL c1 c2 c3 c4 c5 c6 hz)
  · exact h.elim
theorem sx_ret {ty : FieldType} {z : Bool} (hd : decode M.2.1 pc = .ok (.ireturn, 1)) (hty : M.2.2.2 = some ty) (hz : (z = false ∧ ty = .int) ∨ (z = true ∧ ty = .boolean)) : ∀ L st σ, ax_ret lim z Q L st σ → am_W g l M d lim Q pc L st σ := by
  intro L st σ h
  intro p e R s m args below meth c H locs cells slots mc ms ls Z hF hR hlo hL c1 c2 c3 c4 c5 c6 hz9
  unfold ax_ret at h
  split at h
  · rename_i x
    obtain ⟨h1, h2, h3, h4⟩ := h
    refine W.cs (cells' := mc) (slots' := ms) (by omega) (by omega) ?_
    refine hz9 pc (some (.int x)) σ H locs ls (Or.inl ⟨hd, x, ty, rfl, hty, ?_⟩) h4 hR hlo h2 h3
    rcases hz with ⟨rfl, rfl⟩ | ⟨rfl, rfl⟩
    · rfl
    · rcases h1 rfl with rfl | rfl <;> rfl
  · exact h.elim
theorem sx_cret {ty : FieldType} (P : Int32 → Prop) (hd : decode M.2.1 pc = .ok (.ireturn, 1)) (hty : M.2.2.2 = some ty) (hP : ∀ x, P x → narrow ty (.int x) = .int x) : ∀ L st σ, (fun L st σ => (∀ x, st = [.int x] → P x) ∧ ax_ret lim false Q L st σ) L st σ → am_W g l M d lim Q pc L st σ := by
  intro L st σ h
  intro p e R s m args below meth c H locs cells slots mc ms ls Z hF hR hlo hL c1 c2 c3 c4 c5 c6 hz9
  obtain ⟨hp, h⟩ := h
  unfold ax_ret at h
  split at h
  · rename_i x
    obtain ⟨h1, h2, h3, h4⟩ := h
    refine W.cs (cells' := mc) (slots' := ms) (by omega) (by omega) ?_
    exact hz9 pc (some (.int x)) σ H locs ls (Or.inl ⟨hd, x, ty, rfl, hty, hP x (hp x rfl)⟩) h4 hR hlo h2 h3
  · exact h.elim
theorem sx_aret {ty : FieldType} (hd : decode M.2.1 pc = .ok (.areturn, 1)) (hty : M.2.2.2 = some ty) (hz : (∃ n, ty = .object n) ∨ ∃ t, ty = .array t) : ∀ L st σ, ax_aret lim Q L st σ → am_W g l M d lim Q pc L st σ := by
  intro L st σ h
  intro p e R s m args below meth c H locs cells slots mc ms ls Z hF hR hlo hL c1 c2 c3 c4 c5 c6 hz9
  unfold ax_aret at h
  split at h
  · rename_i x
    obtain ⟨h2, h3, h4⟩ := h
    refine W.cs (cells' := mc) (slots' := ms) (by omega) (by omega) ?_
    exact hz9 pc (some (.ref x)) σ H locs ls (Or.inr (Or.inl ⟨hd, x, ty, rfl, hty, hz⟩)) h4 hR hlo h2 h3
  · exact h.elim
theorem sx_vret (hd : decode M.2.1 pc = .ok (.return_, 1)) (hty : M.2.2.2 = none) : ∀ L st σ, ax_vret lim Q L st σ → am_W g l M d lim Q pc L st σ := by
  intro L st σ h
  intro p e R s m args below meth c H locs cells slots mc ms ls Z hF hR hlo hL c1 c2 c3 c4 c5 c6 hz9
  unfold ax_vret at h
  obtain ⟨h1, h2, h3, h4⟩ := h
  subst h1
  refine W.cs (cells' := mc) (slots' := ms) (by omega) (by omega) ?_
  exact hz9 pc none σ H locs ls (Or.inr (Or.inr ⟨hd, rfl, hty⟩)) h4 hR hlo h2 h3
theorem am_run {p : Program} {e : Env} {R : Room} {s : State} {m : MethodId} {args : Array Value} {below : List Frame} {meth : Method} {c : Code} {H : Heap} {locs : List Loc} {cells slots mc ms pc : Nat} {ls : Array Slot} {st0 rest : List Value} {Z : State → Prop} {free : Addr → Prop} {Qc : Option Value → am_S → Prop} {lm : Nat × Nat}
    (hr : va_Run p l e R s m args below meth c H locs cells slots mc ms (F0 m pc ls st0) rest (fun _ oc t => ∃ v σ', oc = .returned v ∧ Qc v σ' ∧ am_R g σ' t.heap ∧ am_tp σ' = lm.1 ∧ am_us σ' = lm.2) free)
    (kk : ∀ (v : Option Value) (σ' : am_S) (H1 : Heap) (L1 : List Loc), (∀ q ∈ L1, free q.base) → Qc v σ' → am_R g σ' H1 → am_tp σ' = lm.1 → am_us σ' = lm.2 → W p l e R s m args below meth c H1 (locs ++ L1) (cells + mc) (slots + ms) Z (F0 m (pc + 3) ls (v.toList ++ rest))) :
    W p l e R s m args below meth c H locs cells slots Z (F0 m pc ls st0) := by
  intro T hT X
  obtain ⟨v, st₀, t, T', L1, h0, X', hL, e1, e2, ⟨v', σ', q1, q2, q3, q4, q5⟩, st⟩ := hr T hT X
  cases q1
  obtain ⟨t2, a1, b1⟩ := kk v σ' T'.heap L1 hL q2 (by rw [e1]; exact q3) q4 q5 T' rfl X'
  exact ⟨t2, st t2 a1, b1⟩
/-- what the tables say of a method -/
def am_MD (M' : am_M) (n : Nat) : Prop := Cond.code M'.1 M'.2.1 M'.2.2.1 M'.2.2.2 ∈ am_tb ∧ Cond.initialized M'.1.cls ∈ am_tb ∧ (M'.1.cls ≠ "java/lang/invoke/MethodHandle" ∧ M'.1.cls ≠ "java/lang/invoke/VarHandle" ∧ (parseMethodDescriptor M'.1.desc).map (fun d => d.parameters.length) = some n) ∧ M'.2.2.1 ≤ 41
theorem am_blind {g : am_G} {σ : am_S} {as : List Value} : FrameBlind (fun v U => v = as.toArray ∧ am_R g σ U.heap ∧ am_E g U) := fun a U f mk q => ⟨q.1, q.2.1, am_E.same (u := U) (U := U.calling f mk a) rfl q.2.2⟩
theorem am_good {M' : am_M} {n : Nat} (h : am_MD M' n) : GoodIn am_tb (Cond.code M'.1 M'.2.1 M'.2.2.1 M'.2.2.2 :: am_tb) := by
  intro w hw
  rcases List.mem_cons.mp hw with rfl | hw
  · exact ⟨h.1, am_tb_good h.1⟩
  · exact ⟨hw, am_tb_good hw⟩
theorem am_split {st : List Value} {n : Nat} (h : n ≤ st.length) : st = (st.take n).reverse.reverse ++ st.drop n := by rw [List.reverse_reverse, List.take_append_drop]
theorem sx_callS {M' : am_M} {idx n : Nat} (hd : decode M.2.1 pc = .ok (.invokestatic idx, 3)) (hMD : am_MD M' n) (hw : Cond.methodLink M.1.cls idx M'.1 ∈ am_tb) (h2 : Cond.static M'.1 ∈ am_tb) (hk : ∀ L st σ, K L st σ → am_W g l M d lim Q (pc + 3) L st σ) : ∀ L st σ, ax_call g l d lim M' none n K L st σ → am_W g l M d lim Q pc L st σ := by
  intro L st σ h
  intro p e R s m args below meth c H locs cells slots mc ms ls Z hF hR hlo hL c1 c2 c3 c4 c5 c6 hz
  obtain ⟨d', lim', Qc, hdd, hl1, hl2, hn, hcat, hrecv, ⟨ht, hu, hM⟩, hcont⟩ := h
  have hts := hF.2.2.2.2.2.1
  have hE := hF.2.2.2.2.2.2.1
  have hd1 := hF.2.2.2.2.2.2.2.2.2.1
  have hd2 := hF.2.2.2.2.2.2.2.2.2.2
  have hmx := hMD.2.2.2
  have hsz : ls.size = M.2.2.1 := hL.1
  have hRm : d' + 1 ≤ R.frames ∧ 8 + (M'.2.2.1 + 11) + 60 * d' ≤ R.locals := ⟨by omega, by omega⟩
  have hG : GoodIn am_tb (va_wsS M.1.cls idx M'.1 (Cond.code M'.1 M'.2.1 M'.2.2.1 M'.2.2.2 :: am_tb)) := by
    intro w hw9
    unfold va_wsS at hw9
    rcases List.mem_append.mp hw9 with h9 | h9
    · simp only [List.mem_cons, List.not_mem_nil, or_false] at h9
      rcases h9 with rfl | rfl | rfl
      · exact ⟨hw, am_tb_good hw⟩
      · exact ⟨h2, am_tb_good h2⟩
      · exact ⟨hMD.2.1, am_tb_good hMD.2.1⟩
    · exact am_good hMD w h9
  refine am_run (lm := lim') (va_runS (As := (st.take n).reverse) (rest := st.drop n) ⟨hF.1, hF.2.1, hF.2.2.2.1, hF.2.2.2.2.1, hts⟩ hM (va_cwS n hts hG rfl rfl rfl hMD.2.2.1 hRm) ⟨am_blind, fun U hU hW => ⟨rfl, by rw [hU]; exact hR, hE.warm hW⟩⟩ rfl (by simp; omega) hsz (am_split hn) (lv_room hcat) hd ⟨by omega, by omega⟩) (fun v σ' H1 L1 hf1 hq hR1 ht1 hu1 => ?_)
  exact hk L _ σ' (hcont v σ' hq ht1 hu1) p e R s m args below meth c H1 (locs ++ L1) (cells + _) (slots + _) mc ms ls Z hF hR1 (fun q hq => by rcases List.mem_append.mp hq with h9 | h9; exact hlo q h9; exact hf1 q h9) hL (by omega) (by omega) (by omega) (by omega) c5 c6 hz
theorem sx_callSN {M' : am_M} {idx n : Nat} {host : String} (hd : decode M.2.1 pc = .ok (.invokestatic idx, 3)) (hMD : am_MD M' n) (hw : Cond.methodLinkNest M.1.cls idx M'.1 host ∈ am_nst) (h2 : Cond.static M'.1 ∈ am_tb) (hk : ∀ L st σ, K L st σ → am_W g l M d lim Q (pc + 3) L st σ) : ∀ L st σ, ax_call g l d lim M' none n K L st σ → am_W g l M d lim Q pc L st σ := by
  intro L st σ h
  intro p e R s m args below meth c H locs cells slots mc ms ls Z hF hR hlo hL c1 c2 c3 c4 c5 c6 hz
  obtain ⟨d', lim', Qc, hdd, hl1, hl2, hn, hcat, hrecv, ⟨ht, hu, hM⟩, hcont⟩ := h
  have hts := hF.2.2.2.2.2.1
  have hE := hF.2.2.2.2.2.2.1
  have hd1 := hF.2.2.2.2.2.2.2.2.2.1
  have hd2 := hF.2.2.2.2.2.2.2.2.2.2
  have hmx := hMD.2.2.2
  have hsz : ls.size = M.2.2.1 := hL.1
  have hRm : d' + 1 ≤ R.frames ∧ 8 + (M'.2.2.1 + 11) + 60 * d' ≤ R.locals := ⟨by omega, by omega⟩
  have hcb := va_cnB (R := R) (s := s) (args := args) (Ts := am_tb) (own := M.1.cls) (host := host) (index := idx) (mc := lim'.1 - am_tp σ) (ms := lim'.2 - am_us σ) (rm := { frames := d', cells := lim'.1 - am_tp σ, slots := lim'.2 - am_us σ, locals := 60 * d' }) n hts (am_good hMD) rfl rfl rfl (hE.2.2.2.2.2.2.2.2.2 _ hw) (hts _ hMD.2.1) hMD.2.2.1 hRm
  refine am_run (lm := lim') (va_runSN (As := (st.take n).reverse) (rest := st.drop n) ⟨hF.1, hF.2.1, hF.2.2.2.1, hF.2.2.2.2.1, hts⟩ hM ⟨hcb, hts _ h2, trivial⟩ ⟨am_blind, fun U hU hW => ⟨rfl, by rw [hU]; exact hR, hE.warm hW⟩⟩ rfl (by simp; omega) hsz (am_split hn) (lv_room hcat) hd ⟨by omega, by omega⟩) (fun v σ' H1 L1 hf1 hq hR1 ht1 hu1 => ?_)
  exact hk L _ σ' (hcont v σ' hq ht1 hu1) p e R s m args below meth c H1 (locs ++ L1) (cells + _) (slots + _) mc ms ls Z hF hR1 (fun q hq => by rcases List.mem_append.mp hq with h9 | h9; exact hlo q h9; exact hf1 q h9) hL (by omega) (by omega) (by omega) (by omega) c5 c6 hz
theorem sx_callV {M' : am_M} {idx ci n : Nat} {r : vw_C} (hd : decode M.2.1 pc = .ok (.invokevirtual idx, 3)) (hMD : am_MD M' n) (hr : am_cl[ci]? = some r) (hcl : M'.1.cls = r.1) (hw : Cond.methodLink M.1.cls idx M'.1 ∈ am_tb) (h2 : Cond.instanceMethod M'.1 ∈ am_tb) (h3 : Cond.selects r.1 M'.1 M'.1 ∈ am_tb) (hk : ∀ L st σ, K L st σ → am_W g l M d lim Q (pc + 3) L st σ) : ∀ L st σ, ax_call g l d lim M' (some ci) (n + 1) K L st σ → am_W g l M d lim Q pc L st σ := by
  intro L st σ h
  intro p e R s m args below meth c H locs cells slots mc ms ls Z hF hR hlo hL c1 c2 c3 c4 c5 c6 hz
  obtain ⟨d', lim', Qc, hdd, hl1, hl2, hn, hcat, hrecv, ⟨ht, hu, hM⟩, hcont⟩ := h
  have hts := hF.2.2.2.2.2.1
  have hE := hF.2.2.2.2.2.2.1
  have hd1 := hF.2.2.2.2.2.2.2.2.2.1
  have hd2 := hF.2.2.2.2.2.2.2.2.2.2
  have hmx := hMD.2.2.2
  have hsz : ls.size = M.2.2.1 := hL.1
  have hRm : d' + 1 ≤ R.frames ∧ 8 + (M'.2.2.1 + 11) + 60 * d' ≤ R.locals := ⟨by omega, by omega⟩
  obtain ⟨b, hb, hsh⟩ := hrecv ci rfl
  have hst : st = (st.take n).reverse.reverse ++ .ref b :: st.drop (n + 1) := by
    rw [List.reverse_reverse]
    conv => lhs; rw [← List.take_append_drop n st]
    congr 1
    rw [Nat.add_sub_cancel] at hb
    rw [List.drop_eq_getElem_cons (by omega)]
    rw [List.getElem?_eq_getElem (by omega)] at hb
    rw [Option.some.inj hb]
  have has : (st.take (n + 1)).reverse = .ref b :: (st.take n).reverse := by
    rw [Nat.add_sub_cancel] at hb
    rw [List.take_add_one, hb]
    simp
  rw [has] at hM
  obtain ⟨cell, o1, o2, o3⟩ := am_obj hR hE hsh hr
  have hini : Cond.initialized r.1 ∈ am_tb := by rw [← hcl]; exact hMD.2.1
  have hG : GoodIn am_tb (wsV M.1.cls idx r.1 M'.1 (Cond.code M'.1 M'.2.1 M'.2.2.1 M'.2.2.2 :: am_tb)) := by
    intro w hw9
    unfold wsV at hw9
    rcases List.mem_append.mp hw9 with h9 | h9
    · simp only [List.mem_cons, List.not_mem_nil, or_false] at h9
      rcases h9 with rfl | rfl | rfl | rfl
      · exact ⟨hw, am_tb_good hw⟩
      · exact ⟨h2, am_tb_good h2⟩
      · exact ⟨h3, am_tb_good h3⟩
      · exact ⟨hini, am_tb_good hini⟩
    · exact am_good hMD w h9
  refine am_run (lm := lim') (va_runV (b := b) (C := r.1) (As := (st.take n).reverse) (rest := st.drop (n + 1)) ⟨hF.1, hF.2.1, hF.2.2.2.1, hF.2.2.2.2.1, hts⟩ hM (cwV n hts hG rfl rfl rfl ⟨hcl, hMD.2.2.1⟩ hRm) ⟨am_blind, ⟨cell, o1, o2, o3⟩, fun U hU hW => ⟨rfl, by rw [hU]; exact hR, hE.warm hW⟩⟩ rfl (by simp; omega) hsz hst (lv_room hcat) hd ⟨by omega, by omega⟩) (fun v σ' H1 L1 hf1 hq hR1 ht1 hu1 => ?_)
  exact hk L _ σ' (hcont v σ' hq ht1 hu1) p e R s m args below meth c H1 (locs ++ L1) (cells + _) (slots + _) mc ms ls Z hF hR1 (fun q hq => by rcases List.mem_append.mp hq with h9 | h9; exact hlo q h9; exact hf1 q h9) hL (by omega) (by omega) (by omega) (by omega) c5 c6 hz
theorem sx_callI {M' : am_M} {idx ci n : Nat} {r : vw_C} (hd : decode M.2.1 pc = .ok (.invokespecial idx, 3)) (hMD : am_MD M' n) (hr : am_cl[ci]? = some r) (hret : M'.2.2.2 = none) (hini9 : M'.1.name = "<init>") (hw : Cond.methodLink M.1.cls idx M'.1 ∈ am_tb) (h2 : Cond.instanceMethod M'.1 ∈ am_tb) (hk : ∀ L st σ, K L st σ → am_W g l M d lim Q (pc + 3) L st σ) : ∀ L st σ, ax_call g l d lim M' (some ci) (n + 1) K L st σ → am_W g l M d lim Q pc L st σ := by
  intro L st σ h
  intro p e R s m args below meth c H locs cells slots mc ms ls Z hF hR hlo hL c1 c2 c3 c4 c5 c6 hz
  obtain ⟨d', lim', Qc, hdd, hl1, hl2, hn, hcat, hrecv, ⟨ht, hu, hM⟩, hcont⟩ := h
  have hts := hF.2.2.2.2.2.1
  have hE := hF.2.2.2.2.2.2.1
  have hd1 := hF.2.2.2.2.2.2.2.2.2.1
  have hd2 := hF.2.2.2.2.2.2.2.2.2.2
  have hmx := hMD.2.2.2
  have hsz : ls.size = M.2.2.1 := hL.1
  have hRm : d' + 1 ≤ R.frames ∧ 8 + (M'.2.2.1 + 11) + 60 * d' ≤ R.locals := ⟨by omega, by omega⟩
  obtain ⟨b, hb, hsh⟩ := hrecv ci rfl
  have hst : st = (st.take n).reverse.reverse ++ .ref b :: st.drop (n + 1) := by
    rw [List.reverse_reverse]
    conv => lhs; rw [← List.take_append_drop n st]
    congr 1
    rw [Nat.add_sub_cancel] at hb
    rw [List.drop_eq_getElem_cons (by omega)]
    rw [List.getElem?_eq_getElem (by omega)] at hb
    rw [Option.some.inj hb]
  have has : (st.take (n + 1)).reverse = .ref b :: (st.take n).reverse := by
    rw [Nat.add_sub_cancel] at hb
    rw [List.take_add_one, hb]
    simp
  rw [has] at hM
  obtain ⟨cell, o1, o2, o3⟩ := am_obj hR hE hsh hr
  obtain ⟨y, bts, mx, ret⟩ := M'
  dsimp only at hret hini9 hMD hw h2 hM hRm
  subst hret
  refine am_run (lm := lim') (va_runI (b := b) (As := (st.take n).reverse) (rest := st.drop (n + 1)) ⟨hF.1, hF.2.1, hF.2.2.2.1, hF.2.2.2.2.1, hts⟩ hM (cwI n hts (am_good hMD) rfl rfl rfl (hts _ hMD.2.1) (hts _ hw) (hts _ h2) hini9 hMD.2.2.1 hRm) ⟨am_blind, fun U hU hW => ⟨rfl, by rw [hU]; exact hR, hE.warm hW⟩⟩ rfl (by simp; omega) hsz hst (lv_room hcat) hd ⟨by omega, by omega⟩) (fun v σ' H1 L1 hf1 hq hR1 ht1 hu1 => ?_)
  exact hk L _ σ' (hcont v σ' hq ht1 hu1) p e R s m args below meth c H1 (locs ++ L1) (cells + _) (slots + _) mc ms ls Z hF hR1 (fun q hq => by rcases List.mem_append.mp hq with h9 | h9; exact hlo q h9; exact hf1 q h9) hL (by omega) (by omega) (by omega) (by omega) c5 c6 hz
theorem sx_callIN {M' : am_M} {idx ci n : Nat} {r : vw_C} {host : String} (hd : decode M.2.1 pc = .ok (.invokespecial idx, 3)) (hMD : am_MD M' n) (hr : am_cl[ci]? = some r) (hret : M'.2.2.2 = none) (hini9 : M'.1.name = "<init>") (hw : Cond.methodLinkNest M.1.cls idx M'.1 host ∈ am_nst) (h2 : Cond.instanceMethod M'.1 ∈ am_tb) (hk : ∀ L st σ, K L st σ → am_W g l M d lim Q (pc + 3) L st σ) : ∀ L st σ, ax_call g l d lim M' (some ci) (n + 1) K L st σ → am_W g l M d lim Q pc L st σ := by
  intro L st σ h
  intro p e R s m args below meth c H locs cells slots mc ms ls Z hF hR hlo hL c1 c2 c3 c4 c5 c6 hz
  obtain ⟨d', lim', Qc, hdd, hl1, hl2, hn, hcat, hrecv, ⟨ht, hu, hM⟩, hcont⟩ := h
  have hts := hF.2.2.2.2.2.1
  have hE := hF.2.2.2.2.2.2.1
  have hd1 := hF.2.2.2.2.2.2.2.2.2.1
  have hd2 := hF.2.2.2.2.2.2.2.2.2.2
  have hmx := hMD.2.2.2
  have hsz : ls.size = M.2.2.1 := hL.1
  have hRm : d' + 1 ≤ R.frames ∧ 8 + (M'.2.2.1 + 11) + 60 * d' ≤ R.locals := ⟨by omega, by omega⟩
  obtain ⟨b, hb, hsh⟩ := hrecv ci rfl
  have hst : st = (st.take n).reverse.reverse ++ .ref b :: st.drop (n + 1) := by
    rw [List.reverse_reverse]
    conv => lhs; rw [← List.take_append_drop n st]
    congr 1
    rw [Nat.add_sub_cancel] at hb
    rw [List.drop_eq_getElem_cons (by omega)]
    rw [List.getElem?_eq_getElem (by omega)] at hb
    rw [Option.some.inj hb]
  have has : (st.take (n + 1)).reverse = .ref b :: (st.take n).reverse := by
    rw [Nat.add_sub_cancel] at hb
    rw [List.take_add_one, hb]
    simp
  rw [has] at hM
  obtain ⟨cell, o1, o2, o3⟩ := am_obj hR hE hsh hr
  obtain ⟨y, bts, mx, ret⟩ := M'
  dsimp only at hret hini9 hMD hw h2 hM hRm
  subst hret
  have hcb := va_cnB (R := R) (s := s) (args := args) (Ts := am_tb) (own := M.1.cls) (host := host) (index := idx) (mc := lim'.1 - am_tp σ) (ms := lim'.2 - am_us σ) (rm := { frames := d', cells := lim'.1 - am_tp σ, slots := lim'.2 - am_us σ, locals := 60 * d' }) n hts (am_good hMD) rfl rfl rfl (hE.2.2.2.2.2.2.2.2.2 _ hw) (hts _ hMD.2.1) hMD.2.2.1 hRm
  refine am_run (lm := lim') (va_runIN (b := b) (As := (st.take n).reverse) (rest := st.drop (n + 1)) ⟨hF.1, hF.2.1, hF.2.2.2.1, hF.2.2.2.2.1, hts⟩ hM ⟨hcb, hini9, hts _ h2⟩ ⟨am_blind, fun U hU hW => ⟨rfl, by rw [hU]; exact hR, hE.warm hW⟩⟩ rfl (by simp; omega) hsz hst (lv_room hcat) hd ⟨by omega, by omega⟩) (fun v σ' H1 L1 hf1 hq hR1 ht1 hu1 => ?_)
  exact hk L _ σ' (hcont v σ' hq ht1 hu1) p e R s m args below meth c H1 (locs ++ L1) (cells + _) (slots + _) mc ms ls Z hF hR1 (fun q hq => by rcases List.mem_append.mp hq with h9 | h9; exact hlo q h9; exact hf1 q h9) hL (by omega) (by omega) (by omega) (by omega) c5 c6 hz
/-- new int[N][M]: the outer array, then its rows -/
def am_mna (σ : am_S) (N M : Nat) : am_S := (fun b => if b = am_tp σ then some (.inr (3, N)) else if am_tp σ < b ∧ b ≤ am_tp σ + N then some (.inr (0, M)) else am_sh σ b, fun b j => if am_tp σ ≤ b ∧ b ≤ am_tp σ + N then 0 else am_i σ b j,
  fun b j => if b = am_tp σ then (if j < N then some (am_tp σ + 1 + j) else none) else if am_tp σ < b ∧ b ≤ am_tp σ + N then none else am_r σ b j, am_tp σ + 1 + N, am_us σ + N + N * M)
theorem am_sh_mna (σ : am_S) (N M b : Nat) : am_sh (am_mna σ N M) b = if b = am_tp σ then some (.inr (3, N)) else if am_tp σ < b ∧ b ≤ am_tp σ + N then some (.inr (0, M)) else am_sh σ b := rfl
theorem am_i_mna (σ : am_S) (N M b j : Nat) : am_i (am_mna σ N M) b j = if am_tp σ ≤ b ∧ b ≤ am_tp σ + N then 0 else am_i σ b j := rfl
theorem am_r_mna (σ : am_S) (N M b j : Nat) : am_r (am_mna σ N M) b j = if b = am_tp σ then (if j < N then some (am_tp σ + 1 + j) else none) else if am_tp σ < b ∧ b ≤ am_tp σ + N then none else am_r σ b j := rfl
theorem am_tp_mna (σ : am_S) (N M : Nat) : am_tp (am_mna σ N M) = am_tp σ + 1 + N := rfl
theorem am_us_mna (σ : am_S) (N M : Nat) : am_us (am_mna σ N M) = am_us σ + N + N * M := rfl
def ax_mna (lim : Nat × Nat) (K : am_K) : am_K := fun L st σ => match st with
  | .int k :: .int n :: r => 0 ≤ n.toInt ∧ n.toInt ≤ 10000 ∧ 0 ≤ k.toInt ∧ k.toInt ≤ 10000 ∧ am_tp σ + 1 + n.toNatClampNeg ≤ lim.1 ∧ am_us σ + n.toNatClampNeg + n.toNatClampNeg * k.toNatClampNeg ≤ lim.2 ∧ K L (.ref (am_tp σ) :: r) (am_mna σ n.toNatClampNeg k.toNatClampNeg)
  | _ => False
theorem am_outer (c : ClassId) (N h0 : Nat) : ∀ i : Nat, Jvm.Free.Multi.outerC c N h0 i = arrV c N (fun j => va_rf (if j < i then some (h0 + 1 + j) else none))
  | 0 => by
    show ({ cls := c, slots := Array.replicate N .null, vm := .none } : Cell) = _
    rw [arrV_new]
    refine congrArg (arrV c N) (funext fun j => ?_)
    simp [va_rf]
  | i + 1 => by
    show (Jvm.Free.Multi.outerC c N h0 i).setSlot i (.ref (h0 + 1 + i)) = _
    rw [am_outer c N h0 i, arrV_store]
    refine congrArg (arrV c N) (funext fun j => ?_)
    by_cases e : j = i
    · subst e
      simp [updV, va_rf]
    · by_cases h : j < i
      · simp [updV, e, h, Nat.lt_succ_of_lt h]
      · simp [updV, e, h, show ¬ j < i + 1 by omega]
theorem sx_mna {idx : Nat} (hd : decode M.2.1 pc = .ok (.multianewarray idx 2, 4)) (hw : Cond.classLink M.1.cls idx ("[" ++ (FieldType.array .int).toString) ∈ am_tb) (hw2 : Cond.arrayClass .int ∈ am_tb) (hk : ∀ L st σ, K L st σ → am_W g l M d lim Q (pc + 4) L st σ) : ∀ L st σ, ax_mna lim K L st σ → am_W g l M d lim Q pc L st σ := by
  intro L st σ h
  intro p e R s m args below meth c H locs cells slots mc ms ls Z hF hR hlo hL c1 c2 c3 c4 c5 c6 hz
  unfold ax_mna at h
  split at h
  · rename_i k n rs
    obtain ⟨n1, n2, k1, k2, h1, h2, h3⟩ := h
    have hts := hF.2.2.2.2.2.1
    have hE := hF.2.2.2.2.2.2.1
    have hn0 : ¬ n < 0 := by rw [Int32.lt_iff_toInt_lt, Int32.toInt_zero]; omega
    have hk0 : ¬ k < 0 := by rw [Int32.lt_iff_toInt_lt, Int32.toInt_zero]; omega
    have hcl : n.toNatClampNeg = n.toInt.toNat := rfl
    have hck : k.toNatClampNeg = k.toInt.toNat := rfl
    have hsz : H.size = am_tp σ := hR.1
    have hov : (Cond.arrayOver (.array .int)).before args s = true := hE.2.2.2.2.2.2.2.2.1
    have hb := hF.2.1
    intro T hT Xs
    have hrs : slots + (n.toNatClampNeg + n.toNatClampNeg * k.toNatClampNeg) ≤ R.slots := by omega
    obtain ⟨vm₁, cA, comp, -, fA, fC, hO, -, X', step⟩ := Xs.multianewarray2F hF.1 hF.2.2.2.2.1 (hts _ hw) hov (hts _ hw2) (g := F0 m pc ls (.int k :: .int n :: rs)) rfl (by rw [hb]; exact hd) rfl hn0 hk0 (by omega) (by show k.toNatClampNeg * 4 ≤ _; omega) (by omega) rfl rfl (by omega) hrs
    obtain ⟨-, ra0⟩ := hE.2.1 0 _ rfl (by decide)
    obtain ⟨-, ra3⟩ := hE.2.1 3 _ rfl (by decide)
    have hc0 : some comp = some (g.2.1 0) := fC.symm.trans ra0
    have hc3 : some cA = some (g.2.1 3) := fA.symm.trans ra3
    cases hc0
    cases hc3
    generalize hF9 : Jvm.Free.Multi.fill (T.setVm vm₁) (g.2.1 3) (g.2.1 0) n.toNatClampNeg k.toNatClampNeg (defaultValue .int) n.toNatClampNeg = F at X' step
    have hTh : (T.setVm vm₁).heap = H := hT
    obtain ⟨f1, f2, -, -⟩ := Jvm.Free.Multi.fill_facts (T.setVm vm₁) (g.2.1 3) (g.2.1 0) n.toNatClampNeg k.toNatClampNeg (defaultValue .int) n.toNatClampNeg
    rw [hF9, hTh] at f1 f2
    have hold : ∀ x : Nat, x < H.size → F.heap[x]? = H[x]? := fun x hx => by
      have := Jvm.Free.Multi.fill_old (T.setVm vm₁) (g.2.1 3) (g.2.1 0) n.toNatClampNeg k.toNatClampNeg (defaultValue .int) (a := x) (by rw [hTh]; exact hx) n.toNatClampNeg
      rw [hF9, hTh] at this
      exact this
    have hrow : ∀ j : Nat, j < n.toNatClampNeg → F.heap[H.size + 1 + j]? = some (arrV (g.2.1 0) k.toNatClampNeg (fun _ => .int 0)) := fun j hj => by
      have := Jvm.Free.Multi.fill_inner (T.setVm vm₁) (g.2.1 3) (g.2.1 0) n.toNatClampNeg k.toNatClampNeg (defaultValue .int) n.toNatClampNeg j hj
      rw [hF9, hTh] at this
      rw [this, ← arrV_new]
      rfl
    rw [am_outer] at f2
    rw [hsz] at f1 f2 hold hrow
    have hR1 : am_R g (am_mna σ n.toNatClampNeg k.toNatClampNeg) F.heap := by
      refine ⟨by rw [f1, am_tp_mna], by rw [am_tp_mna]; have := hR.2.1; omega, fun q hq => ?_, fun b y hb9 hy => ?_, fun b y hb9 hy => ?_⟩
      · have := hR.2.1
        rw [hold q (by omega)]
        exact hR.2.2.1 q hq
      · rw [am_sh_mna] at hb9
        have := hR.2.1
        by_cases e1 : b = am_tp σ
        · rw [if_pos e1] at hb9
          cases hb9
          subst e1
          refine ⟨by omega, by show 3 ≤ 8; decide, ?_⟩
          rw [f2]
          refine congrArg some (congrArg (arrV (g.2.1 3) n.toNatClampNeg) (funext fun j => ?_))
          rw [show am_ar 3 = true from rfl, am_gvT, am_r_mna, if_pos rfl]
        · rw [if_neg e1] at hb9
          by_cases e2 : am_tp σ < b ∧ b ≤ am_tp σ + n.toNatClampNeg
          · rw [if_pos e2] at hb9
            cases hb9
            refine ⟨by omega, by show 0 ≤ 8; decide, ?_⟩
            have hj := hrow (b - (am_tp σ + 1)) (by omega)
            rw [show am_tp σ + 1 + (b - (am_tp σ + 1)) = b by omega] at hj
            rw [hj]
            refine congrArg some (congrArg (arrV (g.2.1 0) k.toNatClampNeg) (funext fun j => ?_))
            rw [show am_ar 0 = false from rfl, am_gvF, am_i_mna, if_pos ⟨by omega, e2.2⟩]
          · rw [if_neg e2] at hb9
            have g4 := hR.2.2.2.1 b y hb9 hy
            have g5 := g4.2.lt
            rw [hsz] at g5
            exact ⟨g4.1, g4.2.kept (hold b g5) (funext fun j => by rw [am_i_mna, if_neg (by omega)]) (funext fun j => by rw [am_r_mna, if_neg (by omega), if_neg (by omega)])⟩
      · rw [am_sh_mna] at hb9
        by_cases e1 : b = am_tp σ
        · rw [if_pos e1] at hb9
          cases hb9
          cases hy
        · rw [if_neg e1] at hb9
          by_cases e2 : am_tp σ < b ∧ b ≤ am_tp σ + n.toNatClampNeg
          · rw [if_pos e2] at hb9
            cases hb9
            cases hy
          · rw [if_neg e2] at hb9
            have g5 := hR.2.2.2.2 b y hb9 hy
            exact ⟨g5.1, (funext fun j => by rw [am_i_mna, if_neg (by omega)] : am_i (am_mna σ n.toNatClampNeg k.toNatClampNeg) b = am_i σ b).trans g5.2.1, (funext fun j => by rw [am_r_mna, if_neg e1, if_neg e2] : am_r (am_mna σ n.toNatClampNeg k.toNatClampNeg) b = am_r σ b).trans g5.2.2⟩
    obtain ⟨t, a1, b1⟩ := hk L _ _ h3 p e R s m args below meth c F.heap locs _ _ mc ms ls Z hF hR1 hlo hL (by rw [am_tp_mna]; omega) (by rw [am_us_mna]; omega) (by rw [am_tp_mna]; omega) (by rw [am_us_mna]; omega) c5 c6 hz F rfl X'
    refine ⟨t, step t ?_, b1⟩
    have e : T.heap.size = am_tp σ := by rw [hT, hsz]
    rw [e]
    exact a1
  · exact h.elim

theorem sx_copy {idx : Nat} (hd : decode M.2.1 pc = .ok (.invokestatic idx, 3)) (hw : Cond.methodLink M.1.cls idx arraycopyName ∈ am_tb) (hw1 : Cond.native arraycopyName ∈ am_tb) (hw2 : Cond.static arraycopyName ∈ am_tb) (hw3 : Cond.initialized "java/lang/System" ∈ am_tb) (hdp : 1 ≤ d) (hk : ∀ L st σ, K L st σ → am_W g l M d lim Q (pc + 3) L st σ) : ∀ L st σ, ax_copy K L st σ → am_W g l M d lim Q pc L st σ := by
  intro L st σ h
  intro p e R s m args below meth c H locs cells slots mc ms ls Z hF hR hlo hL c1 c2 c3 c4 c5 c6 hz
  unfold ax_copy at h
  split at h
  · rename_i n dp b sp a r
    obtain ⟨na, nb, hne, h1, h2, n0, dp0, sp0, hs1, hs2, hcat, h3⟩ := h
    have hts := hF.2.2.2.2.2.1
    have hE := hF.2.2.2.2.2.2.1
    have hd1 := hF.2.2.2.2.2.2.2.2.2.1
    have hd2 := hF.2.2.2.2.2.2.2.2.2.2
    have hb := hF.2.1
    have en : n.toNatClampNeg = n.toInt.toNat := rfl
    have ed : dp.toNatClampNeg = dp.toInt.toNat := rfl
    have es : sp.toNatClampNeg = sp.toInt.toNat := rfl
    have q1 : ¬ sp < 0 := by rw [Int32.lt_iff_toInt_lt, Int32.toInt_zero]; omega
    have q2 : ¬ dp < 0 := by rw [Int32.lt_iff_toInt_lt, Int32.toInt_zero]; omega
    have q3 : ¬ n < 0 := by rw [Int32.lt_iff_toInt_lt, Int32.toInt_zero]; omega
    have hc0 : H[a]? = some (arrV (g.2.1 0) na (fun j => .int (am_i σ a j))) := (hR.2.2.2.1 a _ h1 rfl).2.2
    have hc1 : H[b]? = some (arrV (g.2.1 0) nb (fun j => .int (am_i σ b j))) := (hR.2.2.2.1 b _ h2 rfl).2.2
    obtain ⟨-, k0, hk0, cm0, hkk0⟩ := (hE.2.1 0 _ rfl (by decide)).1 na (fun j => .int (am_i σ a j))
    obtain ⟨-, k1, hk1, cm1, hkk1⟩ := (hE.2.1 0 _ rfl (by decide)).1 nb (fun j => .int (am_i σ b j))
    have hnat : nativeFrameWords "java/lang/System" "arraycopy" 5 ≤ 30 := by decide
    intro T hT X
    obtain ⟨vm', X', step⟩ := X.arraycopy hF.1 hF.2.2.2.2.1 (hts _ hw) (hts _ hw1) (hts _ hw2) (hts _ hw3) (src := a) (dst := b) (cs := arrV (g.2.1 0) na (fun j => .int (am_i σ a j))) (cd := arrV (g.2.1 0) nb (fun j => .int (am_i σ b j))) (srcPos := sp) (destPos := dp) (n := n) (by rw [hT]; exact hc0) (by rw [hT]; exact hc1)
      (fun _ h => by cases h) (fun _ h => by cases h) (fun h => by cases h) (fun h => by cases h) hk0 hk1 hkk0 hkk1 (by simp [refKind]) q1 q2 q3
      (by rw [arrV_size]; omega) (by rw [arrV_size]; omega)
      (fun vm₁ _ i hi => by
        have e : (arrV (g.2.1 0) na (fun j => Value.int (am_i σ a j))).slots.getD (sp.toNatClampNeg + i) .null = .int (am_i σ a (sp.toNatClampNeg + i)) := by
          rw [Array.getD_eq_getD_getElem?, arrV_read _ _ (by omega)]
          rfl
        refine ⟨?_, ?_⟩
        · rw [e] <;> rfl
        · rw [e] <;> exact trivial)
      (g := F0 m pc ls (.int n :: .int dp :: .ref b :: .int sp :: .ref a :: r)) rfl (by show ls.size = _; rw [hL.1]; exact hF.2.2.2.1.symm) (rest := r) rfl (by rw [hb]; exact hd) (by omega) (by show 2 * 0 + _ + _ ≤ _; omega)
    have e1 : copied (arrV (g.2.1 0) na (fun j => .int (am_i σ a j))) (arrV (g.2.1 0) nb (fun j => .int (am_i σ b j))) sp dp n = arrV (g.2.1 0) nb (fun j => .int (va_cpy (am_i σ a) (am_i σ b) sp.toNatClampNeg dp.toNatClampNeg n.toNatClampNeg j)) := va_copied (fun z => .int z) (g.2.1 0) (g.2.1 0) (am_i σ a) (am_i σ b) (by omega)
    rw [e1] at X' step
    have hl : b < H.size := (Array.getElem?_eq_some_iff.mp hc1).1
    generalize hC : arrV (g.2.1 0) nb (fun j => Value.int (va_cpy (am_i σ a) (am_i σ b) sp.toNatClampNeg dp.toNatClampNeg n.toNatClampNeg j)) = C9 at X' step
    have hheap : ((T.setVm vm').setCell b C9).heap = H.setIfInBounds b C9 := by rw [← hT]; rfl
    have oq : ∀ q : Nat, q ≠ b → (H.setIfInBounds b C9)[q]? = H[q]? := fun q hq => by simp [Array.getElem?_setIfInBounds, Ne.symm hq]
    generalize hσ : ((σ.1, fun c j => if c = b ∧ dp.toNatClampNeg ≤ j ∧ j < dp.toNatClampNeg + n.toNatClampNeg then am_i σ a (sp.toNatClampNeg + (j - dp.toNatClampNeg)) else am_i σ c j, σ.2.2) : am_S) = σ1 at h3
    have hi1 : am_i σ1 = fun c j => if c = b ∧ dp.toNatClampNeg ≤ j ∧ j < dp.toNatClampNeg + n.toNatClampNeg then am_i σ a (sp.toNatClampNeg + (j - dp.toNatClampNeg)) else am_i σ c j := by rw [← hσ]; rfl
    have hr1 : am_r σ1 = am_r σ := by rw [← hσ]; rfl
    have ht1 : am_tp σ1 = am_tp σ := by rw [← hσ]; rfl
    have hu1 : am_us σ1 = am_us σ := by rw [← hσ]; rfl
    have hR1 : am_R g σ1 (H.setIfInBounds b C9) := by
      refine hR.set h2 rfl (by simp) oq ⟨by show 0 ≤ 8; decide, ?_⟩ (by rw [← hσ]; rfl) ht1 (fun c hc => funext fun j => by rw [hi1]; dsimp only; rw [if_neg (fun q => hc q.1)]) (fun c hc => by rw [hr1])
      rw [show (H.setIfInBounds b C9)[b]? = some C9 by simp [Array.getElem?_setIfInBounds, hl], ← hC]
      refine congrArg some (congrArg (arrV (g.2.1 0) nb) (funext fun j => ?_))
      rw [show am_ar 0 = false from rfl, am_gvF, hi1]
      unfold va_cpy
      simp
    obtain ⟨t, a1, b1⟩ := hk L r σ1 h3 p e R s m args below meth c (H.setIfInBounds b C9) _ cells slots mc ms ls Z hF hR1 (fun q hq => by rcases List.mem_append.mp hq with h9 | h9; exact hlo q h9; obtain ⟨z, -, hz9⟩ := List.mem_map.mp h9; rw [← hz9]; exact (hR.2.2.2.1 b _ h2 rfl).1) hL (by rw [ht1]; exact c1) (by rw [hu1]; exact c2) (by rw [ht1]; exact c3) (by rw [hu1]; exact c4) c5 c6 hz _ hheap X'
    exact ⟨t, step t a1, b1⟩
  · exact h.elim
end SX
