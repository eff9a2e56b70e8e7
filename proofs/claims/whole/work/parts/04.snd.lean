section SX
variable {g : am_G} {l : Launch} {M : am_M} {d : Nat} {lim : Nat × Nat} {Q : Option Value → am_S → Prop} {pc : Nat} {K T : am_K}
theorem sx_iconst {n : Int} {v : Int32} (hd : decode M.2.1 pc = .ok (.iconst n, 1)) (hv : Int32.ofInt n = v) (hk : ∀ L st σ, K L st σ → am_W g l M d lim Q (pc + 1) L st σ) : ∀ L st σ, ax_const (.int v) K L st σ → am_W g l M d lim Q pc L st σ := by
  intro L st σ h
  intro p e R s m args below meth c H locs cells slots mc ms ls Z hF hR hlo hL c1 c2 c3 c4 c5 c6 hz
  exact lv_iconst hF.1 hF.2.1 hd hv (hk L (.int v :: st) σ h p e R s m args below meth c H locs cells slots mc ms ls Z hF hR hlo hL c1 c2 c3 c4 c5 c6 hz)
theorem sx_bipush {n : Int} {v : Int32} (hd : decode M.2.1 pc = .ok (.bipush n, 2)) (hv : (Int8.ofInt n).toInt32 = v) (hk : ∀ L st σ, K L st σ → am_W g l M d lim Q (pc + 2) L st σ) : ∀ L st σ, ax_const (.int v) K L st σ → am_W g l M d lim Q pc L st σ := by
  intro L st σ h
  intro p e R s m args below meth c H locs cells slots mc ms ls Z hF hR hlo hL c1 c2 c3 c4 c5 c6 hz
  exact lv_bipush hF.1 hF.2.1 hd hv (hk L (.int v :: st) σ h p e R s m args below meth c H locs cells slots mc ms ls Z hF hR hlo hL c1 c2 c3 c4 c5 c6 hz)
theorem sx_sipush {n : Int} {v : Int32} (hd : decode M.2.1 pc = .ok (.sipush n, 3)) (hv : (Int16.ofInt n).toInt32 = v) (hk : ∀ L st σ, K L st σ → am_W g l M d lim Q (pc + 3) L st σ) : ∀ L st σ, ax_const (.int v) K L st σ → am_W g l M d lim Q pc L st σ := by
  intro L st σ h
  intro p e R s m args below meth c H locs cells slots mc ms ls Z hF hR hlo hL c1 c2 c3 c4 c5 c6 hz
  exact lv_sipush hF.1 hF.2.1 hd hv (hk L (.int v :: st) σ h p e R s m args below meth c H locs cells slots mc ms ls Z hF hR hlo hL c1 c2 c3 c4 c5 c6 hz)
theorem sx_ldc2 {index : Nat} {v : Int64} (hd : decode M.2.1 pc = .ok (.ldc2_w index, 3)) (hw : Cond.constantLong M.1.cls index v ∈ am_tb) (hk : ∀ L st σ, K L st σ → am_W g l M d lim Q (pc + 3) L st σ) : ∀ L st σ, ax_const (.long v) K L st σ → am_W g l M d lim Q pc L st σ := by
  intro L st σ h
  intro p e R s m args below meth c H locs cells slots mc ms ls Z hF hR hlo hL c1 c2 c3 c4 c5 c6 hz
  exact lv_ldc2 hF.1 hF.2.1 hF.2.2.2.2.1 (hF.2.2.2.2.2.1 _ hw) hd (hk L (.long v :: st) σ h p e R s m args below meth c H locs cells slots mc ms ls Z hF hR hlo hL c1 c2 c3 c4 c5 c6 hz)
theorem sx_iload_n {k : Fin 4} {i : Nat} (hd : decode M.2.1 pc = .ok (.iload_n k, 1)) (hi : (k : Nat) = i) (hk : ∀ L st σ, K L st σ → am_W g l M d lim Q (pc + 1) L st σ) : ∀ L st σ, ax_iload i K L st σ → am_W g l M d lim Q pc L st σ := by
  intro L st σ h
  intro p e R s m args below meth c H locs cells slots mc ms ls Z hF hR hlo hL c1 c2 c3 c4 c5 c6 hz
  unfold ax_iload at h
  split at h
  · rename_i x hx
    exact lv_iload_n hF.1 hF.2.1 hd hi (hL.at hx) (hk L (.int x :: st) σ h p e R s m args below meth c H locs cells slots mc ms ls Z hF hR hlo hL c1 c2 c3 c4 c5 c6 hz)
  · exact h.elim
theorem sx_iload {i : Nat} (hd : decode M.2.1 pc = .ok (.iload i, 2)) (hk : ∀ L st σ, K L st σ → am_W g l M d lim Q (pc + 2) L st σ) : ∀ L st σ, ax_iload i K L st σ → am_W g l M d lim Q pc L st σ := by
  intro L st σ h
  intro p e R s m args below meth c H locs cells slots mc ms ls Z hF hR hlo hL c1 c2 c3 c4 c5 c6 hz
  unfold ax_iload at h
  split at h
  · rename_i x hx
    exact lv_iload hF.1 hF.2.1 hd (hL.at hx) (hk L (.int x :: st) σ h p e R s m args below meth c H locs cells slots mc ms ls Z hF hR hlo hL c1 c2 c3 c4 c5 c6 hz)
  · exact h.elim
theorem sx_lload_n {k : Fin 4} {i : Nat} (hd : decode M.2.1 pc = .ok (.lload_n k, 1)) (hi : (k : Nat) = i) (hk : ∀ L st σ, K L st σ → am_W g l M d lim Q (pc + 1) L st σ) : ∀ L st σ, ax_lload i K L st σ → am_W g l M d lim Q pc L st σ := by
  intro L st σ h
  intro p e R s m args below meth c H locs cells slots mc ms ls Z hF hR hlo hL c1 c2 c3 c4 c5 c6 hz
  unfold ax_lload at h
  split at h
  · rename_i x hx
    exact lv_lload_n hF.1 hF.2.1 hd hi (hL.at hx) (hk L (.long x :: st) σ h p e R s m args below meth c H locs cells slots mc ms ls Z hF hR hlo hL c1 c2 c3 c4 c5 c6 hz)
  · exact h.elim
theorem sx_lload {i : Nat} (hd : decode M.2.1 pc = .ok (.lload i, 2)) (hk : ∀ L st σ, K L st σ → am_W g l M d lim Q (pc + 2) L st σ) : ∀ L st σ, ax_lload i K L st σ → am_W g l M d lim Q pc L st σ := by
  intro L st σ h
  intro p e R s m args below meth c H locs cells slots mc ms ls Z hF hR hlo hL c1 c2 c3 c4 c5 c6 hz
  unfold ax_lload at h
  split at h
  · rename_i x hx
    exact lv_lload hF.1 hF.2.1 hd (hL.at hx) (hk L (.long x :: st) σ h p e R s m args below meth c H locs cells slots mc ms ls Z hF hR hlo hL c1 c2 c3 c4 c5 c6 hz)
  · exact h.elim
theorem sx_aload_n {k : Fin 4} {i : Nat} (hd : decode M.2.1 pc = .ok (.aload_n k, 1)) (hi : (k : Nat) = i) (hk : ∀ L st σ, K L st σ → am_W g l M d lim Q (pc + 1) L st σ) : ∀ L st σ, ax_aload i K L st σ → am_W g l M d lim Q pc L st σ := by
  intro L st σ h
  intro p e R s m args below meth c H locs cells slots mc ms ls Z hF hR hlo hL c1 c2 c3 c4 c5 c6 hz
  unfold ax_aload at h
  split at h
  · rename_i x hx
    exact lv_aload_n hF.1 hF.2.1 hd hi (hL.at hx) (hk L (.ref x :: st) σ h p e R s m args below meth c H locs cells slots mc ms ls Z hF hR hlo hL c1 c2 c3 c4 c5 c6 hz)
  · exact h.elim
theorem sx_aload {i : Nat} (hd : decode M.2.1 pc = .ok (.aload i, 2)) (hk : ∀ L st σ, K L st σ → am_W g l M d lim Q (pc + 2) L st σ) : ∀ L st σ, ax_aload i K L st σ → am_W g l M d lim Q pc L st σ := by
  intro L st σ h
  intro p e R s m args below meth c H locs cells slots mc ms ls Z hF hR hlo hL c1 c2 c3 c4 c5 c6 hz
  unfold ax_aload at h
  split at h
  · rename_i x hx
    exact lv_aload hF.1 hF.2.1 hd (hL.at hx) (hk L (.ref x :: st) σ h p e R s m args below meth c H locs cells slots mc ms ls Z hF hR hlo hL c1 c2 c3 c4 c5 c6 hz)
  · exact h.elim
theorem sx_istore_n {k : Fin 4} {i : Nat} (hd : decode M.2.1 pc = .ok (.istore_n k, 1)) (hi : (k : Nat) = i) (hn : i < M.2.2.1) (hk : ∀ L st σ, K L st σ → am_W g l M d lim Q (pc + 1) L st σ) : ∀ L st σ, ax_istore i K L st σ → am_W g l M d lim Q pc L st σ := by
  intro L st σ h
  intro p e R s m args below meth c H locs cells slots mc ms ls Z hF hR hlo hL c1 c2 c3 c4 c5 c6 hz
  unfold ax_istore at h
  split at h
  · rename_i x r
    exact lv_istore_n hF.1 hF.2.1 hd hi hL.has hn rfl (fun ls2 hl2 => hk (am_st L i (.int x)) r σ h p e R s m args below meth c H locs cells slots mc ms ls2 Z hF hR hlo (hL.put rfl hl2) c1 c2 c3 c4 c5 c6 hz)
  · exact h.elim
theorem sx_istore {i : Nat} (hd : decode M.2.1 pc = .ok (.istore i, 2)) (hn : i < M.2.2.1) (hk : ∀ L st σ, K L st σ → am_W g l M d lim Q (pc + 2) L st σ) : ∀ L st σ, ax_istore i K L st σ → am_W g l M d lim Q pc L st σ := by
  intro L st σ h
  intro p e R s m args below meth c H locs cells slots mc ms ls Z hF hR hlo hL c1 c2 c3 c4 c5 c6 hz
  unfold ax_istore at h
  split at h
  · rename_i x r
    exact lv_istore hF.1 hF.2.1 hd hL.has hn rfl (fun ls2 hl2 => hk (am_st L i (.int x)) r σ h p e R s m args below meth c H locs cells slots mc ms ls2 Z hF hR hlo (hL.put rfl hl2) c1 c2 c3 c4 c5 c6 hz)
  · exact h.elim
theorem sx_astore_n {k : Fin 4} {i : Nat} (hd : decode M.2.1 pc = .ok (.astore_n k, 1)) (hi : (k : Nat) = i) (hn : i < M.2.2.1) (hk : ∀ L st σ, K L st σ → am_W g l M d lim Q (pc + 1) L st σ) : ∀ L st σ, ax_astore i K L st σ → am_W g l M d lim Q pc L st σ := by
  intro L st σ h
  intro p e R s m args below meth c H locs cells slots mc ms ls Z hF hR hlo hL c1 c2 c3 c4 c5 c6 hz
  unfold ax_astore at h
  split at h
  · rename_i x r
    exact lv_astore_n hF.1 hF.2.1 hd hi hL.has hn rfl (fun ls2 hl2 => hk (am_st L i (.ref x)) r σ h p e R s m args below meth c H locs cells slots mc ms ls2 Z hF hR hlo (hL.put rfl hl2) c1 c2 c3 c4 c5 c6 hz)
  · exact h.elim
theorem sx_astore {i : Nat} (hd : decode M.2.1 pc = .ok (.astore i, 2)) (hn : i < M.2.2.1) (hk : ∀ L st σ, K L st σ → am_W g l M d lim Q (pc + 2) L st σ) : ∀ L st σ, ax_astore i K L st σ → am_W g l M d lim Q pc L st σ := by
  intro L st σ h
  intro p e R s m args below meth c H locs cells slots mc ms ls Z hF hR hlo hL c1 c2 c3 c4 c5 c6 hz
  unfold ax_astore at h
  split at h
  · rename_i x r
    exact lv_astore hF.1 hF.2.1 hd hL.has hn rfl (fun ls2 hl2 => hk (am_st L i (.ref x)) r σ h p e R s m args below meth c H locs cells slots mc ms ls2 Z hF hR hlo (hL.put rfl hl2) c1 c2 c3 c4 c5 c6 hz)
  · exact h.elim
theorem sx_iinc {i : Nat} {n : Int} {v : Int32} (hd : decode M.2.1 pc = .ok (.iinc i n, 3)) (hn : i < M.2.2.1) (hv : Int32.ofInt n = v) (hk : ∀ L st σ, K L st σ → am_W g l M d lim Q (pc + 3) L st σ) : ∀ L st σ, ax_iinc i v K L st σ → am_W g l M d lim Q pc L st σ := by
  intro L st σ h
  intro p e R s m args below meth c H locs cells slots mc ms ls Z hF hR hlo hL c1 c2 c3 c4 c5 c6 hz
  unfold ax_iinc at h
  split at h
  · rename_i x hx
    obtain ⟨j, hj⟩ := List.getElem?_of_mem (am_as_mem.mpr ⟨i, (Nat.zero_add i).symm, hx⟩ : (i, Value.int x) ∈ am_as 0 L)
    exact lv_iinc (k := j) hF.1 hF.2.1 hd hL.has hj (by rw [hv]) hn rfl (fun ls2 hl2 => hk (am_st L i (.int (x + v))) st σ h p e R s m args below meth c H locs cells slots mc ms ls2 Z hF hR hlo (hL.put rfl hl2) c1 c2 c3 c4 c5 c6 hz)
  · exact h.elim
theorem sx_iadd (hd : decode M.2.1 pc = .ok (.iadd, 1)) (hk : ∀ L st σ, K L st σ → am_W g l M d lim Q (pc + 1) L st σ) : ∀ L st σ, ax_i2 (fun x y => x + y) K L st σ → am_W g l M d lim Q pc L st σ := by
  intro L st σ h
  intro p e R s m args below meth c H locs cells slots mc ms ls Z hF hR hlo hL c1 c2 c3 c4 c5 c6 hz
  unfold ax_i2 at h
  split at h
  · rename_i y x r
    exact lv_iadd hF.1 hF.2.1 hd (hk L _ σ h p e R s m args below meth c H locs cells slots mc ms ls Z hF hR hlo hL c1 c2 c3 c4 c5 c6 hz)
  · exact h.elim
theorem sx_isub (hd : decode M.2.1 pc = .ok (.isub, 1)) (hk : ∀ L st σ, K L st σ → am_W g l M d lim Q (pc + 1) L st σ) : ∀ L st σ, ax_i2 (fun x y => x - y) K L st σ → am_W g l M d lim Q pc L st σ := by
  intro L st σ h
  intro p e R s m args below meth c H locs cells slots mc ms ls Z hF hR hlo hL c1 c2 c3 c4 c5 c6 hz
  unfold ax_i2 at h
  split at h
  · rename_i y x r
    exact lv_isub hF.1 hF.2.1 hd (hk L _ σ h p e R s m args below meth c H locs cells slots mc ms ls Z hF hR hlo hL c1 c2 c3 c4 c5 c6 hz)
  · exact h.elim
theorem sx_imul (hd : decode M.2.1 pc = .ok (.imul, 1)) (hk : ∀ L st σ, K L st σ → am_W g l M d lim Q (pc + 1) L st σ) : ∀ L st σ, ax_i2 (fun x y => x * y) K L st σ → am_W g l M d lim Q pc L st σ := by
  intro L st σ h
  intro p e R s m args below meth c H locs cells slots mc ms ls Z hF hR hlo hL c1 c2 c3 c4 c5 c6 hz
  unfold ax_i2 at h
  split at h
  · rename_i y x r
    exact lv_imul hF.1 hF.2.1 hd (hk L _ σ h p e R s m args below meth c H locs cells slots mc ms ls Z hF hR hlo hL c1 c2 c3 c4 c5 c6 hz)
  · exact h.elim
theorem sx_iand (hd : decode M.2.1 pc = .ok (.iand, 1)) (hk : ∀ L st σ, K L st σ → am_W g l M d lim Q (pc + 1) L st σ) : ∀ L st σ, ax_i2 (fun x y => x &&& y) K L st σ → am_W g l M d lim Q pc L st σ := by
  intro L st σ h
  intro p e R s m args below meth c H locs cells slots mc ms ls Z hF hR hlo hL c1 c2 c3 c4 c5 c6 hz
  unfold ax_i2 at h
  split at h
  · rename_i y x r
    exact lv_iand hF.1 hF.2.1 hd (hk L _ σ h p e R s m args below meth c H locs cells slots mc ms ls Z hF hR hlo hL c1 c2 c3 c4 c5 c6 hz)
  · exact h.elim
theorem sx_ior (hd : decode M.2.1 pc = .ok (.ior, 1)) (hk : ∀ L st σ, K L st σ → am_W g l M d lim Q (pc + 1) L st σ) : ∀ L st σ, ax_i2 (fun x y => x ||| y) K L st σ → am_W g l M d lim Q pc L st σ := by
  intro L st σ h
  intro p e R s m args below meth c H locs cells slots mc ms ls Z hF hR hlo hL c1 c2 c3 c4 c5 c6 hz
  unfold ax_i2 at h
  split at h
  · rename_i y x r
    exact lv_ior hF.1 hF.2.1 hd (hk L _ σ h p e R s m args below meth c H locs cells slots mc ms ls Z hF hR hlo hL c1 c2 c3 c4 c5 c6 hz)
  · exact h.elim
theorem sx_ixor (hd : decode M.2.1 pc = .ok (.ixor, 1)) (hk : ∀ L st σ, K L st σ → am_W g l M d lim Q (pc + 1) L st σ) : ∀ L st σ, ax_i2 (fun x y => x ^^^ y) K L st σ → am_W g l M d lim Q pc L st σ := by
  intro L st σ h
  intro p e R s m args below meth c H locs cells slots mc ms ls Z hF hR hlo hL c1 c2 c3 c4 c5 c6 hz
  unfold ax_i2 at h
  split at h
  · rename_i y x r
    exact lv_ixor hF.1 hF.2.1 hd (hk L _ σ h p e R s m args below meth c H locs cells slots mc ms ls Z hF hR hlo hL c1 c2 c3 c4 c5 c6 hz)
  · exact h.elim
theorem sx_ishr (hd : decode M.2.1 pc = .ok (.ishr, 1)) (hk : ∀ L st σ, K L st σ → am_W g l M d lim Q (pc + 1) L st σ) : ∀ L st σ, ax_i2 (fun x y => x >>> (y &&& 31)) K L st σ → am_W g l M d lim Q pc L st σ := by
  intro L st σ h
  intro p e R s m args below meth c H locs cells slots mc ms ls Z hF hR hlo hL c1 c2 c3 c4 c5 c6 hz
  unfold ax_i2 at h
  split at h
  · rename_i y x r
    exact lv_ishr hF.1 hF.2.1 hd (hk L _ σ h p e R s m args below meth c H locs cells slots mc ms ls Z hF hR hlo hL c1 c2 c3 c4 c5 c6 hz)
  · exact h.elim
theorem sx_idiv (hd : decode M.2.1 pc = .ok (.idiv, 1)) (hk : ∀ L st σ, K L st σ → am_W g l M d lim Q (pc + 1) L st σ) : ∀ L st σ, ax_i2n (fun x y => x / y) K L st σ → am_W g l M d lim Q pc L st σ := by
  intro L st σ h
  intro p e R s m args below meth c H locs cells slots mc ms ls Z hF hR hlo hL c1 c2 c3 c4 c5 c6 hz
  unfold ax_i2n at h
  split at h
  · rename_i y x r
    exact lv_idiv hF.1 hF.2.1 hd h.1 (hk L _ σ h.2 p e R s m args below meth c H locs cells slots mc ms ls Z hF hR hlo hL c1 c2 c3 c4 c5 c6 hz)
  · exact h.elim
theorem sx_irem (hd : decode M.2.1 pc = .ok (.irem, 1)) (hk : ∀ L st σ, K L st σ → am_W g l M d lim Q (pc + 1) L st σ) : ∀ L st σ, ax_i2n (fun x y => x - x / y * y) K L st σ → am_W g l M d lim Q pc L st σ := by
  intro L st σ h
  intro p e R s m args below meth c H locs cells slots mc ms ls Z hF hR hlo hL c1 c2 c3 c4 c5 c6 hz
  unfold ax_i2n at h
  split at h
  · rename_i y x r
    exact lv_irem hF.1 hF.2.1 hd h.1 (hk L _ σ h.2 p e R s m args below meth c H locs cells slots mc ms ls Z hF hR hlo hL c1 c2 c3 c4 c5 c6 hz)
  · exact h.elim
theorem sx_land (hd : decode M.2.1 pc = .ok (.land, 1)) (hk : ∀ L st σ, K L st σ → am_W g l M d lim Q (pc + 1) L st σ) : ∀ L st σ, ax_l2 (fun x y => x &&& y) K L st σ → am_W g l M d lim Q pc L st σ := by
  intro L st σ h
  intro p e R s m args below meth c H locs cells slots mc ms ls Z hF hR hlo hL c1 c2 c3 c4 c5 c6 hz
  unfold ax_l2 at h
  split at h
  · rename_i y x r
    exact lv_land hF.1 hF.2.1 hd (hk L _ σ h p e R s m args below meth c H locs cells slots mc ms ls Z hF hR hlo hL c1 c2 c3 c4 c5 c6 hz)
  · exact h.elim
theorem sx_lor (hd : decode M.2.1 pc = .ok (.lor, 1)) (hk : ∀ L st σ, K L st σ → am_W g l M d lim Q (pc + 1) L st σ) : ∀ L st σ, ax_l2 (fun x y => x ||| y) K L st σ → am_W g l M d lim Q pc L st σ := by
  intro L st σ h
  intro p e R s m args below meth c H locs cells slots mc ms ls Z hF hR hlo hL c1 c2 c3 c4 c5 c6 hz
  unfold ax_l2 at h
  split at h
  · rename_i y x r
    exact lv_lor hF.1 hF.2.1 hd (hk L _ σ h p e R s m args below meth c H locs cells slots mc ms ls Z hF hR hlo hL c1 c2 c3 c4 c5 c6 hz)
  · exact h.elim
theorem sx_lshl (hd : decode M.2.1 pc = .ok (.lshl, 1)) (hk : ∀ L st σ, K L st σ → am_W g l M d lim Q (pc + 1) L st σ) : ∀ L st σ, ax_lsh (fun x y => x <<< (y.toInt64 &&& 63)) K L st σ → am_W g l M d lim Q pc L st σ := by
  intro L st σ h
  intro p e R s m args below meth c H locs cells slots mc ms ls Z hF hR hlo hL c1 c2 c3 c4 c5 c6 hz
  unfold ax_lsh at h
  split at h
  · rename_i y x r
    exact lv_lshl hF.1 hF.2.1 hd rfl (hk L _ σ h p e R s m args below meth c H locs cells slots mc ms ls Z hF hR hlo hL c1 c2 c3 c4 c5 c6 hz)
  · exact h.elim
theorem sx_lshr (hd : decode M.2.1 pc = .ok (.lshr, 1)) (hk : ∀ L st σ, K L st σ → am_W g l M d lim Q (pc + 1) L st σ) : ∀ L st σ, ax_lsh (fun x y => x >>> (y.toInt64 &&& 63)) K L st σ → am_W g l M d lim Q pc L st σ := by
  intro L st σ h
  intro p e R s m args below meth c H locs cells slots mc ms ls Z hF hR hlo hL c1 c2 c3 c4 c5 c6 hz
  unfold ax_lsh at h
  split at h
  · rename_i y x r
    exact lv_lshr hF.1 hF.2.1 hd rfl (hk L _ σ h p e R s m args below meth c H locs cells slots mc ms ls Z hF hR hlo hL c1 c2 c3 c4 c5 c6 hz)
  · exact h.elim
theorem sx_lushr (hd : decode M.2.1 pc = .ok (.lushr, 1)) (hk : ∀ L st σ, K L st σ → am_W g l M d lim Q (pc + 1) L st σ) : ∀ L st σ, ax_lsh (fun x y => (x.toUInt64 >>> (y.toInt64.toUInt64 &&& Int64.toUInt64 63)).toInt64) K L st σ → am_W g l M d lim Q pc L st σ := by
  intro L st σ h
  intro p e R s m args below meth c H locs cells slots mc ms ls Z hF hR hlo hL c1 c2 c3 c4 c5 c6 hz
  unfold ax_lsh at h
  split at h
  · rename_i y x r
    exact lv_lushr hF.1 hF.2.1 hd rfl (hk L _ σ h p e R s m args below meth c H locs cells slots mc ms ls Z hF hR hlo hL c1 c2 c3 c4 c5 c6 hz)
  · exact h.elim
theorem sx_i2l (hd : decode M.2.1 pc = .ok (.i2l, 1)) (hk : ∀ L st σ, K L st σ → am_W g l M d lim Q (pc + 1) L st σ) : ∀ L st σ, ax_il (fun x => x.toInt64) K L st σ → am_W g l M d lim Q pc L st σ := by
  intro L st σ h
  intro p e R s m args below meth c H locs cells slots mc ms ls Z hF hR hlo hL c1 c2 c3 c4 c5 c6 hz
  unfold ax_il at h
  split at h
  · rename_i x r
    exact lv_i2l hF.1 hF.2.1 hd rfl (hk L _ σ h p e R s m args below meth c H locs cells slots mc ms ls Z hF hR hlo hL c1 c2 c3 c4 c5 c6 hz)
  · exact h.elim
theorem sx_l2i (hd : decode M.2.1 pc = .ok (.l2i, 1)) (hk : ∀ L st σ, K L st σ → am_W g l M d lim Q (pc + 1) L st σ) : ∀ L st σ, ax_li (fun x => x.toInt32) K L st σ → am_W g l M d lim Q pc L st σ := by
  intro L st σ h
  intro p e R s m args below meth c H locs cells slots mc ms ls Z hF hR hlo hL c1 c2 c3 c4 c5 c6 hz
  unfold ax_li at h
  split at h
  · rename_i x r
    exact lv_l2i hF.1 hF.2.1 hd rfl (hk L _ σ h p e R s m args below meth c H locs cells slots mc ms ls Z hF hR hlo hL c1 c2 c3 c4 c5 c6 hz)
  · exact h.elim
theorem sx_i2c (hd : decode M.2.1 pc = .ok (.i2c, 1)) (hk : ∀ L st σ, K L st σ → am_W g l M d lim Q (pc + 1) L st σ) : ∀ L st σ, ax_ii (fun x => (x.toUInt32 % 65536).toInt32) K L st σ → am_W g l M d lim Q pc L st σ := by
  intro L st σ h
  intro p e R s m args below meth c H locs cells slots mc ms ls Z hF hR hlo hL c1 c2 c3 c4 c5 c6 hz
  unfold ax_ii at h
  split at h
  · rename_i x r
    exact lv_i2c hF.1 hF.2.1 hd rfl (hk L _ σ h p e R s m args below meth c H locs cells slots mc ms ls Z hF hR hlo hL c1 c2 c3 c4 c5 c6 hz)
  · exact h.elim
theorem sx_pop (hd : decode M.2.1 pc = .ok (.pop, 1)) (hk : ∀ L st σ, K L st σ → am_W g l M d lim Q (pc + 1) L st σ) : ∀ L st σ, ax_pop K L st σ → am_W g l M d lim Q pc L st σ := by
  intro L st σ h
  intro p e R s m args below meth c H locs cells slots mc ms ls Z hF hR hlo hL c1 c2 c3 c4 c5 c6 hz
  unfold ax_pop at h
  split at h
  · exact lv_pop hF.1 hF.2.1 hd h.1 (hk L _ σ h.2 p e R s m args below meth c H locs cells slots mc ms ls Z hF hR hlo hL c1 c2 c3 c4 c5 c6 hz)
  · exact h.elim
theorem sx_dup (hd : decode M.2.1 pc = .ok (.dup, 1)) (hk : ∀ L st σ, K L st σ → am_W g l M d lim Q (pc + 1) L st σ) : ∀ L st σ, ax_dup K L st σ → am_W g l M d lim Q pc L st σ := by
  intro L st σ h
  intro p e R s m args below meth c H locs cells slots mc ms ls Z hF hR hlo hL c1 c2 c3 c4 c5 c6 hz
  unfold ax_dup at h
  split at h
  · exact lv_dup hF.1 hF.2.1 hd h.1 (hk L _ σ h.2 p e R s m args below meth c H locs cells slots mc ms ls Z hF hR hlo hL c1 c2 c3 c4 c5 c6 hz)
  · exact h.elim
theorem sx_dup2 (hd : decode M.2.1 pc = .ok (.dup2, 1)) (hk : ∀ L st σ, K L st σ → am_W g l M d lim Q (pc + 1) L st σ) : ∀ L st σ, ax_dup2 K L st σ → am_W g l M d lim Q pc L st σ := by
  intro L st σ h
  intro p e R s m args below meth c H locs cells slots mc ms ls Z hF hR hlo hL c1 c2 c3 c4 c5 c6 hz
  unfold ax_dup2 at h
  split at h
  · exact lv_dup2_11 hF.1 hF.2.1 hd h.1 h.2.1 (hk L _ σ h.2.2 p e R s m args below meth c H locs cells slots mc ms ls Z hF hR hlo hL c1 c2 c3 c4 c5 c6 hz)
  · exact h.elim
theorem sx_if_eq {off : Int} {tgt : Nat} (hd : decode M.2.1 pc = .ok (.ifCond .eq off, 3)) (ht : (pc : Int) + off = (tgt : Int)) (hT : ∀ L st σ, T L st σ → am_W g l M d lim Q tgt L st σ) (hk : ∀ L st σ, K L st σ → am_W g l M d lim Q (pc + 3) L st σ) : ∀ L st σ, ax_if (fun x => x = 0) T K L st σ → am_W g l M d lim Q pc L st σ := by
  intro L st σ h
  intro p e R s m args below meth c H locs cells slots mc ms ls Z hF hR hlo hL c1 c2 c3 c4 c5 c6 hz
  unfold ax_if at h
  split at h
  · exact (lv_if_eq hF.1 hF.2.1 hd ht (fun q => hT L _ σ (h.1 (q)) p e R s m args below meth c H locs cells slots mc ms ls Z hF hR hlo hL c1 c2 c3 c4 c5 c6 hz) (fun q => hk L _ σ (h.2 (q)) p e R s m args below meth c H locs cells slots mc ms ls Z hF hR hlo hL c1 c2 c3 c4 c5 c6 hz))
  · exact h.elim
theorem sx_if_ne {off : Int} {tgt : Nat} (hd : decode M.2.1 pc = .ok (.ifCond .ne off, 3)) (ht : (pc : Int) + off = (tgt : Int)) (hT : ∀ L st σ, T L st σ → am_W g l M d lim Q tgt L st σ) (hk : ∀ L st σ, K L st σ → am_W g l M d lim Q (pc + 3) L st σ) : ∀ L st σ, ax_if (fun x => x = 0) K T L st σ → am_W g l M d lim Q pc L st σ := by
  intro L st σ h
  intro p e R s m args below meth c H locs cells slots mc ms ls Z hF hR hlo hL c1 c2 c3 c4 c5 c6 hz
  unfold ax_if at h
  split at h
  · exact (lv_if_ne hF.1 hF.2.1 hd ht (fun q => hT L _ σ (h.2 (q)) p e R s m args below meth c H locs cells slots mc ms ls Z hF hR hlo hL c1 c2 c3 c4 c5 c6 hz) (fun q => hk L _ σ (h.1 (q)) p e R s m args below meth c H locs cells slots mc ms ls Z hF hR hlo hL c1 c2 c3 c4 c5 c6 hz))
  · exact h.elim
theorem sx_if_lt {off : Int} {tgt : Nat} (hd : decode M.2.1 pc = .ok (.ifCond .lt off, 3)) (ht : (pc : Int) + off = (tgt : Int)) (hT : ∀ L st σ, T L st σ → am_W g l M d lim Q tgt L st σ) (hk : ∀ L st σ, K L st σ → am_W g l M d lim Q (pc + 3) L st σ) : ∀ L st σ, ax_if (fun x => x.toInt < 0) T K L st σ → am_W g l M d lim Q pc L st σ := by
  intro L st σ h
  intro p e R s m args below meth c H locs cells slots mc ms ls Z hF hR hlo hL c1 c2 c3 c4 c5 c6 hz
  unfold ax_if at h
  split at h
  · exact (lv_if_lt hF.1 hF.2.1 hd ht (fun q => hT L _ σ (h.1 (by have := Int32.lt_iff_toInt_lt.mp q; rwa [Int32.toInt_zero] at this)) p e R s m args below meth c H locs cells slots mc ms ls Z hF hR hlo hL c1 c2 c3 c4 c5 c6 hz) (fun q => hk L _ σ (h.2 (by intro z; exact q (Int32.lt_iff_toInt_lt.mpr (by rw [Int32.toInt_zero]; exact z)))) p e R s m args below meth c H locs cells slots mc ms ls Z hF hR hlo hL c1 c2 c3 c4 c5 c6 hz))
  · exact h.elim
theorem sx_if_ge {off : Int} {tgt : Nat} (hd : decode M.2.1 pc = .ok (.ifCond .ge off, 3)) (ht : (pc : Int) + off = (tgt : Int)) (hT : ∀ L st σ, T L st σ → am_W g l M d lim Q tgt L st σ) (hk : ∀ L st σ, K L st σ → am_W g l M d lim Q (pc + 3) L st σ) : ∀ L st σ, ax_if (fun x => x.toInt < 0) K T L st σ → am_W g l M d lim Q pc L st σ := by
  intro L st σ h
  intro p e R s m args below meth c H locs cells slots mc ms ls Z hF hR hlo hL c1 c2 c3 c4 c5 c6 hz
  unfold ax_if at h
  split at h
  · exact (lv_if_ge hF.1 hF.2.1 hd ht (fun q => hT L _ σ (h.2 (by have := Int32.le_iff_toInt_le.mp q; rw [Int32.toInt_zero] at this; omega)) p e R s m args below meth c H locs cells slots mc ms ls Z hF hR hlo hL c1 c2 c3 c4 c5 c6 hz) (fun q => hk L _ σ (h.1 (by have := mt Int32.le_iff_toInt_le.mpr q; rw [Int32.toInt_zero] at this; omega)) p e R s m args below meth c H locs cells slots mc ms ls Z hF hR hlo hL c1 c2 c3 c4 c5 c6 hz))
  · exact h.elim
theorem sx_if_gt {off : Int} {tgt : Nat} (hd : decode M.2.1 pc = .ok (.ifCond .gt off, 3)) (ht : (pc : Int) + off = (tgt : Int)) (hT : ∀ L st σ, T L st σ → am_W g l M d lim Q tgt L st σ) (hk : ∀ L st σ, K L st σ → am_W g l M d lim Q (pc + 3) L st σ) : ∀ L st σ, ax_if (fun x => 0 < x.toInt) T K L st σ → am_W g l M d lim Q pc L st σ := by
  intro L st σ h
  intro p e R s m args below meth c H locs cells slots mc ms ls Z hF hR hlo hL c1 c2 c3 c4 c5 c6 hz
  unfold ax_if at h
  split at h
  · exact (lv_if_gt hF.1 hF.2.1 hd ht (fun q => hT L _ σ (h.1 (by have := Int32.lt_iff_toInt_lt.mp q; rwa [Int32.toInt_zero] at this)) p e R s m args below meth c H locs cells slots mc ms ls Z hF hR hlo hL c1 c2 c3 c4 c5 c6 hz) (fun q => hk L _ σ (h.2 (by intro z; exact q (Int32.lt_iff_toInt_lt.mpr (by rw [Int32.toInt_zero]; exact z)))) p e R s m args below meth c H locs cells slots mc ms ls Z hF hR hlo hL c1 c2 c3 c4 c5 c6 hz))
  · exact h.elim
theorem sx_if_le {off : Int} {tgt : Nat} (hd : decode M.2.1 pc = .ok (.ifCond .le off, 3)) (ht : (pc : Int) + off = (tgt : Int)) (hT : ∀ L st σ, T L st σ → am_W g l M d lim Q tgt L st σ) (hk : ∀ L st σ, K L st σ → am_W g l M d lim Q (pc + 3) L st σ) : ∀ L st σ, ax_if (fun x => 0 < x.toInt) K T L st σ → am_W g l M d lim Q pc L st σ := by
  intro L st σ h
  intro p e R s m args below meth c H locs cells slots mc ms ls Z hF hR hlo hL c1 c2 c3 c4 c5 c6 hz
  unfold ax_if at h
  split at h
  · exact (lv_if_le hF.1 hF.2.1 hd ht (fun q => hT L _ σ (h.2 (by have := Int32.le_iff_toInt_le.mp q; rw [Int32.toInt_zero] at this; omega)) p e R s m args below meth c H locs cells slots mc ms ls Z hF hR hlo hL c1 c2 c3 c4 c5 c6 hz) (fun q => hk L _ σ (h.1 (by have := mt Int32.le_iff_toInt_le.mpr q; rw [Int32.toInt_zero] at this; omega)) p e R s m args below meth c H locs cells slots mc ms ls Z hF hR hlo hL c1 c2 c3 c4 c5 c6 hz))
  · exact h.elim
theorem sx_icmp_eq {off : Int} {tgt : Nat} (hd : decode M.2.1 pc = .ok (.if_icmp .eq off, 3)) (ht : (pc : Int) + off = (tgt : Int)) (hT : ∀ L st σ, T L st σ → am_W g l M d lim Q tgt L st σ) (hk : ∀ L st σ, K L st σ → am_W g l M d lim Q (pc + 3) L st σ) : ∀ L st σ, ax_cmp (fun x y => x = y) T K L st σ → am_W g l M d lim Q pc L st σ := by
  intro L st σ h
  intro p e R s m args below meth c H locs cells slots mc ms ls Z hF hR hlo hL c1 c2 c3 c4 c5 c6 hz
  unfold ax_cmp at h
  split at h
  · exact (lv_icmp_eq hF.1 hF.2.1 hd ht (fun q => hT L _ σ (h.1 (q)) p e R s m args below meth c H locs cells slots mc ms ls Z hF hR hlo hL c1 c2 c3 c4 c5 c6 hz) (fun q => hk L _ σ (h.2 (q)) p e R s m args below meth c H locs cells slots mc ms ls Z hF hR hlo hL c1 c2 c3 c4 c5 c6 hz))
  · exact h.elim
theorem sx_icmp_ne {off : Int} {tgt : Nat} (hd : decode M.2.1 pc = .ok (.if_icmp .ne off, 3)) (ht : (pc : Int) + off = (tgt : Int)) (hT : ∀ L st σ, T L st σ → am_W g l M d lim Q tgt L st σ) (hk : ∀ L st σ, K L st σ → am_W g l M d lim Q (pc + 3) L st σ) : ∀ L st σ, ax_cmp (fun x y => x = y) K T L st σ → am_W g l M d lim Q pc L st σ := by
  intro L st σ h
  intro p e R s m args below meth c H locs cells slots mc ms ls Z hF hR hlo hL c1 c2 c3 c4 c5 c6 hz
  unfold ax_cmp at h
  split at h
  · exact (lv_icmp_ne hF.1 hF.2.1 hd ht (fun q => hT L _ σ (h.2 (q)) p e R s m args below meth c H locs cells slots mc ms ls Z hF hR hlo hL c1 c2 c3 c4 c5 c6 hz) (fun q => hk L _ σ (h.1 (q)) p e R s m args below meth c H locs cells slots mc ms ls Z hF hR hlo hL c1 c2 c3 c4 c5 c6 hz))
  · exact h.elim
theorem sx_icmp_lt {off : Int} {tgt : Nat} (hd : decode M.2.1 pc = .ok (.if_icmp .lt off, 3)) (ht : (pc : Int) + off = (tgt : Int)) (hT : ∀ L st σ, T L st σ → am_W g l M d lim Q tgt L st σ) (hk : ∀ L st σ, K L st σ → am_W g l M d lim Q (pc + 3) L st σ) : ∀ L st σ, ax_cmp (fun x y => x.toInt < y.toInt) T K L st σ → am_W g l M d lim Q pc L st σ := by
  intro L st σ h
  intro p e R s m args below meth c H locs cells slots mc ms ls Z hF hR hlo hL c1 c2 c3 c4 c5 c6 hz
  unfold ax_cmp at h
  split at h
  · exact (lv_icmp_lt hF.1 hF.2.1 hd ht (fun q => hT L _ σ (h.1 (Int32.lt_iff_toInt_lt.mp q)) p e R s m args below meth c H locs cells slots mc ms ls Z hF hR hlo hL c1 c2 c3 c4 c5 c6 hz) (fun q => hk L _ σ (h.2 (mt Int32.lt_iff_toInt_lt.mpr q)) p e R s m args below meth c H locs cells slots mc ms ls Z hF hR hlo hL c1 c2 c3 c4 c5 c6 hz))
  · exact h.elim
theorem sx_icmp_ge {off : Int} {tgt : Nat} (hd : decode M.2.1 pc = .ok (.if_icmp .ge off, 3)) (ht : (pc : Int) + off = (tgt : Int)) (hT : ∀ L st σ, T L st σ → am_W g l M d lim Q tgt L st σ) (hk : ∀ L st σ, K L st σ → am_W g l M d lim Q (pc + 3) L st σ) : ∀ L st σ, ax_cmp (fun x y => x.toInt < y.toInt) K T L st σ → am_W g l M d lim Q pc L st σ := by
  intro L st σ h
  intro p e R s m args below meth c H locs cells slots mc ms ls Z hF hR hlo hL c1 c2 c3 c4 c5 c6 hz
  unfold ax_cmp at h
  split at h
  · exact (lv_icmp_ge hF.1 hF.2.1 hd ht (fun q => hT L _ σ (h.2 (by have := Int32.le_iff_toInt_le.mp q; omega)) p e R s m args below meth c H locs cells slots mc ms ls Z hF hR hlo hL c1 c2 c3 c4 c5 c6 hz) (fun q => hk L _ σ (h.1 (by have := mt Int32.le_iff_toInt_le.mpr q; omega)) p e R s m args below meth c H locs cells slots mc ms ls Z hF hR hlo hL c1 c2 c3 c4 c5 c6 hz))
  · exact h.elim
theorem sx_icmp_gt {off : Int} {tgt : Nat} (hd : decode M.2.1 pc = .ok (.if_icmp .gt off, 3)) (ht : (pc : Int) + off = (tgt : Int)) (hT : ∀ L st σ, T L st σ → am_W g l M d lim Q tgt L st σ) (hk : ∀ L st σ, K L st σ → am_W g l M d lim Q (pc + 3) L st σ) : ∀ L st σ, ax_cmp (fun x y => y.toInt < x.toInt) T K L st σ → am_W g l M d lim Q pc L st σ := by
  intro L st σ h
  intro p e R s m args below meth c H locs cells slots mc ms ls Z hF hR hlo hL c1 c2 c3 c4 c5 c6 hz
  unfold ax_cmp at h
  split at h
  · exact (lv_icmp_gt hF.1 hF.2.1 hd ht (fun q => hT L _ σ (h.1 (Int32.lt_iff_toInt_lt.mp q)) p e R s m args below meth c H locs cells slots mc ms ls Z hF hR hlo hL c1 c2 c3 c4 c5 c6 hz) (fun q => hk L _ σ (h.2 (mt Int32.lt_iff_toInt_lt.mpr q)) p e R s m args below meth c H locs cells slots mc ms ls Z hF hR hlo hL c1 c2 c3 c4 c5 c6 hz))
  · exact h.elim
theorem sx_icmp_le {off : Int} {tgt : Nat} (hd : decode M.2.1 pc = .ok (.if_icmp .le off, 3)) (ht : (pc : Int) + off = (tgt : Int)) (hT : ∀ L st σ, T L st σ → am_W g l M d lim Q tgt L st σ) (hk : ∀ L st σ, K L st σ → am_W g l M d lim Q (pc + 3) L st σ) : ∀ L st σ, ax_cmp (fun x y => y.toInt < x.toInt) K T L st σ → am_W g l M d lim Q pc L st σ := by
  intro L st σ h
  intro p e R s m args below meth c H locs cells slots mc ms ls Z hF hR hlo hL c1 c2 c3 c4 c5 c6 hz
  unfold ax_cmp at h
  split at h
  · exact (lv_icmp_le hF.1 hF.2.1 hd ht (fun q => hT L _ σ (h.2 (by have := Int32.le_iff_toInt_le.mp q; omega)) p e R s m args below meth c H locs cells slots mc ms ls Z hF hR hlo hL c1 c2 c3 c4 c5 c6 hz) (fun q => hk L _ σ (h.1 (by have := mt Int32.le_iff_toInt_le.mpr q; omega)) p e R s m args below meth c H locs cells slots mc ms ls Z hF hR hlo hL c1 c2 c3 c4 c5 c6 hz))
  · exact h.elim
theorem sx_acmp_eq {off : Int} {tgt : Nat} (hd : decode M.2.1 pc = .ok (.if_acmp .eq off, 3)) (ht : (pc : Int) + off = (tgt : Int)) (hT : ∀ L st σ, T L st σ → am_W g l M d lim Q tgt L st σ) (hk : ∀ L st σ, K L st σ → am_W g l M d lim Q (pc + 3) L st σ) : ∀ L st σ, ax_acmp true T K L st σ → am_W g l M d lim Q pc L st σ := by
  intro L st σ h
  intro p e R s m args below meth c H locs cells slots mc ms ls Z hF hR hlo hL c1 c2 c3 c4 c5 c6 hz
  unfold ax_acmp at h
  split at h
  · rename_i y x r
    simp only [if_true, Bool.false_eq_true, if_false] at h
    exact lv_acmp_eq (rx := some x) (ry := some y) hF.1 hF.2.1 hd ht (fun q => hT L _ σ (h.1 (Option.some.inj q)) p e R s m args below meth c H locs cells slots mc ms ls Z hF hR hlo hL c1 c2 c3 c4 c5 c6 hz) (fun q => hk L _ σ (h.2 (fun z => q (congrArg some z))) p e R s m args below meth c H locs cells slots mc ms ls Z hF hR hlo hL c1 c2 c3 c4 c5 c6 hz)
  · exact h.elim
theorem sx_acmp_ne {off : Int} {tgt : Nat} (hd : decode M.2.1 pc = .ok (.if_acmp .ne off, 3)) (ht : (pc : Int) + off = (tgt : Int)) (hT : ∀ L st σ, T L st σ → am_W g l M d lim Q tgt L st σ) (hk : ∀ L st σ, K L st σ → am_W g l M d lim Q (pc + 3) L st σ) : ∀ L st σ, ax_acmp false T K L st σ → am_W g l M d lim Q pc L st σ := by
  intro L st σ h
  intro p e R s m args below meth c H locs cells slots mc ms ls Z hF hR hlo hL c1 c2 c3 c4 c5 c6 hz
  unfold ax_acmp at h
  split at h
  · rename_i y x r
    simp only [if_true, Bool.false_eq_true, if_false] at h
    exact lv_acmp_ne (rx := some x) (ry := some y) hF.1 hF.2.1 hd ht (fun q => hT L _ σ (h.2 (fun z => q (congrArg some z))) p e R s m args below meth c H locs cells slots mc ms ls Z hF hR hlo hL c1 c2 c3 c4 c5 c6 hz) (fun q => hk L _ σ (h.1 (Option.some.inj q)) p e R s m args below meth c H locs cells slots mc ms ls Z hF hR hlo hL c1 c2 c3 c4 c5 c6 hz)
  · exact h.elim
theorem sx_goto {off : Int} {tgt : Nat} (hd : decode M.2.1 pc = .ok (.goto off, 3)) (ht : (pc : Int) + off = (tgt : Int)) (hT : ∀ L st σ, T L st σ → am_W g l M d lim Q tgt L st σ) : ∀ L st σ, ax_goto T L st σ → am_W g l M d lim Q pc L st σ := by
  intro L st σ h
  intro p e R s m args below meth c H locs cells slots mc ms ls Z hF hR hlo hL c1 c2 c3 c4 c5 c6 hz
  exact lv_goto hF.1 hF.2.1 hd ht (hT L st σ h p e R s m args below meth c H locs cells slots mc ms ls Z hF hR hlo hL c1 c2 c3 c4 c5 c6 hz)
/-- the field that a link names -/
def am_FL (own : String) (idx ci k : Nat) : Prop := ∃ r, am_cl[ci]? = some r ∧ k < r.2.2 ∧ Cond.fieldLink own idx (r.2.1 k).1 (r.2.1 k).2.1 (r.2.1 k).2.2.1 ∈ am_tb
theorem am_read {g : am_G} {σ : am_S} {H : Heap} {s : State} {a ci k : Nat} {r : vw_C} (hR : am_R g σ H) (hE : am_E g s) (ha : am_sh σ a = some (.inl ci)) (hr : am_cl[ci]? = some r) (hk : k < r.2.2) :
    ∃ cf kf fi fd cell, s.fieldFound? (r.2.1 k).1 (r.2.1 k).2.1 (r.2.1 k).2.2.1 = some (cf, kf, fi, fd) ∧ fd.isStatic = false ∧ H[a]? = some cell ∧ cell.vm ≠ .unknown ∧ cell.slots[fd.slot]? = some (am_gv (am_i σ) (am_r σ) (am_fr ci k) a k) := by
  obtain ⟨h1, h2, h3, h4, h5⟩ := hR
  cases hc : am_isc (.inl ci) with
  | false =>
    obtain ⟨-, r', e1, cell, e2, e3, e4, e5⟩ := h4 a _ ha hc
    cases hr.symm.trans e1
    obtain ⟨cf, kf, fi, fd, f1, f2, f3⟩ := (hE.1 ci r hr).1 k hk
    exact ⟨cf, kf, fi, fd, cell, f1, f3, e2, by rw [e4]; exact (fun h => by cases h), by rw [f2]; exact e5 k hk⟩
  | true =>
    obtain ⟨e1, e2, e3⟩ := h5 a _ ha hc
    obtain ⟨r', f1, f2, f3⟩ := hE.2.2.2.1 a ci e1
    cases hr.symm.trans f1
    obtain ⟨cf, kf, fi, fd, cell, g1, g2, g3, g4, g5, g6⟩ := f3 k hk
    refine ⟨cf, kf, fi, fd, cell, g1, g2, ?_, g4, ?_⟩
    · rw [h3 a (Nat.not_le.mp g6)]
      exact g3
    · rw [g5]
      unfold am_gv
      rw [e2, e3]
theorem sx_getI {idx ci k : Nat} (hd : decode M.2.1 pc = .ok (.getfield idx, 3)) (hl : am_FL M.1.cls idx ci k) (hb : am_fr ci k = false) (hk : ∀ L st σ, K L st σ → am_W g l M d lim Q (pc + 3) L st σ) : ∀ L st σ, ax_getI ci k K L st σ → am_W g l M d lim Q pc L st σ := by
  intro L st σ h
  intro p e R s m args below meth c H locs cells slots mc ms ls Z hF hR hlo hL c1 c2 c3 c4 c5 c6 hz
  obtain ⟨r, hr, hkn, hw⟩ := hl
  unfold ax_getI at h
  split at h
  · rename_i a rest
    obtain ⟨h1, h2⟩ := h
    obtain ⟨cf, kf, fi, fd, cell, f1, f2, f3, f4, f5⟩ := am_read hR hF.2.2.2.2.2.2.1 h1 hr hkn
    rw [hb, am_gvF] at f5
    exact W.getf hF.1 hF.2.1 hF.2.2.2.2.1 (hF.2.2.2.2.2.1 _ hw) f1 f2 f3 f4 f5 rfl rfl hd (hk L _ σ h2 p e R s m args below meth c H locs cells slots mc ms ls Z hF hR hlo hL c1 c2 c3 c4 c5 c6 hz)
  · exact h.elim
theorem sx_getR {idx ci k : Nat} (hd : decode M.2.1 pc = .ok (.getfield idx, 3)) (hl : am_FL M.1.cls idx ci k) (hb : am_fr ci k = true) (hk : ∀ L st σ, K L st σ → am_W g l M d lim Q (pc + 3) L st σ) : ∀ L st σ, ax_getR ci k K L st σ → am_W g l M d lim Q pc L st σ := by
  intro L st σ h
  intro p e R s m args below meth c H locs cells slots mc ms ls Z hF hR hlo hL c1 c2 c3 c4 c5 c6 hz
  obtain ⟨r, hr, hkn, hw⟩ := hl
  unfold ax_getR at h
  split at h
  · rename_i a rest
    obtain ⟨h1, b, h3, h2⟩ := h
    obtain ⟨cf, kf, fi, fd, cell, f1, f2, f3, f4, f5⟩ := am_read hR hF.2.2.2.2.2.2.1 h1 hr hkn
    rw [hb, am_gvT, h3] at f5
    exact W.getf hF.1 hF.2.1 hF.2.2.2.2.1 (hF.2.2.2.2.2.1 _ hw) f1 f2 f3 f4 f5 rfl rfl hd (hk L _ σ h2 p e R s m args below meth c H locs cells slots mc ms ls Z hF hR hlo hL c1 c2 c3 c4 c5 c6 hz)
  · exact h.elim
/-- what a class's table says -/
def am_CD (ci : Nat) : Prop := am_isc (.inl ci) = false ∧ ∃ (r : vw_C) (ty : Nat → FieldType), am_cl[ci]? = some r ∧ (∀ k, k < r.2.2 → parseFieldDescriptor (r.2.1 k).2.2.1 = some (ty k)) ∧ (∀ a, a < r.2.2 → ∀ b, b < r.2.2 → a ≠ b → (r.2.1 a).2.1 ≠ (r.2.1 b).2.1) ∧ (∀ w ∈ u_ws r.1 r.2.1 r.2.2, w ∈ am_tb) ∧ (∀ k, k < r.2.2 → defaultValue (ty k) = am_gv (fun _ _ => 0) (fun _ _ => none) (am_fr ci k) 0 k) ∧ Cond.instantiable r.1 r.2.2 ∈ am_tb ∧ Cond.initialized r.1 ∈ am_tb
def am_fin (ci k : Nat) : Bool := match am_cl[ci]? with
  | some r => (r.2.1 k).2.2.2
  | none => false
def am_dec (ci k : Nat) : String := match am_cl[ci]? with
  | some r => (r.2.1 k).1
  | none => ""
def am_desc (ci k : Nat) : Option FieldType := match am_cl[ci]? with
  | some r => parseFieldDescriptor (r.2.1 k).2.2.1
  | none => none
theorem am_updV (σ σ' : am_S) (ci a k : Nat) (v : Value) (hv : am_gv (am_i σ') (am_r σ') (am_fr ci k) a k = v) (ho : ∀ j, j ≠ k → am_i σ' a j = am_i σ a j ∧ am_r σ' a j = am_r σ a j) (j : Nat) : updV (fun k => am_gv (am_i σ) (am_r σ) (am_fr ci k) a k) k v j = am_gv (am_i σ') (am_r σ') (am_fr ci j) a j := by
  unfold updV
  by_cases e : j = k
  · subst e
    rw [if_pos rfl, hv]
  · rw [if_neg e]
    unfold am_gv
    rw [(ho j e).1, (ho j e).2]
theorem sx_put0 {idx ci k : Nat} {v : Value} {ty : FieldType} {a : Nat} {L : List (Option Value)} {rest : List Value} {σ σ' : am_S} (hd : decode M.2.1 pc = .ok (.putfield idx, 3)) (hl : am_FL M.1.cls idx ci k) (hD : am_CD ci) (hfin : am_fin ci k = false ∨ (M.1.name = "<init>" ∧ am_dec ci k = M.1.cls)) (hty : am_desc ci k = some ty) (hn : narrow ty v = v) (hfit : fits ty v = true)
    (hsh : am_sh σ a = some (.inl ci)) (hs : am_sh σ' = am_sh σ) (ht : am_tp σ' = am_tp σ) (hu : am_us σ' = am_us σ) (hv : am_gv (am_i σ') (am_r σ') (am_fr ci k) a k = v) (ho : ∀ j, j ≠ k → am_i σ' a j = am_i σ a j ∧ am_r σ' a j = am_r σ a j) (hi : ∀ b, b ≠ a → am_i σ' b = am_i σ b) (hr : ∀ b, b ≠ a → am_r σ' b = am_r σ b)
    (h : am_W g l M d lim Q (pc + 3) L rest σ') : am_W g l M d lim Q pc L (v :: .ref a :: rest) σ := by
  intro p e R s m args below meth c H locs cells slots mc ms ls Z hF hR hlo hL c1 c2 c3 c4 c5 c6 hz
  obtain ⟨r, e1, hkn, hw⟩ := hl
  obtain ⟨hc, r', tyf, e2, d1, d2, d3, -, -, -⟩ := hD
  cases e1.symm.trans e2
  have hown := hF.2.2.2.2.1
  have hts := hF.2.2.2.2.2.1
  have hE := hF.2.2.2.2.2.2.1
  have hK := (hE.1 ci r e1).2.1 hc
  have hcell := (hR.2.2.2.1 a _ hsh hc).2
  obtain ⟨r', e3, cell, q1, q2, q3, q4⟩ := hcell
  cases e1.symm.trans e3
  have hd9 : parseFieldDescriptor (r.2.1 k).2.2.1 = some ty := by
    unfold am_desc at hty
    rw [e1] at hty
    exact hty
  have hin : ∀ w ∈ u_ws r.1 r.2.1 r.2.2, w.before args s = true := fun w hw => hts w (d3 w hw)
  obtain ⟨hS, hfc, kC, hkC, hkind⟩ := hK
  have hap : ∀ x y, x < r.2.2 → y < r.2.2 → x ≠ y → (g.1.2 ci) x ≠ (g.1.2 ci) y := by
    intro x y hx hy hne
    obtain ⟨_, _, _, fa, hia, ea⟩ := hS x hx
    obtain ⟨_, _, _, fb, hib, eb⟩ := hS y hy
    rw [← ea, ← eb]
    refine u_apart (u_lays hts d3 hx) (u_lays hts d3 hy) hia hib ?_
    rw [(State.fieldFound?_type hia (d1 x hx)).1, (State.fieldFound?_type hib (d1 y hy)).1]
    exact d2 x hx y hy hne
  obtain ⟨cf, kf, fi, f, hi9, hsl⟩ := hS k hkn
  have hlay := hin _ (u_in_lay hkn)
  unfold u_lay at hlay
  have hst := (u_facts hfc hkC (u_lays hts d3 hkn) hi9).1
  have fin : ∀ H' : Heap, H'[a]? = some (cell.setSlot ((g.1.2 ci) k) v) → H'.size = H.size → (∀ q : Nat, q ≠ a → H'[q]? = H[q]?) → am_R g σ' H' := by
    intro H' x1 x2 x3
    refine hR.set hsh hc x2 x3 ⟨r, e1, t_OB.to (V := updV (fun k => am_gv (am_i σ) (am_r σ) (am_fr ci k) a k) k v) ⟨_, x1, q2, q3, t_set q4 hap hkn v⟩ (fun j _ => am_updV σ σ' ci a k v hv ho j)⟩ hs ht hi hr
  have hlo2 : ∀ q ∈ locs ++ [⟨a, (g.1.2 ci) k⟩], g.2.2.1.size ≤ q.base := by
    intro q hq
    rcases List.mem_append.mp hq with h9 | h9
    · exact hlo q h9
    · rw [List.mem_singleton.mp h9]
      exact (hR.2.2.2.1 a _ hsh hc).1
  by_cases hf : (r.2.1 k).2.2.2 = true
  · rw [if_pos hf] at hlay
    have hfn : am_fin ci k = true := by unfold am_fin; rw [e1]; exact hf
    rcases hfin with hz9 | ⟨hz9, hz8⟩
    · rw [hfn] at hz9; cases hz9
    have hcf : m.cls = cf := by
      obtain ⟨_, _, c', _, _, _, -, -, hf', -, -, -, hown2, -⟩ := Cond.laysFinal_spec hlay
      have e1' : c' = cf := by have := hi9.symm.trans hf'; simp at this; exact this.1.symm
      unfold am_dec at hz8
      rw [e1] at hz8
      dsimp only at hz8
      rw [hz8] at hown2
      rw [← e1']; exact Option.some.inj (hown.symm.trans hown2)
    have h6 := u_fits hfc hkC hkind (Or.inr hlay) hi9 hd9 hn hfit
    refine W.putFinK hF.1 hF.2.1 hown (hts _ hw) hi9 hst hcf (hF.2.2.2.2.2.2.2.2.1.trans hz9) (by rw [q2]; exact h6) q1 q3 (by rw [hsl]; exact k2_hasslot (q4 k hkn)) rfl rfl hd fun H' x1 x2 x3 => ?_
    rw [hsl] at x1 ⊢
    exact h p e R s m args below meth c H' _ cells slots mc ms ls Z hF (fin H' x1 x2 x3) hlo2 hL (by rw [ht]; exact c1) (by rw [hu]; exact c2) (by rw [ht]; exact c3) (by rw [hu]; exact c4) c5 c6 hz
  · rw [if_neg hf] at hlay
    have h6 := u_store hfc hkC hkind hlay hi9 hd9 hn hfit
    refine W.putK hF.1 hF.2.1 (f := f) ⟨hown, hts _ hw, ⟨_, _, _, hi9⟩, hst⟩ (by rw [q2]; exact h6) q1 q3 (by rw [hsl]; exact k2_hasslot (q4 k hkn)) rfl rfl hd fun H' x1 x2 x3 => ?_
    rw [hsl] at x1 ⊢
    exact h p e R s m args below meth c H' _ cells slots mc ms ls Z hF (fin H' x1 x2 x3) hlo2 hL (by rw [ht]; exact c1) (by rw [hu]; exact c2) (by rw [ht]; exact c3) (by rw [hu]; exact c4) c5 c6 hz
theorem sx_putI {idx ci k : Nat} (hd : decode M.2.1 pc = .ok (.putfield idx, 3)) (hl : am_FL M.1.cls idx ci k) (hD : am_CD ci) (hfin : am_fin ci k = false ∨ (M.1.name = "<init>" ∧ am_dec ci k = M.1.cls)) (hty : am_desc ci k = some .int) (hb : am_fr ci k = false) (hk : ∀ L st σ, K L st σ → am_W g l M d lim Q (pc + 3) L st σ) : ∀ L st σ, ax_putI false ci k K L st σ → am_W g l M d lim Q pc L st σ := by
  intro L st σ h
  unfold ax_putI at h
  split at h
  · rename_i v a rest
    obtain ⟨h1, h2, h3⟩ := h
    exact sx_put0 (v := .int v) (σ' := am_wi σ a k v) hd hl hD hfin hty rfl rfl h1 rfl rfl rfl (by rw [hb, am_gvF, am_i_wi, if_pos ⟨rfl, rfl⟩]) (fun j hj => ⟨by rw [am_i_wi, if_neg (fun q => hj q.2)], rfl⟩) (fun b hb => funext fun j => by rw [am_i_wi, if_neg (fun q => hb q.1)]) (fun b hb => rfl) (hk L rest _ h3)
  · exact h.elim
theorem sx_putZ {idx ci k : Nat} (hd : decode M.2.1 pc = .ok (.putfield idx, 3)) (hl : am_FL M.1.cls idx ci k) (hD : am_CD ci) (hfin : am_fin ci k = false ∨ (M.1.name = "<init>" ∧ am_dec ci k = M.1.cls)) (hty : am_desc ci k = some .boolean) (hb : am_fr ci k = false) (hk : ∀ L st σ, K L st σ → am_W g l M d lim Q (pc + 3) L st σ) : ∀ L st σ, ax_putI true ci k K L st σ → am_W g l M d lim Q pc L st σ := by
  intro L st σ h
  unfold ax_putI at h
  split at h
  · rename_i v a rest
    obtain ⟨h1, h2, h3⟩ := h
    have h4 := h2 rfl
    exact sx_put0 (v := .int v) (σ' := am_wi σ a k v) hd hl hD hfin hty (by rcases h4 with rfl | rfl <;> rfl) (by rcases h4 with rfl | rfl <;> rfl) h1 rfl rfl rfl (by rw [hb, am_gvF, am_i_wi, if_pos ⟨rfl, rfl⟩]) (fun j hj => ⟨by rw [am_i_wi, if_neg (fun q => hj q.2)], rfl⟩) (fun b hb => funext fun j => by rw [am_i_wi, if_neg (fun q => hb q.1)]) (fun b hb => rfl) (hk L rest _ h3)
  · exact h.elim
theorem sx_putR {idx ci k : Nat} {ty : FieldType} (hd : decode M.2.1 pc = .ok (.putfield idx, 3)) (hl : am_FL M.1.cls idx ci k) (hD : am_CD ci) (hfin : am_fin ci k = false ∨ (M.1.name = "<init>" ∧ am_dec ci k = M.1.cls)) (hty : am_desc ci k = some ty) (hn : ∀ a, narrow ty (.ref a) = .ref a ∧ fits ty (.ref a) = true) (hb : am_fr ci k = true) (hk : ∀ L st σ, K L st σ → am_W g l M d lim Q (pc + 3) L st σ) : ∀ L st σ, ax_putR ci k K L st σ → am_W g l M d lim Q pc L st σ := by
  intro L st σ h
  unfold ax_putR at h
  split at h
  · rename_i v a rest
    obtain ⟨h1, h3⟩ := h
    exact sx_put0 (v := .ref v) (σ' := am_wr σ a k (some v)) hd hl hD hfin hty (hn v).1 (hn v).2 h1 rfl rfl rfl (by rw [hb, am_gvT, am_r_wr, if_pos ⟨rfl, rfl⟩]; rfl) (fun j hj => ⟨rfl, by rw [am_r_wr, if_neg (fun q => hj q.2)]⟩) (fun b hb => rfl) (fun b hb => funext fun j => by rw [am_r_wr, if_neg (fun q => hb q.1)]) (hk L rest _ h3)
  · exact h.elim
theorem sx_gets {idx i : Nat} {q : String × String × String} (hd : decode M.2.1 pc = .ok (.getstatic idx, 3)) (hq : am_sts[i]? = some q) (hw : Cond.fieldLink M.1.cls idx q.1 q.2.1 q.2.2 ∈ am_tb) (hk : ∀ L st σ, K L st σ → am_W g l M d lim Q (pc + 3) L st σ) : ∀ L st σ, ax_gets g i K L st σ → am_W g l M d lim Q pc L st σ := by
  intro L st σ h
  intro p e R s m args below meth c H locs cells slots mc ms ls Z hF hR hlo hL c1 c2 c3 c4 c5 c6 hz
  obtain ⟨cf, kf, fi, f, a, cell, z1, z2, z3, z4, z5, z6, z7, z8⟩ := hF.2.2.2.2.2.2.1.2.2.1 i q hq
  refine W.gets hF.1 hF.2.1 hF.2.2.2.2.1 (hF.2.2.2.2.2.1 _ hw) z1 z2 z3 z4 (by rw [hR.2.2.1 a (Nat.not_le.mp z8)]; exact z5) (fun z => by rw [z] at z6; cases z6) z7 rfl hd (hk L _ σ h p e R s m args below meth c H locs cells slots mc ms ls Z hF hR hlo hL c1 c2 c3 c4 c5 c6 hz)
theorem sx_getsT {idx i : Nat} {q : String × String × String} (hd : decode M.2.1 pc = .ok (.getstatic idx, 3)) (hq : am_sts[i]? = some q) (hw : Cond.fieldLink M.1.cls idx q.1 q.2.1 q.2.2 ∈ am_tb) (hi : i < 38) (hk : ∀ L st σ, K L st σ → am_W g l M d lim Q (pc + 3) L st σ) : ∀ L st σ, ax_getsT g i K L st σ → am_W g l M d lim Q pc L st σ := by
  intro L st σ h
  intro p e R s m args below meth c H locs cells slots mc ms ls Z hF hR hlo hL c1 c2 c3 c4 c5 c6 hz
  obtain ⟨b, hb⟩ := hF.2.2.2.2.2.2.1.2.2.2.2.2.1 i hi
  have hb2 : g.2.2.2.2 i = .ref (am_tk g i) := by unfold am_tk; rw [hb]
  exact sx_gets hd hq hw hk L st σ (by unfold ax_gets; rw [hb2]; exact h) p e R s m args below meth c H locs cells slots mc ms ls Z hF hR hlo hL c1 c2 c3 c4 c5 c6 hz
/-- an array's cell, as its readers want it -/
theorem am_aread {g : am_G} {σ : am_S} {H : Heap} {s : State} {a k n : Nat} (hR : am_R g σ H) (hE : am_E g s) (ha : am_sh σ a = some (.inr (k, n))) :
    ∃ cell ty, am_at[k]? = some ty ∧ H[a]? = some cell ∧ s.isArrayOf cell ty ∧ cell.vm ≠ .unknown ∧ n ≤ cell.slots.size ∧ cell.slots.size.toInt32 = Int32.ofNat n ∧ (cell.slots.size = n ∨ 9 ≤ k) ∧ ∀ j : Nat, j < n → cell.slots[j]? = some (am_gv (am_i σ) (am_r σ) (am_ar k) a j) := by
  obtain ⟨h1, h2, h3, h4, h5⟩ := hR
  cases hc : am_isc (.inr (k, n)) with
  | false =>
    obtain ⟨-, h8, e2⟩ := h4 a _ ha hc
    have hk : k < am_at.length := by
      have : am_at.length = 12 := rfl
      dsimp only at h8
      omega
    have e3 : am_at[k]? = some am_at[k] := List.getElem?_eq_getElem hk
    obtain ⟨f1, f2⟩ := hE.2.1 k _ e3 h8
    exact ⟨_, _, e3, e2, f1 _ _, (fun h => by cases h), (by rw [arrV_size]; exact Nat.le_refl _), (by rw [arrV_size] <;> rfl), Or.inl (arrV_size _ _ _), fun j hj => by rw [arrV_read _ _ hj]⟩
  | true =>
    obtain ⟨e1, e2, e3⟩ := h5 a _ ha hc
    obtain ⟨ty, f1, cell, g1, g2, g3, g4, g5, g6, g7⟩ := hE.2.2.2.2.1 a _ e1
    have h9 : 9 ≤ k := by simpa [am_isc] using hc
    refine ⟨cell, ty, f1, ?_, g2, g3, g4, g5, Or.inr h9, fun j hj => ?_⟩
    · rw [h3 a (Nat.not_le.mp g7)]
      exact g1
    · rw [g6 j hj]
      unfold am_gv
      rw [e2, e3]
theorem sx_iald (hd : decode M.2.1 pc = .ok (.iaload, 1)) (hk : ∀ L st σ, K L st σ → am_W g l M d lim Q (pc + 1) L st σ) : ∀ L st σ, ax_aldI 0 K L st σ → am_W g l M d lim Q pc L st σ := by
  intro L st σ h
  intro p e R s m args below meth c H locs cells slots mc ms ls Z hF hR hlo hL c1 c2 c3 c4 c5 c6 hz
  unfold ax_aldI at h
  split at h
  · rename_i i a r
    obtain ⟨n, h1, h2, h3⟩ := h
    obtain ⟨cell, ty, e0, e1, e2, e3, e4, e5, e6, e7⟩ := am_aread hR hF.2.2.2.2.2.2.1 h1
    cases e0
    exact W.iald hF.1 hF.2.1 e1 e2 e3 (fun q => by rcases q with q | q; exact h2.vp (Or.inl q); have := h2.lt; omega) (e7 _ h2.lt) rfl rfl hd (hk L _ σ h3 p e R s m args below meth c H locs cells slots mc ms ls Z hF hR hlo hL c1 c2 c3 c4 c5 c6 hz)
  · exact h.elim
theorem sx_cald (hd : decode M.2.1 pc = .ok (.caload, 1)) (hk : ∀ L st σ, K L st σ → am_W g l M d lim Q (pc + 1) L st σ) : ∀ L st σ, ax_aldI 1 K L st σ → am_W g l M d lim Q pc L st σ := by
  intro L st σ h
  intro p e R s m args below meth c H locs cells slots mc ms ls Z hF hR hlo hL c1 c2 c3 c4 c5 c6 hz
  unfold ax_aldI at h
  split at h
  · rename_i i a r
    obtain ⟨n, h1, h2, h3⟩ := h
    obtain ⟨cell, ty, e0, e1, e2, e3, e4, e5, e6, e7⟩ := am_aread hR hF.2.2.2.2.2.2.1 h1
    cases e0
    exact W.cald hF.1 hF.2.1 e1 e2 e3 (fun q => by rcases q with q | q; exact h2.vp (Or.inl q); have := h2.lt; omega) (e7 _ h2.lt) rfl rfl hd (hk L _ σ h3 p e R s m args below meth c H locs cells slots mc ms ls Z hF hR hlo hL c1 c2 c3 c4 c5 c6 hz)
  · exact h.elim
theorem sx_zald (hd : decode M.2.1 pc = .ok (.baload, 1)) (hk : ∀ L st σ, K L st σ → am_W g l M d lim Q (pc + 1) L st σ) : ∀ L st σ, ax_aldI 2 K L st σ → am_W g l M d lim Q pc L st σ := by
  intro L st σ h
  intro p e R s m args below meth c H locs cells slots mc ms ls Z hF hR hlo hL c1 c2 c3 c4 c5 c6 hz
  unfold ax_aldI at h
  split at h
  · rename_i i a r
    obtain ⟨n, h1, h2, h3⟩ := h
    obtain ⟨cell, ty, e0, e1, e2, e3, e4, e5, e6, e7⟩ := am_aread hR hF.2.2.2.2.2.2.1 h1
    cases e0
    exact W.zald hF.1 hF.2.1 e1 e2 e3 (fun q => by rcases q with q | q; exact h2.vp (Or.inl q); have := h2.lt; omega) (e7 _ h2.lt) rfl rfl hd (hk L _ σ h3 p e R s m args below meth c H locs cells slots mc ms ls Z hF hR hlo hL c1 c2 c3 c4 c5 c6 hz)
  · exact h.elim
theorem sx_bald (hd : decode M.2.1 pc = .ok (.baload, 1)) (hk : ∀ L st σ, K L st σ → am_W g l M d lim Q (pc + 1) L st σ) : ∀ L st σ, ax_aldI 10 K L st σ → am_W g l M d lim Q pc L st σ := by
  intro L st σ h
  intro p e R s m args below meth c H locs cells slots mc ms ls Z hF hR hlo hL c1 c2 c3 c4 c5 c6 hz
  unfold ax_aldI at h
  split at h
  · rename_i i a r
    obtain ⟨n, h1, h2, h3⟩ := h
    obtain ⟨cell, ty, e0, e1, e2, e3, e4, e5, e6, e7⟩ := am_aread hR hF.2.2.2.2.2.2.1 h1
    cases e0
    exact W.bald hF.1 hF.2.1 e1 e2 e3 (fun q => by rcases q with q | q; exact h2.vp (Or.inl q); have := h2.lt; omega) (e7 _ h2.lt) rfl rfl hd (hk L _ σ h3 p e R s m args below meth c H locs cells slots mc ms ls Z hF hR hlo hL c1 c2 c3 c4 c5 c6 hz)
  · exact h.elim
theorem sx_sald (hd : decode M.2.1 pc = .ok (.iaload, 1)) (hk : ∀ L st σ, K L st σ → am_W g l M d lim Q (pc + 1) L st σ) : ∀ L st σ, ax_aldI 11 K L st σ → am_W g l M d lim Q pc L st σ := by
  intro L st σ h
  intro p e R s m args below meth c H locs cells slots mc ms ls Z hF hR hlo hL c1 c2 c3 c4 c5 c6 hz
  unfold ax_aldI at h
  split at h
  · rename_i i a r
    obtain ⟨n, h1, h2, h3⟩ := h
    obtain ⟨cell, ty, e0, e1, e2, e3, e4, e5, e6, e7⟩ := am_aread hR hF.2.2.2.2.2.2.1 h1
    cases e0
    exact W.iald hF.1 hF.2.1 e1 e2 e3 (fun q => by rcases q with q | q; exact h2.vp (Or.inl q); have := h2.lt; omega) (e7 _ h2.lt) rfl rfl hd (hk L _ σ h3 p e R s m args below meth c H locs cells slots mc ms ls Z hF hR hlo hL c1 c2 c3 c4 c5 c6 hz)
  · exact h.elim
theorem sx_aald {k : Nat} (hd : decode M.2.1 pc = .ok (.aaload, 1)) (hk3 : 3 ≤ k ∧ k ≤ 9) (hk : ∀ L st σ, K L st σ → am_W g l M d lim Q (pc + 1) L st σ) : ∀ L st σ, ax_aldR k K L st σ → am_W g l M d lim Q pc L st σ := by
  intro L st σ h
  intro p e R s m args below meth c H locs cells slots mc ms ls Z hF hR hlo hL c1 c2 c3 c4 c5 c6 hz
  unfold ax_aldR at h
  split at h
  · rename_i i a r
    obtain ⟨n, h1, h2, b, hb, h3⟩ := h
    obtain ⟨cell, ty, e0, e1, e2, e3, e4, e5, e6, e7⟩ := am_aread hR hF.2.2.2.2.2.2.1 h1
    have hty : ty.isReference = true := by
      have : k = 3 ∨ k = 4 ∨ k = 5 ∨ k = 6 ∨ k = 7 ∨ k = 8 ∨ k = 9 := by omega
      rcases this with rfl | rfl | rfl | rfl | rfl | rfl | rfl <;> (cases e0; rfl)
    have e8 := e7 _ h2.lt
    rw [show am_ar k = true by simp [am_ar, hk3.1, hk3.2], am_gvT, hb] at e8
    exact W.aald hF.1 hF.2.1 e1 e2 hty e3 (fun q => by rcases q with q | q; exact h2.vp (Or.inl q); have := h2.lt; omega) e8 rfl rfl hd (hk L _ σ h3 p e R s m args below meth c H locs cells slots mc ms ls Z hF hR hlo hL c1 c2 c3 c4 c5 c6 hz)
  · exact h.elim
theorem sx_alen (hd : decode M.2.1 pc = .ok (.arraylength, 1)) (hk : ∀ L st σ, K L st σ → am_W g l M d lim Q (pc + 1) L st σ) : ∀ L st σ, ax_alen K L st σ → am_W g l M d lim Q pc L st σ := by
  intro L st σ h
  intro p e R s m args below meth c H locs cells slots mc ms ls Z hF hR hlo hL c1 c2 c3 c4 c5 c6 hz
  unfold ax_alen at h
  split at h
  · rename_i a r
    obtain ⟨k, n, h1, h3⟩ := h
    obtain ⟨cell, ty, e0, e1, e2, e3, e4, e5, e6, e7⟩ := am_aread hR hF.2.2.2.2.2.2.1 h1
    exact W.alen hF.1 hF.2.1 e1 e2 e5 rfl rfl hd (hk L _ σ h3 p e R s m args below meth c H locs cells slots mc ms ls Z hF hR hlo hL c1 c2 c3 c4 c5 c6 hz)
  · exact h.elim
theorem am_astore {g : am_G} {σ σ' : am_S} {H H' : Heap} {s : State} {a k n i : Nat} {v : Value} (hR : am_R g σ H) (hk : k ≤ 8) (ha : am_sh σ a = some (.inr (k, n))) (he : H'[a]? = some ((arrV (g.2.1 k) n (fun j => am_gv (am_i σ) (am_r σ) (am_ar k) a j)).setSlot i v)) (hz : H'.size = H.size) (ho : ∀ q : Nat, q ≠ a → H'[q]? = H[q]?)
    (hs : am_sh σ' = am_sh σ) (ht : am_tp σ' = am_tp σ) (hv : am_gv (am_i σ') (am_r σ') (am_ar k) a i = v) (hj : ∀ j, j ≠ i → am_i σ' a j = am_i σ a j ∧ am_r σ' a j = am_r σ a j) (hi : ∀ b, b ≠ a → am_i σ' b = am_i σ b) (hr : ∀ b, b ≠ a → am_r σ' b = am_r σ b) : am_R g σ' H' := by
  refine hR.set ha (by simp [am_isc]; omega) hz ho ⟨hk, ?_⟩ hs ht hi hr
  rw [he, arrV_store]
  refine congrArg some (congrArg (arrV (g.2.1 k) n) (funext fun j => ?_))
  unfold updV
  by_cases e : j = i
  · subst e
    rw [if_pos rfl, hv]
  · rw [if_neg e]
    unfold am_gv
    rw [(hj j e).1, (hj j e).2]
theorem sx_iast (hd : decode M.2.1 pc = .ok (.iastore, 1)) (hk : ∀ L st σ, K L st σ → am_W g l M d lim Q (pc + 1) L st σ) : ∀ L st σ, ax_astI 0 (fun x => x) K L st σ → am_W g l M d lim Q pc L st σ := by
  intro L st σ h
  intro p e R s m args below meth c H locs cells slots mc ms ls Z hF hR hlo hL c1 c2 c3 c4 c5 c6 hz
  unfold ax_astI at h
  split at h
  · rename_i x i a r
    obtain ⟨n, h1, h2, h3⟩ := h
    have e2 := (hR.2.2.2.1 a _ h1 rfl).2.2
    have e3 := ((hF.2.2.2.2.2.2.1.2.1 0 _ rfl (by decide)).1 n (fun j => am_gv (am_i σ) (am_r σ) (am_ar 0) a j))
    refine W.iast hF.1 hF.2.1 e2 e3 (fun z => by cases z) (by show ¬ (i < 0 ∨ (arrV _ _ _).slots.size ≤ _); rw [arrV_size]; exact h2.vp) rfl rfl hd (fun H' x1 x2 x3 => ?_)
    exact hk L r _ h3 p e R s m args below meth c H' _ cells slots mc ms ls Z hF (am_astore (s := s) (i := i.toNatClampNeg) (v := _) hR (by decide) h1 x1 x2 x3 rfl rfl (by show Value.int (if _ then _ else _) = _; rw [if_pos ⟨rfl, rfl⟩] <;> rfl) (fun j hj => ⟨by rw [am_i_wi, if_neg (fun q => hj q.2)], rfl⟩) (fun b hb => funext fun j => by rw [am_i_wi, if_neg (fun q => hb q.1)]) (fun b hb => rfl)) (fun q hq => by rcases List.mem_append.mp hq with h9 | h9; exact hlo q h9; rw [List.mem_singleton.mp h9]; exact (hR.2.2.2.1 a _ h1 rfl).1) hL c1 c2 c3 c4 c5 c6 hz
  · exact h.elim
theorem sx_cast (hd : decode M.2.1 pc = .ok (.castore, 1)) (hk : ∀ L st σ, K L st σ → am_W g l M d lim Q (pc + 1) L st σ) : ∀ L st σ, ax_astI 1 (fun x => vp_nar .char x) K L st σ → am_W g l M d lim Q pc L st σ := by
  intro L st σ h
  intro p e R s m args below meth c H locs cells slots mc ms ls Z hF hR hlo hL c1 c2 c3 c4 c5 c6 hz
  unfold ax_astI at h
  split at h
  · rename_i x i a r
    obtain ⟨n, h1, h2, h3⟩ := h
    have e2 := (hR.2.2.2.1 a _ h1 rfl).2.2
    have e3 := ((hF.2.2.2.2.2.2.1.2.1 1 _ rfl (by decide)).1 n (fun j => am_gv (am_i σ) (am_r σ) (am_ar 1) a j))
    refine W.cast hF.1 hF.2.1 e2 e3 (fun z => by cases z) (by show ¬ (i < 0 ∨ (arrV _ _ _).slots.size ≤ _); rw [arrV_size]; exact h2.vp) rfl rfl hd (fun H' x1 x2 x3 => ?_)
    exact hk L r _ h3 p e R s m args below meth c H' _ cells slots mc ms ls Z hF (am_astore (s := s) (i := i.toNatClampNeg) (v := _) hR (by decide) h1 x1 x2 x3 rfl rfl (by show Value.int (if _ then _ else _) = _; rw [if_pos ⟨rfl, rfl⟩] <;> rfl) (fun j hj => ⟨by rw [am_i_wi, if_neg (fun q => hj q.2)], rfl⟩) (fun b hb => funext fun j => by rw [am_i_wi, if_neg (fun q => hb q.1)]) (fun b hb => rfl)) (fun q hq => by rcases List.mem_append.mp hq with h9 | h9; exact hlo q h9; rw [List.mem_singleton.mp h9]; exact (hR.2.2.2.1 a _ h1 rfl).1) hL c1 c2 c3 c4 c5 c6 hz
  · exact h.elim
theorem sx_zast (hd : decode M.2.1 pc = .ok (.bastore, 1)) (hk : ∀ L st σ, K L st σ → am_W g l M d lim Q (pc + 1) L st σ) : ∀ L st σ, ax_astI 2 (fun x => vp_nar .boolean x) K L st σ → am_W g l M d lim Q pc L st σ := by
  intro L st σ h
  intro p e R s m args below meth c H locs cells slots mc ms ls Z hF hR hlo hL c1 c2 c3 c4 c5 c6 hz
  unfold ax_astI at h
  split at h
  · rename_i x i a r
    obtain ⟨n, h1, h2, h3⟩ := h
    have e2 := (hR.2.2.2.1 a _ h1 rfl).2.2
    have e3 := ((hF.2.2.2.2.2.2.1.2.1 2 _ rfl (by decide)).1 n (fun j => am_gv (am_i σ) (am_r σ) (am_ar 2) a j))
    refine W.zast hF.1 hF.2.1 e2 e3 (fun z => by cases z) (by show ¬ (i < 0 ∨ (arrV _ _ _).slots.size ≤ _); rw [arrV_size]; exact h2.vp) rfl rfl hd (fun H' x1 x2 x3 => ?_)
    exact hk L r _ h3 p e R s m args below meth c H' _ cells slots mc ms ls Z hF (am_astore (s := s) (i := i.toNatClampNeg) (v := _) hR (by decide) h1 x1 x2 x3 rfl rfl (by show Value.int (if _ then _ else _) = _; rw [if_pos ⟨rfl, rfl⟩] <;> rfl) (fun j hj => ⟨by rw [am_i_wi, if_neg (fun q => hj q.2)], rfl⟩) (fun b hb => funext fun j => by rw [am_i_wi, if_neg (fun q => hb q.1)]) (fun b hb => rfl)) (fun q hq => by rcases List.mem_append.mp hq with h9 | h9; exact hlo q h9; rw [List.mem_singleton.mp h9]; exact (hR.2.2.2.1 a _ h1 rfl).1) hL c1 c2 c3 c4 c5 c6 hz
  · exact h.elim
end SX
