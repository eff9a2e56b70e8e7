/-! setting the registers -/
theorem yt_a {σ : am_S} {a k v j p : Nat} {T : Nat → Nat} (h : am_i σ a j = nI (T (p + j))) : am_i (am_wi σ a k (nI v)) a j = nI (yt T (p + k) v (p + j)) := by
  by_cases e : j = k
  · rw [e, ym_is, yt_s]
  · rw [ym_ij e, yt_o (by omega)]; exact h
theorem yR.f25 {σ : am_S} {m v : Nat} {T : Nat → Nat} (h : yR σ m T) : yR (am_wi σ m 25 (nI v)) m (yt T 0 v) := by
  obtain ⟨g25, gt, g26, g27, ga, g32, g37, g38, g33, g34, g35, g36, g39⟩ := h
  exact ⟨(by rw [ym_is, yt_s]), (fun j hj => by rw [ym_io (by omega), yt_o (by omega)]; exact gt j hj), (by rw [ym_ij (by decide), yt_o (by decide)]; exact g26), (by rw [ym_ij (by decide), yt_o (by decide)]; exact g27), (fun j hj => ⟨by rw [ym_io (by omega), yt_o (by omega)]; exact (ga j hj).1, by rw [ym_io (by omega), yt_o (by omega)]; exact (ga j hj).2.1, by rw [ym_io (by omega), yt_o (by omega)]; exact (ga j hj).2.2⟩), (by rw [ym_ij (by decide), yt_o (by decide)]; exact g32), (by rw [ym_ij (by decide), yt_o (by decide)]; exact g37), (by rw [ym_ij (by decide), yt_o (by decide)]; exact g38), (by rw [ym_ij (by decide), yt_o (by decide)]; exact g33), (by rw [ym_ij (by decide), yt_o (by decide)]; exact g34), (by rw [ym_ij (by decide), yt_o (by decide)]; exact g35), (by rw [ym_ij (by decide), yt_o (by decide)]; exact g36), (by rw [ym_ij (by decide), yt_o (by decide)]; exact g39)⟩
theorem yR.f26 {σ : am_S} {m v : Nat} {T : Nat → Nat} (h : yR σ m T) : yR (am_wi σ m 26 (nI v)) m (yt T 3 v) := by
  obtain ⟨g25, gt, g26, g27, ga, g32, g37, g38, g33, g34, g35, g36, g39⟩ := h
  exact ⟨(by rw [ym_ij (by decide), yt_o (by decide)]; exact g25), (fun j hj => by rw [ym_io (by omega), yt_o (by omega)]; exact gt j hj), (by rw [ym_is, yt_s]), (by rw [ym_ij (by decide), yt_o (by decide)]; exact g27), (fun j hj => ⟨by rw [ym_io (by omega), yt_o (by omega)]; exact (ga j hj).1, by rw [ym_io (by omega), yt_o (by omega)]; exact (ga j hj).2.1, by rw [ym_io (by omega), yt_o (by omega)]; exact (ga j hj).2.2⟩), (by rw [ym_ij (by decide), yt_o (by decide)]; exact g32), (by rw [ym_ij (by decide), yt_o (by decide)]; exact g37), (by rw [ym_ij (by decide), yt_o (by decide)]; exact g38), (by rw [ym_ij (by decide), yt_o (by decide)]; exact g33), (by rw [ym_ij (by decide), yt_o (by decide)]; exact g34), (by rw [ym_ij (by decide), yt_o (by decide)]; exact g35), (by rw [ym_ij (by decide), yt_o (by decide)]; exact g36), (by rw [ym_ij (by decide), yt_o (by decide)]; exact g39)⟩
theorem yR.f27 {σ : am_S} {m v : Nat} {T : Nat → Nat} (h : yR σ m T) : yR (am_wi σ m 27 (nI v)) m (yt T 4 v) := by
  obtain ⟨g25, gt, g26, g27, ga, g32, g37, g38, g33, g34, g35, g36, g39⟩ := h
  exact ⟨(by rw [ym_ij (by decide), yt_o (by decide)]; exact g25), (fun j hj => by rw [ym_io (by omega), yt_o (by omega)]; exact gt j hj), (by rw [ym_ij (by decide), yt_o (by decide)]; exact g26), (by rw [ym_is, yt_s]), (fun j hj => ⟨by rw [ym_io (by omega), yt_o (by omega)]; exact (ga j hj).1, by rw [ym_io (by omega), yt_o (by omega)]; exact (ga j hj).2.1, by rw [ym_io (by omega), yt_o (by omega)]; exact (ga j hj).2.2⟩), (by rw [ym_ij (by decide), yt_o (by decide)]; exact g32), (by rw [ym_ij (by decide), yt_o (by decide)]; exact g37), (by rw [ym_ij (by decide), yt_o (by decide)]; exact g38), (by rw [ym_ij (by decide), yt_o (by decide)]; exact g33), (by rw [ym_ij (by decide), yt_o (by decide)]; exact g34), (by rw [ym_ij (by decide), yt_o (by decide)]; exact g35), (by rw [ym_ij (by decide), yt_o (by decide)]; exact g36), (by rw [ym_ij (by decide), yt_o (by decide)]; exact g39)⟩
theorem yR.f32 {σ : am_S} {m v : Nat} {T : Nat → Nat} (h : yR σ m T) : yR (am_wi σ m 32 (nI v)) m (yt T 17 v) := by
  obtain ⟨g25, gt, g26, g27, ga, g32, g37, g38, g33, g34, g35, g36, g39⟩ := h
  exact ⟨(by rw [ym_ij (by decide), yt_o (by decide)]; exact g25), (fun j hj => by rw [ym_io (by omega), yt_o (by omega)]; exact gt j hj), (by rw [ym_ij (by decide), yt_o (by decide)]; exact g26), (by rw [ym_ij (by decide), yt_o (by decide)]; exact g27), (fun j hj => ⟨by rw [ym_io (by omega), yt_o (by omega)]; exact (ga j hj).1, by rw [ym_io (by omega), yt_o (by omega)]; exact (ga j hj).2.1, by rw [ym_io (by omega), yt_o (by omega)]; exact (ga j hj).2.2⟩), (by rw [ym_is, yt_s]), (by rw [ym_ij (by decide), yt_o (by decide)]; exact g37), (by rw [ym_ij (by decide), yt_o (by decide)]; exact g38), (by rw [ym_ij (by decide), yt_o (by decide)]; exact g33), (by rw [ym_ij (by decide), yt_o (by decide)]; exact g34), (by rw [ym_ij (by decide), yt_o (by decide)]; exact g35), (by rw [ym_ij (by decide), yt_o (by decide)]; exact g36), (by rw [ym_ij (by decide), yt_o (by decide)]; exact g39)⟩
theorem yR.f37 {σ : am_S} {m v : Nat} {T : Nat → Nat} (h : yR σ m T) : yR (am_wi σ m 37 (nI v)) m (yt T 18 v) := by
  obtain ⟨g25, gt, g26, g27, ga, g32, g37, g38, g33, g34, g35, g36, g39⟩ := h
  exact ⟨(by rw [ym_ij (by decide), yt_o (by decide)]; exact g25), (fun j hj => by rw [ym_io (by omega), yt_o (by omega)]; exact gt j hj), (by rw [ym_ij (by decide), yt_o (by decide)]; exact g26), (by rw [ym_ij (by decide), yt_o (by decide)]; exact g27), (fun j hj => ⟨by rw [ym_io (by omega), yt_o (by omega)]; exact (ga j hj).1, by rw [ym_io (by omega), yt_o (by omega)]; exact (ga j hj).2.1, by rw [ym_io (by omega), yt_o (by omega)]; exact (ga j hj).2.2⟩), (by rw [ym_ij (by decide), yt_o (by decide)]; exact g32), (by rw [ym_is, yt_s]), (by rw [ym_ij (by decide), yt_o (by decide)]; exact g38), (by rw [ym_ij (by decide), yt_o (by decide)]; exact g33), (by rw [ym_ij (by decide), yt_o (by decide)]; exact g34), (by rw [ym_ij (by decide), yt_o (by decide)]; exact g35), (by rw [ym_ij (by decide), yt_o (by decide)]; exact g36), (by rw [ym_ij (by decide), yt_o (by decide)]; exact g39)⟩
theorem yR.f38 {σ : am_S} {m v : Nat} {T : Nat → Nat} (h : yR σ m T) : yR (am_wi σ m 38 (nI v)) m (yt T 19 v) := by
  obtain ⟨g25, gt, g26, g27, ga, g32, g37, g38, g33, g34, g35, g36, g39⟩ := h
  exact ⟨(by rw [ym_ij (by decide), yt_o (by decide)]; exact g25), (fun j hj => by rw [ym_io (by omega), yt_o (by omega)]; exact gt j hj), (by rw [ym_ij (by decide), yt_o (by decide)]; exact g26), (by rw [ym_ij (by decide), yt_o (by decide)]; exact g27), (fun j hj => ⟨by rw [ym_io (by omega), yt_o (by omega)]; exact (ga j hj).1, by rw [ym_io (by omega), yt_o (by omega)]; exact (ga j hj).2.1, by rw [ym_io (by omega), yt_o (by omega)]; exact (ga j hj).2.2⟩), (by rw [ym_ij (by decide), yt_o (by decide)]; exact g32), (by rw [ym_ij (by decide), yt_o (by decide)]; exact g37), (by rw [ym_is, yt_s]), (by rw [ym_ij (by decide), yt_o (by decide)]; exact g33), (by rw [ym_ij (by decide), yt_o (by decide)]; exact g34), (by rw [ym_ij (by decide), yt_o (by decide)]; exact g35), (by rw [ym_ij (by decide), yt_o (by decide)]; exact g36), (by rw [ym_ij (by decide), yt_o (by decide)]; exact g39)⟩
theorem yR.f33 {σ : am_S} {m v : Nat} {T : Nat → Nat} (h : yR σ m T) : yR (am_wi σ m 33 (nI v)) m (yt T 20 v) := by
  obtain ⟨g25, gt, g26, g27, ga, g32, g37, g38, g33, g34, g35, g36, g39⟩ := h
  exact ⟨(by rw [ym_ij (by decide), yt_o (by decide)]; exact g25), (fun j hj => by rw [ym_io (by omega), yt_o (by omega)]; exact gt j hj), (by rw [ym_ij (by decide), yt_o (by decide)]; exact g26), (by rw [ym_ij (by decide), yt_o (by decide)]; exact g27), (fun j hj => ⟨by rw [ym_io (by omega), yt_o (by omega)]; exact (ga j hj).1, by rw [ym_io (by omega), yt_o (by omega)]; exact (ga j hj).2.1, by rw [ym_io (by omega), yt_o (by omega)]; exact (ga j hj).2.2⟩), (by rw [ym_ij (by decide), yt_o (by decide)]; exact g32), (by rw [ym_ij (by decide), yt_o (by decide)]; exact g37), (by rw [ym_ij (by decide), yt_o (by decide)]; exact g38), (by rw [ym_is, yt_s]), (by rw [ym_ij (by decide), yt_o (by decide)]; exact g34), (by rw [ym_ij (by decide), yt_o (by decide)]; exact g35), (by rw [ym_ij (by decide), yt_o (by decide)]; exact g36), (by rw [ym_ij (by decide), yt_o (by decide)]; exact g39)⟩
theorem yR.f34 {σ : am_S} {m v : Nat} {T : Nat → Nat} (h : yR σ m T) : yR (am_wi σ m 34 (nI v)) m (yt T 21 v) := by
  obtain ⟨g25, gt, g26, g27, ga, g32, g37, g38, g33, g34, g35, g36, g39⟩ := h
  exact ⟨(by rw [ym_ij (by decide), yt_o (by decide)]; exact g25), (fun j hj => by rw [ym_io (by omega), yt_o (by omega)]; exact gt j hj), (by rw [ym_ij (by decide), yt_o (by decide)]; exact g26), (by rw [ym_ij (by decide), yt_o (by decide)]; exact g27), (fun j hj => ⟨by rw [ym_io (by omega), yt_o (by omega)]; exact (ga j hj).1, by rw [ym_io (by omega), yt_o (by omega)]; exact (ga j hj).2.1, by rw [ym_io (by omega), yt_o (by omega)]; exact (ga j hj).2.2⟩), (by rw [ym_ij (by decide), yt_o (by decide)]; exact g32), (by rw [ym_ij (by decide), yt_o (by decide)]; exact g37), (by rw [ym_ij (by decide), yt_o (by decide)]; exact g38), (by rw [ym_ij (by decide), yt_o (by decide)]; exact g33), (by rw [ym_is, yt_s]), (by rw [ym_ij (by decide), yt_o (by decide)]; exact g35), (by rw [ym_ij (by decide), yt_o (by decide)]; exact g36), (by rw [ym_ij (by decide), yt_o (by decide)]; exact g39)⟩
theorem yR.f35 {σ : am_S} {m v : Nat} {T : Nat → Nat} (h : yR σ m T) : yR (am_wi σ m 35 (nI v)) m (yt T 22 v) := by
  obtain ⟨g25, gt, g26, g27, ga, g32, g37, g38, g33, g34, g35, g36, g39⟩ := h
  exact ⟨(by rw [ym_ij (by decide), yt_o (by decide)]; exact g25), (fun j hj => by rw [ym_io (by omega), yt_o (by omega)]; exact gt j hj), (by rw [ym_ij (by decide), yt_o (by decide)]; exact g26), (by rw [ym_ij (by decide), yt_o (by decide)]; exact g27), (fun j hj => ⟨by rw [ym_io (by omega), yt_o (by omega)]; exact (ga j hj).1, by rw [ym_io (by omega), yt_o (by omega)]; exact (ga j hj).2.1, by rw [ym_io (by omega), yt_o (by omega)]; exact (ga j hj).2.2⟩), (by rw [ym_ij (by decide), yt_o (by decide)]; exact g32), (by rw [ym_ij (by decide), yt_o (by decide)]; exact g37), (by rw [ym_ij (by decide), yt_o (by decide)]; exact g38), (by rw [ym_ij (by decide), yt_o (by decide)]; exact g33), (by rw [ym_ij (by decide), yt_o (by decide)]; exact g34), (by rw [ym_is, yt_s]), (by rw [ym_ij (by decide), yt_o (by decide)]; exact g36), (by rw [ym_ij (by decide), yt_o (by decide)]; exact g39)⟩
theorem yR.f36 {σ : am_S} {m v : Nat} {T : Nat → Nat} (h : yR σ m T) : yR (am_wi σ m 36 (nI v)) m (yt T 23 v) := by
  obtain ⟨g25, gt, g26, g27, ga, g32, g37, g38, g33, g34, g35, g36, g39⟩ := h
  exact ⟨(by rw [ym_ij (by decide), yt_o (by decide)]; exact g25), (fun j hj => by rw [ym_io (by omega), yt_o (by omega)]; exact gt j hj), (by rw [ym_ij (by decide), yt_o (by decide)]; exact g26), (by rw [ym_ij (by decide), yt_o (by decide)]; exact g27), (fun j hj => ⟨by rw [ym_io (by omega), yt_o (by omega)]; exact (ga j hj).1, by rw [ym_io (by omega), yt_o (by omega)]; exact (ga j hj).2.1, by rw [ym_io (by omega), yt_o (by omega)]; exact (ga j hj).2.2⟩), (by rw [ym_ij (by decide), yt_o (by decide)]; exact g32), (by rw [ym_ij (by decide), yt_o (by decide)]; exact g37), (by rw [ym_ij (by decide), yt_o (by decide)]; exact g38), (by rw [ym_ij (by decide), yt_o (by decide)]; exact g33), (by rw [ym_ij (by decide), yt_o (by decide)]; exact g34), (by rw [ym_ij (by decide), yt_o (by decide)]; exact g35), (by rw [ym_is, yt_s]), (by rw [ym_ij (by decide), yt_o (by decide)]; exact g39)⟩
theorem yR.f39 {σ : am_S} {m v : Nat} {T : Nat → Nat} (h : yR σ m T) : yR (am_wi σ m 39 (nI v)) m (yt T 24 v) := by
  obtain ⟨g25, gt, g26, g27, ga, g32, g37, g38, g33, g34, g35, g36, g39⟩ := h
  exact ⟨(by rw [ym_ij (by decide), yt_o (by decide)]; exact g25), (fun j hj => by rw [ym_io (by omega), yt_o (by omega)]; exact gt j hj), (by rw [ym_ij (by decide), yt_o (by decide)]; exact g26), (by rw [ym_ij (by decide), yt_o (by decide)]; exact g27), (fun j hj => ⟨by rw [ym_io (by omega), yt_o (by omega)]; exact (ga j hj).1, by rw [ym_io (by omega), yt_o (by omega)]; exact (ga j hj).2.1, by rw [ym_io (by omega), yt_o (by omega)]; exact (ga j hj).2.2⟩), (by rw [ym_ij (by decide), yt_o (by decide)]; exact g32), (by rw [ym_ij (by decide), yt_o (by decide)]; exact g37), (by rw [ym_ij (by decide), yt_o (by decide)]; exact g38), (by rw [ym_ij (by decide), yt_o (by decide)]; exact g33), (by rw [ym_ij (by decide), yt_o (by decide)]; exact g34), (by rw [ym_ij (by decide), yt_o (by decide)]; exact g35), (by rw [ym_ij (by decide), yt_o (by decide)]; exact g36), (by rw [ym_is, yt_s])⟩
theorem yR.tab {σ : am_S} {m v k : Nat} {T : Nat → Nat} (h : yR σ m T) (hk : k < 2) : yR (am_wi σ (m + 16) k (nI v)) m (yt T (1 + k) v) := by
  obtain ⟨g25, gt, g26, g27, ga, g32, g37, g38, g33, g34, g35, g36, g39⟩ := h
  exact ⟨(by rw [ym_io (by omega), yt_o (by omega)]; exact g25), fun j hj => yt_a (p := 1) (gt j hj), (by rw [ym_io (by omega), yt_o (by omega)]; exact g26), (by rw [ym_io (by omega), yt_o (by omega)]; exact g27), fun j hj => ⟨(by rw [ym_io (by omega), yt_o (by omega)]; exact (ga j hj).1), (by rw [ym_io (by omega), yt_o (by omega)]; exact (ga j hj).2.1), (by rw [ym_io (by omega), yt_o (by omega)]; exact (ga j hj).2.2)⟩, (by rw [ym_io (by omega), yt_o (by omega)]; exact g32), (by rw [ym_io (by omega), yt_o (by omega)]; exact g37), (by rw [ym_io (by omega), yt_o (by omega)]; exact g38), (by rw [ym_io (by omega), yt_o (by omega)]; exact g33), (by rw [ym_io (by omega), yt_o (by omega)]; exact g34), (by rw [ym_io (by omega), yt_o (by omega)]; exact g35), (by rw [ym_io (by omega), yt_o (by omega)]; exact g36), (by rw [ym_io (by omega), yt_o (by omega)]; exact g39)⟩
theorem yR.srt {σ : am_S} {m v k : Nat} {T : Nat → Nat} (h : yR σ m T) (hk : k < 4) : yR (am_wi σ (m + 17) k (nI v)) m (yt T (5 + k) v) := by
  obtain ⟨g25, gt, g26, g27, ga, g32, g37, g38, g33, g34, g35, g36, g39⟩ := h
  exact ⟨(by rw [ym_io (by omega), yt_o (by omega)]; exact g25), fun j hj => (by rw [ym_io (by omega), yt_o (by omega)]; exact gt j hj), (by rw [ym_io (by omega), yt_o (by omega)]; exact g26), (by rw [ym_io (by omega), yt_o (by omega)]; exact g27), fun j hj => ⟨yt_a (p := 5) ((ga j hj).1), (by rw [ym_io (by omega), yt_o (by omega)]; exact (ga j hj).2.1), (by rw [ym_io (by omega), yt_o (by omega)]; exact (ga j hj).2.2)⟩, (by rw [ym_io (by omega), yt_o (by omega)]; exact g32), (by rw [ym_io (by omega), yt_o (by omega)]; exact g37), (by rw [ym_io (by omega), yt_o (by omega)]; exact g38), (by rw [ym_io (by omega), yt_o (by omega)]; exact g33), (by rw [ym_io (by omega), yt_o (by omega)]; exact g34), (by rw [ym_io (by omega), yt_o (by omega)]; exact g35), (by rw [ym_io (by omega), yt_o (by omega)]; exact g36), (by rw [ym_io (by omega), yt_o (by omega)]; exact g39)⟩
theorem yR.frm {σ : am_S} {m v k : Nat} {T : Nat → Nat} (h : yR σ m T) (hk : k < 4) : yR (am_wi σ (m + 18) k (nI v)) m (yt T (9 + k) v) := by
  obtain ⟨g25, gt, g26, g27, ga, g32, g37, g38, g33, g34, g35, g36, g39⟩ := h
  exact ⟨(by rw [ym_io (by omega), yt_o (by omega)]; exact g25), fun j hj => (by rw [ym_io (by omega), yt_o (by omega)]; exact gt j hj), (by rw [ym_io (by omega), yt_o (by omega)]; exact g26), (by rw [ym_io (by omega), yt_o (by omega)]; exact g27), fun j hj => ⟨(by rw [ym_io (by omega), yt_o (by omega)]; exact (ga j hj).1), yt_a (p := 9) ((ga j hj).2.1), (by rw [ym_io (by omega), yt_o (by omega)]; exact (ga j hj).2.2)⟩, (by rw [ym_io (by omega), yt_o (by omega)]; exact g32), (by rw [ym_io (by omega), yt_o (by omega)]; exact g37), (by rw [ym_io (by omega), yt_o (by omega)]; exact g38), (by rw [ym_io (by omega), yt_o (by omega)]; exact g33), (by rw [ym_io (by omega), yt_o (by omega)]; exact g34), (by rw [ym_io (by omega), yt_o (by omega)]; exact g35), (by rw [ym_io (by omega), yt_o (by omega)]; exact g36), (by rw [ym_io (by omega), yt_o (by omega)]; exact g39)⟩
theorem yR.tto {σ : am_S} {m v k : Nat} {T : Nat → Nat} (h : yR σ m T) (hk : k < 4) : yR (am_wi σ (m + 19) k (nI v)) m (yt T (13 + k) v) := by
  obtain ⟨g25, gt, g26, g27, ga, g32, g37, g38, g33, g34, g35, g36, g39⟩ := h
  exact ⟨(by rw [ym_io (by omega), yt_o (by omega)]; exact g25), fun j hj => (by rw [ym_io (by omega), yt_o (by omega)]; exact gt j hj), (by rw [ym_io (by omega), yt_o (by omega)]; exact g26), (by rw [ym_io (by omega), yt_o (by omega)]; exact g27), fun j hj => ⟨(by rw [ym_io (by omega), yt_o (by omega)]; exact (ga j hj).1), (by rw [ym_io (by omega), yt_o (by omega)]; exact (ga j hj).2.1), yt_a (p := 13) ((ga j hj).2.2)⟩, (by rw [ym_io (by omega), yt_o (by omega)]; exact g32), (by rw [ym_io (by omega), yt_o (by omega)]; exact g37), (by rw [ym_io (by omega), yt_o (by omega)]; exact g38), (by rw [ym_io (by omega), yt_o (by omega)]; exact g33), (by rw [ym_io (by omega), yt_o (by omega)]; exact g34), (by rw [ym_io (by omega), yt_o (by omega)]; exact g35), (by rw [ym_io (by omega), yt_o (by omega)]; exact g36), (by rw [ym_io (by omega), yt_o (by omega)]; exact g39)⟩
/-! condition -/
theorem yZC.reg {σ : am_S} {m k : Nat} {v : Int32} {ts : List (Nat × Int32)} {S : yc_S} {W : List Nat} {ns : Int32} {w : Bool} (h : yZC σ m ts S W ns w) (hk : 24 ≤ k) : yZC (am_wi σ m k v) m ts S W ns w := yZ.reg h hk
theorem ycd_55 {g : am_G} {l : Launch} {m a d tp us : Nat} {ts : List (Nat × Int32)} {W : List Nat} {ns ou st : Int32} {w : Bool} {T : Nat → Nat} {Q : Option Value → am_S → Prop} (hd : 2 ≤ d) : ∀ (H : List Nat) (σ : am_S) (b : Bool) (o : yp_O), yZ σ m ts a b o W H ns ou w → yR σ m T → o.length + H.length ≤ 99 → H.length ≤ 82 → am_tp σ = tp → am_us σ = us →
    (∀ σ', yZ σ' m ts a (b || decide (13 ∈ H)) (o ++ qe H) W [] ns 0 w → yR σ' m (yt T 19 (o ++ qe H).length) → ye_f m σ σ' → Q none σ') → am_W g l mX10_condition d (tp, us) Q 55 [some (.ref m), some (.int st)] [] σ := by
  intro H
  induction H with
  | nil =>
    intro σ b o h hR hl hl2 h1 h2 hQ
    obtain ⟨hH, hT, hP, hW, hHH⟩ := id h
    have e20 : am_i σ m 20 = 0 := hP.2.2.2.2.1.1
    have e18 : am_i σ m 18 = nI o.length := hP.2.2.1.1
    have hf : yb_f m σ (am_wi σ m 22 0) := yb_f.rf.wf (by decide) (by decide)
    have h' : yZ (am_wi σ m 22 0) m ts a b o W [] ns 0 w := h.up hf (hP.ouw 0) hW hHH
    have hR' := hR.f hf
    have e : o ++ qe [] = o := by simp [qe]
    have eb : (b || decide (13 ∈ ([] : List Nat))) = b := by simp
    rw [e, eb] at hQ
    refine kX10_condition_55 ?_
    simp (disch := omega) only [ax_const, ax_iload, ax_lload, ax_aload, ax_istore, ax_astore, ax_iinc, ax_i2, ax_i2n, ax_l2, ax_lsh, ax_ii, ax_il, ax_li, ax_pop, ax_dup, ax_dup2, ax_if, ax_cmp, ax_acmp, ax_goto, ax_getI, ax_getR, ax_putI, ax_putR, ax_gets, ax_getsT, ax_aldI, ax_aldR, ax_astI, ax_astR, ax_alen, ax_ret, ax_aret, ax_vret, am_st, am_kl, List.getElem?_cons_zero, List.getElem?_cons_succ, List.set_cons_zero, List.set_cons_succ, Value.category, true_and, and_true, if_true, if_false, reduceCtorEq, Bool.false_eq_true, false_implies, forall_const, Option.some.injEq, exists_eq_left', exists_eq_left, Sum.inl.injEq, Sum.inr.injEq, Prod.mk.injEq, am_sh_wi, am_r_wi, am_tp_wi, am_us_wi, ym_is, ym_io, ym_ij, hH.1, e20, e18]
    refine ⟨fun z => absurd z (by decide), fun _ => ⟨h1, h2, hQ _ (h'.reg (by decide)) hR'.f38 ((ye_f.of hf).wf (by decide) (by decide))⟩⟩
  | cons x H ih =>
    intro σ b o h hR hl hl2 h1 h2 hQ
    obtain ⟨hH, hT, hP, hW, hHH⟩ := id h
    have hx := hHH x List.mem_cons_self
    rw [List.length_cons] at hl hl2
    have e20 : am_i σ m 20 = nI (H.length + 1) := hP.2.2.2.2.1.1
    have ev : am_i σ (m + 15) H.length = nI x := hP.hpop.2
    have l91 : ∀ b', b' = (b || decide (x = 13)) → am_W g l mX10_condition d (tp, us) Q 91 [some (.ref m), some (.int st)] [.int (yb b'), .ref m] σ := by
      intro b' hb'
      have hb01 : yb b' = 0 ∨ yb b' = 1 := by cases b' <;> decide
      have hf : yb_f m σ (am_wi σ m 13 (yb b')) := yb_f.rf.wf (by decide) (by decide)
      have h' : yZ (am_wi σ m 13 (yb b')) m ts a b' o W (x :: H) ns ou w := h.up hf (hP.bd b') hW hHH
      have h1' := hf.tp.trans h1
      have h2' := hf.us.trans h2
      have hR' := hR.f hf
      refine kX10_condition_91 ?_
      simp (disch := omega) only [ax_const, ax_iload, ax_lload, ax_aload, ax_istore, ax_astore, ax_iinc, ax_i2, ax_i2n, ax_l2, ax_lsh, ax_ii, ax_il, ax_li, ax_pop, ax_dup, ax_dup2, ax_if, ax_cmp, ax_acmp, ax_goto, ax_getI, ax_getR, ax_putI, ax_putR, ax_gets, ax_getsT, ax_aldI, ax_aldR, ax_astI, ax_astR, ax_alen, ax_ret, ax_aret, ax_vret, am_st, am_kl, List.getElem?_cons_zero, List.getElem?_cons_succ, List.set_cons_zero, List.set_cons_succ, Value.category, true_and, and_true, if_true, if_false, reduceCtorEq, Bool.false_eq_true, false_implies, forall_const, Option.some.injEq, exists_eq_left', exists_eq_left, Sum.inl.injEq, Sum.inr.injEq, Prod.mk.injEq, hH.1]
      refine ⟨hb01, ?_⟩
      generalize am_wi σ m 13 (yb b') = σ1 at *
      refine am_callK [.ref m] [] (d' := 1) (lim' := (am_tp σ1, am_us σ1)) rfl (by omega) (by rw [h1']; exact Nat.le_refl _) (by rw [h2']; exact Nat.le_refl _) rfl (by decide) (am_recv h'.1.1) ?_
      refine c_yunhold h' (by omega) (by omega) (fun σ2 k2 f2 t2 u2 => ?_)
      simp (disch := omega) only [ax_const, ax_iload, ax_lload, ax_aload, ax_istore, ax_astore, ax_iinc, ax_i2, ax_i2n, ax_l2, ax_lsh, ax_ii, ax_il, ax_li, ax_pop, ax_dup, ax_dup2, ax_if, ax_cmp, ax_acmp, ax_goto, ax_getI, ax_getR, ax_putI, ax_putR, ax_gets, ax_getsT, ax_aldI, ax_aldR, ax_astI, ax_astR, ax_alen, ax_ret, ax_aret, ax_vret, am_st, am_kl, List.getElem?_cons_zero, List.getElem?_cons_succ, List.set_cons_zero, List.set_cons_succ, Value.category, true_and, and_true, if_true, if_false, reduceCtorEq, Bool.false_eq_true, false_implies, forall_const, Option.some.injEq, exists_eq_left', exists_eq_left, Sum.inl.injEq, Sum.inr.injEq, Prod.mk.injEq, Option.toList_some, Option.toList_none, List.cons_append, List.nil_append, List.append_nil]
      refine ih σ2 b' (o ++ [(x, 0)]) k2 (hR'.f f2) (by rw [List.length_append]; simp; omega) (by omega) (t2.trans h1') (u2.trans h2') (fun σ3 k3 r3 f3 => hQ σ3 ?_ ?_ ((ye_f.of (hf.tr f2)).tr f3))
      · have eb : (b || decide (13 ∈ x :: H)) = (b' || decide (13 ∈ H)) := by
          rw [hb']
          by_cases c : x = 13
          · subst c
            simp
          · have : ¬ (13 = x) := fun e => c e.symm
            simp [c, this]
        rw [eb]
        have eo : o ++ qe (x :: H) = o ++ [(x, 0)] ++ qe H := by simp [qe]
        rw [eo]
        exact k3
      · have eo : o ++ qe (x :: H) = o ++ [(x, 0)] ++ qe H := by simp [qe]
        rw [eo]
        exact r3
    refine kX10_condition_55 ?_
    cases b with
    | true =>
      have e13 : am_i σ m 13 = 1 := hP.2.1
      have o1 : ¬ (1 : Int32) = 0 := by decide
      simp (disch := omega) only [ax_const, ax_iload, ax_lload, ax_aload, ax_istore, ax_astore, ax_iinc, ax_i2, ax_i2n, ax_l2, ax_lsh, ax_ii, ax_il, ax_li, ax_pop, ax_dup, ax_dup2, ax_if, ax_cmp, ax_acmp, ax_goto, ax_getI, ax_getR, ax_putI, ax_putR, ax_gets, ax_getsT, ax_aldI, ax_aldR, ax_astI, ax_astR, ax_alen, ax_ret, ax_aret, ax_vret, am_st, am_kl, List.getElem?_cons_zero, List.getElem?_cons_succ, List.set_cons_zero, List.set_cons_succ, Value.category, true_and, and_true, if_true, if_false, reduceCtorEq, Bool.false_eq_true, false_implies, forall_const, Option.some.injEq, exists_eq_left', exists_eq_left, Sum.inl.injEq, Sum.inr.injEq, Prod.mk.injEq, nI_toInt, nI_clamp, am_ix_nI, am_ix_0, am_ix_1, am_ix_2, am_ix_3, am_n0, am_n1, am_n2, am_n3, am_n4, am_t0, am_t1, am_t2, am_t3, am_t4, am_tm1, am_nS, am_nP, am_nM, Int.ofNat_lt, Int.ofNat_le, hH.1, e20, yl_t0, e13, o1]
      exact ⟨fun _ _ => l91 true (by rw [Bool.true_or]), fun z => by omega⟩
    | false =>
      have e13 : am_i σ m 13 = 0 := hP.2.1
      simp (disch := omega) only [ax_const, ax_iload, ax_lload, ax_aload, ax_istore, ax_astore, ax_iinc, ax_i2, ax_i2n, ax_l2, ax_lsh, ax_ii, ax_il, ax_li, ax_pop, ax_dup, ax_dup2, ax_if, ax_cmp, ax_acmp, ax_goto, ax_getI, ax_getR, ax_putI, ax_putR, ax_gets, ax_getsT, ax_aldI, ax_aldR, ax_astI, ax_astR, ax_alen, ax_ret, ax_aret, ax_vret, am_st, am_kl, List.getElem?_cons_zero, List.getElem?_cons_succ, List.set_cons_zero, List.set_cons_succ, Value.category, true_and, and_true, if_true, if_false, reduceCtorEq, Bool.false_eq_true, false_implies, forall_const, Option.some.injEq, exists_eq_left', exists_eq_left, Sum.inl.injEq, Sum.inr.injEq, Prod.mk.injEq, nI_toInt, nI_clamp, am_ix_nI, am_ix_0, am_ix_1, am_ix_2, am_ix_3, am_n0, am_n1, am_n2, am_n3, am_n4, am_t0, am_t1, am_t2, am_t3, am_t4, am_tm1, am_nS, am_nP, am_nM, Int.ofNat_lt, Int.ofNat_le, hH.1, hH.r17, hH.s17, e20, yl_t0, yl_m1, Nat.add_sub_cancel, e13, ev, yl_13, yl_eq]
      exact ⟨fun _ => ⟨⟨by omega, fun c => l91 true (by rw [decide_eq_true c]; rfl), fun c => l91 false (by rw [decide_eq_false c]; rfl)⟩, fun z => absurd trivial z⟩, fun z => by omega⟩
theorem yc_single_st {ts : List (Nat × Int32)} {S : yc_S} : (yc_single ts S).2.2.2.2.2 = 1 ∨ (yc_single ts S).2.2.2.2.2 = 2 := by
  unfold yc_single
  split
  · exact Or.inr rfl
  · exact Or.inl rfl
theorem yc_conn_st {ts : List (Nat × Int32)} {S : yc_S} : (yc_conn ts S).2.2.2.2.2 ≤ 2 := by
  unfold yc_conn
  split
  · exact Nat.le_refl _
  · split
    · exact Nat.le_succ _
    · exact Nat.zero_le _
theorem ycd_15 {g : am_G} {l : Launch} {m d tp us : Nat} {ts : List (Nat × Int32)} {T : Nat → Nat} {Q : Option Value → am_S → Prop} (hEN : xp_EN ts) (hd : 6 ≤ d) : ∀ (n : Nat) (S : yc_S) (σ : am_S) (W : List Nat) (ns : Int32) (w : Bool), yc_mu ts S < n → S.2.2.2.2.2 ≤ 2 → yZC σ m ts S W ns w → yR σ m T → yc_I ts S → am_tp σ = tp → am_us σ = us →
    (∀ σ' W' ns' w', yZ σ' m ts (yc_fin (yc_R ts S)).1 (yc_fin (yc_R ts S)).2.1 (yc_fin (yc_R ts S)).2.2 W' [] ns' 0 w' → yR σ' m (yt T 19 (yc_fin (yc_R ts S)).2.2.length) → ye_f m σ σ' → Q none σ') → am_W g l mX10_condition d (tp, us) Q 15 [some (.ref m), some (.int (nI S.2.2.2.2.2))] [] σ := by
  intro n
  induction n with
  | zero => intro S σ W ns w h; exact absurd h (Nat.not_lt_zero _)
  | succ n ih =>
    intro S σ W ns w hn hst h hR hI h1 h2 hQ
    obtain ⟨hH, hT, hP, hW, hHH⟩ := id h
    have hts := hT.1
    obtain ⟨hI1, hI2, hI3⟩ := id hI
    have hif : (if S.2.1 = true then 1 else 0) ≤ 1 := by split <;> omega
    have stop : (S.2.2.2.2.2 = 0 ∨ S.2.1 = true) → am_W g l mX10_condition d (tp, us) Q 55 [some (.ref m), some (.int (nI S.2.2.2.2.2))] [] σ := by
      intro c
      rw [yc_R_stop c] at hQ
      exact ycd_55 (by omega) S.2.2.2.2.1 σ S.2.1 S.2.2.1 h hR (by omega) (by omega) h1 h2 (fun σ' k r f => hQ σ' W ns w k r f)
    refine kX10_condition_15 ?_
    cases hb : S.2.1 with
    | true =>
      have e13 : am_i σ m 13 = 1 := by rw [hP.2.1, hb]; rfl
      have o1 : ¬ (1 : Int32) = 0 := by decide
      simp (disch := omega) only [ax_const, ax_iload, ax_lload, ax_aload, ax_istore, ax_astore, ax_iinc, ax_i2, ax_i2n, ax_l2, ax_lsh, ax_ii, ax_il, ax_li, ax_pop, ax_dup, ax_dup2, ax_if, ax_cmp, ax_acmp, ax_goto, ax_getI, ax_getR, ax_putI, ax_putR, ax_gets, ax_getsT, ax_aldI, ax_aldR, ax_astI, ax_astR, ax_alen, ax_ret, ax_aret, ax_vret, am_st, am_kl, List.getElem?_cons_zero, List.getElem?_cons_succ, List.set_cons_zero, List.set_cons_succ, Value.category, true_and, and_true, if_true, if_false, reduceCtorEq, Bool.false_eq_true, false_implies, forall_const, Option.some.injEq, exists_eq_left', exists_eq_left, Sum.inl.injEq, Sum.inr.injEq, Prod.mk.injEq, yl_t0, hH.1, e13, o1]
      exact ⟨fun _ _ => stop (Or.inr hb), fun _ => stop (Or.inr hb)⟩
    | false =>
      have e13 : am_i σ m 13 = 0 := by rw [hP.2.1, hb]; rfl
      simp (disch := omega) only [ax_const, ax_iload, ax_lload, ax_aload, ax_istore, ax_astore, ax_iinc, ax_i2, ax_i2n, ax_l2, ax_lsh, ax_ii, ax_il, ax_li, ax_pop, ax_dup, ax_dup2, ax_if, ax_cmp, ax_acmp, ax_goto, ax_getI, ax_getR, ax_putI, ax_putR, ax_gets, ax_getsT, ax_aldI, ax_aldR, ax_astI, ax_astR, ax_alen, ax_ret, ax_aret, ax_vret, am_st, am_kl, List.getElem?_cons_zero, List.getElem?_cons_succ, List.set_cons_zero, List.set_cons_succ, Value.category, true_and, and_true, if_true, if_false, reduceCtorEq, Bool.false_eq_true, false_implies, forall_const, Option.some.injEq, exists_eq_left', exists_eq_left, Sum.inl.injEq, Sum.inr.injEq, Prod.mk.injEq, yl_t0, hH.1, e13, yl_2, yl_eq]
      refine ⟨fun c0 => ⟨⟨fun c2 => ?_, fun c2 => ?_⟩, fun z => absurd trivial z⟩, fun c0 => stop (Or.inl (by omega))⟩
      · refine am_callK [.ref m] [] (d' := 5) (lim' := (am_tp σ, am_us σ)) rfl (by omega) (by rw [h1]; exact Nat.le_refl _) (by rw [h2]; exact Nat.le_refl _) rfl (by decide) (am_recv hH.1) ?_
        refine c_ysingle hEN h hI hb (fun σ2 W2 ns2 w2 k2 f2 t2 u2 => ?_)
        have hmu := yc_mu_single (ts := ts) c2
        rw [yc_R_single hb c2] at hQ
        have nx := ih (yc_single ts S) σ2 W2 ns2 w2 (by omega) (by have := yc_single_st (ts := ts) (S := S); omega) k2 (hR.f f2) (yc_single_I hEN hI hb) (t2.trans h1) (u2.trans h2) (fun σ' W' ns' w' k r f => hQ σ' W' ns' w' k r ((ye_f.of f2).tr f))
        rcases yc_single_st (ts := ts) (S := S) with e | e
        · rw [e] at nx ⊢
          have e1 : yb (decide (1 = 1)) = 1 := rfl
          have o1 : ¬ (1 : Int32) = 0 := by decide
          rw [e1]
          simp (disch := omega) only [ax_const, ax_iload, ax_lload, ax_aload, ax_istore, ax_astore, ax_iinc, ax_i2, ax_i2n, ax_l2, ax_lsh, ax_ii, ax_il, ax_li, ax_pop, ax_dup, ax_dup2, ax_if, ax_cmp, ax_acmp, ax_goto, ax_getI, ax_getR, ax_putI, ax_putR, ax_gets, ax_getsT, ax_aldI, ax_aldR, ax_astI, ax_astR, ax_alen, ax_ret, ax_aret, ax_vret, am_st, am_kl, List.getElem?_cons_zero, List.getElem?_cons_succ, List.set_cons_zero, List.set_cons_succ, Value.category, true_and, and_true, if_true, if_false, reduceCtorEq, Bool.false_eq_true, false_implies, forall_const, Option.some.injEq, exists_eq_left', exists_eq_left, Sum.inl.injEq, Sum.inr.injEq, Prod.mk.injEq, Option.toList_some, Option.toList_none, List.cons_append, List.nil_append, List.append_nil, o1]
          exact fun _ => nx
        · rw [e] at nx ⊢
          have e1 : yb (decide (2 = 1)) = 0 := rfl
          rw [e1]
          simp (disch := omega) only [ax_const, ax_iload, ax_lload, ax_aload, ax_istore, ax_astore, ax_iinc, ax_i2, ax_i2n, ax_l2, ax_lsh, ax_ii, ax_il, ax_li, ax_pop, ax_dup, ax_dup2, ax_if, ax_cmp, ax_acmp, ax_goto, ax_getI, ax_getR, ax_putI, ax_putR, ax_gets, ax_getsT, ax_aldI, ax_aldR, ax_astI, ax_astR, ax_alen, ax_ret, ax_aret, ax_vret, am_st, am_kl, List.getElem?_cons_zero, List.getElem?_cons_succ, List.set_cons_zero, List.set_cons_succ, Value.category, true_and, and_true, if_true, if_false, reduceCtorEq, Bool.false_eq_true, false_implies, forall_const, Option.some.injEq, exists_eq_left', exists_eq_left, Sum.inl.injEq, Sum.inr.injEq, Prod.mk.injEq, Option.toList_some, Option.toList_none, List.cons_append, List.nil_append, List.append_nil]
          exact ⟨nx, fun z => absurd trivial z⟩
      · refine am_callK [.ref m] [] (d' := 3) (lim' := (am_tp σ, am_us σ)) rfl (by omega) (by rw [h1]; exact Nat.le_refl _) (by rw [h2]; exact Nat.le_refl _) rfl (by decide) (am_recv hH.1) ?_
        refine c_yconnect hEN h hI hb (fun σ2 k2 f2 t2 u2 => ?_)
        have hmu := yc_mu_conn (ts := ts) (S := S) (by omega)
        rw [yc_R_conn hb (by omega)] at hQ
        have nx := ih (yc_conn ts S) σ2 W ns w (by omega) yc_conn_st k2 (hR.f f2) (yc_conn_I hEN hI hb) (t2.trans h1) (u2.trans h2) (fun σ' W' ns' w' k r f => hQ σ' W' ns' w' k r ((ye_f.of f2).tr f))
        simp (disch := omega) only [ax_const, ax_iload, ax_lload, ax_aload, ax_istore, ax_astore, ax_iinc, ax_i2, ax_i2n, ax_l2, ax_lsh, ax_ii, ax_il, ax_li, ax_pop, ax_dup, ax_dup2, ax_if, ax_cmp, ax_acmp, ax_goto, ax_getI, ax_getR, ax_putI, ax_putR, ax_gets, ax_getsT, ax_aldI, ax_aldR, ax_astI, ax_astR, ax_alen, ax_ret, ax_aret, ax_vret, am_st, am_kl, List.getElem?_cons_zero, List.getElem?_cons_succ, List.set_cons_zero, List.set_cons_succ, Value.category, true_and, and_true, if_true, if_false, reduceCtorEq, Bool.false_eq_true, false_implies, forall_const, Option.some.injEq, exists_eq_left', exists_eq_left, Sum.inl.injEq, Sum.inr.injEq, Prod.mk.injEq, Option.toList_some, Option.toList_none, List.cons_append, List.nil_append, List.append_nil]
        exact nx
theorem c_ycond {g : am_G} {l : Launch} {σ : am_S} {m a : Nat} {ts : List (Nat × Int32)} {o : yp_O} {W : List Nat} {ns : Int32} {w : Bool} {T : Nat → Nat} {Q : Option Value → am_S → Prop} (hEN : xp_EN ts) (h : yZ σ m ts a false o W [] ns 0 w) (hR : yR σ m T) (ha : a < ts.length) (hI : o.length + 1 ≤ a)
    (hQ : ∀ σ' W' ns' w', yZ σ' m ts (yc_co ts a o).1 (yc_co ts a o).2.1 (yc_co ts a o).2.2 W' [] ns' 0 w' → yR σ' m (yt (yt (yt T 17 1) 18 o.length) 19 (yc_co ts a o).2.2.length) → ye_f m σ σ' → Q none σ') : am_C g l mX10_condition 6 (am_tp σ, am_us σ) [.ref m] σ Q := by
  obtain ⟨hH, hT, hP, hW, hHH⟩ := id h
  have e18 : am_i σ m 18 = nI o.length := hP.2.2.1.1
  have y1 : (1 : Int32) = nI 1 := rfl
  refine am_C.go [some (.ref m), none] (by decide +kernel) (Nat.le_of_ble_eq_true rfl) rfl (kX10_condition_0 ?_)
  simp (disch := omega) only [ax_const, ax_iload, ax_lload, ax_aload, ax_istore, ax_astore, ax_iinc, ax_i2, ax_i2n, ax_l2, ax_lsh, ax_ii, ax_il, ax_li, ax_pop, ax_dup, ax_dup2, ax_if, ax_cmp, ax_acmp, ax_goto, ax_getI, ax_getR, ax_putI, ax_putR, ax_gets, ax_getsT, ax_aldI, ax_aldR, ax_astI, ax_astR, ax_alen, ax_ret, ax_aret, ax_vret, am_st, am_kl, List.getElem?_cons_zero, List.getElem?_cons_succ, List.set_cons_zero, List.set_cons_succ, Value.category, true_and, and_true, if_true, if_false, reduceCtorEq, Bool.false_eq_true, false_implies, forall_const, Option.some.injEq, exists_eq_left', exists_eq_left, Sum.inl.injEq, Sum.inr.injEq, Prod.mk.injEq, am_sh_wi, am_r_wi, am_tp_wi, am_us_wi, ym_is, ym_io, ym_ij, hH.1, e18]
  refine ⟨Or.inr trivial, ?_⟩
  have hf : ye_f m σ (am_wi (am_wi σ m 32 1) m 37 (nI o.length)) := (ye_f.rf.wf (by decide) (by decide)).wf (by decide) (by decide)
  have h' : yZC (am_wi (am_wi σ m 32 1) m 37 (nI o.length)) m ts (a, false, o, 0, [], 2) W ns w := (h.reg (by decide)).reg (by decide)
  exact ycd_15 hEN (Nat.le_refl _) (yc_mu ts (a, false, o, 0, [], 2) + 1) (a, false, o, 0, [], 2) _ W ns w (Nat.lt_succ_self _) (Nat.le_refl _) h' ((hR.f32 (v := 1)).f37) ⟨fun _ => ha, Nat.le_of_lt ha, by show o.length + 0 + 1 ≤ a + 0; omega⟩ rfl rfl (fun σ' W' ns' w' k r f => hQ σ' W' ns' w' k r (hf.tr f))
