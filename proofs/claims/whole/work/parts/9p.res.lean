/-! a run has one outcome -/
theorem yRes.one {W : xp_W} {dr : List Nat} {D D1 D2 : xx_D} {i : Nat} {a1 a2 : Int32} (hi : i < 4) (h : yRes W dr D i a1 D1) (h' : yRes W dr D i a2 D2) : a1 = a2 ∧ D1 = D2 := by
  have hni : ¬ nI i = -1 := nI_m1 (by omega)
  rcases h with ⟨p1, p2, p3⟩ | ⟨p1, p2, p3, p4⟩ | ⟨p1, p2, p3, p4⟩ <;> rcases h' with ⟨q1, q2, q3⟩ | ⟨q1, q2, q3, q4⟩ | ⟨q1, q2, q3, q4⟩
  · exact ⟨p2.trans q2.symm, p3.trans q3.symm⟩
  · rw [p1] at q1; cases q1
  · rw [p1] at q1; cases q1
  · rw [p1] at q1; cases q1
  · exact ⟨p3.trans q3.symm, p4.trans q4.symm⟩
  · rw [p2] at q2; cases q2
  · rw [p1] at q1; cases q1
  · rw [p2] at q2; cases q2
  · rcases p4 with ⟨r1, r2, r3, r4⟩ | ⟨r1, t, L1, r2, r3, r4, r5⟩ | ⟨r1, t, Bz, L1, r2, r3, r4, r5, r6⟩ <;> rcases q4 with ⟨s1, s2, s3, s4⟩ | ⟨s1, t', L2, s2, s3, s4, s5⟩ | ⟨s1, t', Bz', L2, s2, s3, s4, s5, s6⟩
    · exact ⟨r3.trans s3.symm, r4.trans s4.symm⟩
    · exact absurd s1 r2
    · exact absurd s1 r1
    · exact absurd r1 s2
    · have e : t = t' := by rw [r3] at s3; exact (nI_inj (by omega) (by omega)).mp s3
      subst e
      obtain ⟨u1, u2⟩ := r4.one s4
      exact ⟨u1, by rw [r5, s5, u2]⟩
    · rw [r1] at s1; exact absurd s1 hni
    · exact absurd r1 s1
    · rw [r1] at s1; exact absurd s1.symm hni
    · have e : t = t' := by rw [r3] at s3; exact (nI_inj (by omega) (by omega)).mp s3
      subst e
      obtain ⟨u1, u2⟩ := r4.one s4
      subst u1 u2
      exact ⟨r5.trans s5.symm, r6.trans s6.symm⟩
