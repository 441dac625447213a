/-! THE INVARIANT HOLDS AT FIRST -/
theorem z0_115 : ∀ k, k < 5 → σ0 115 k = 0 := by decide +kernel
theorem z0_6 : ∀ k, k < 5 → σ0 6 k = 0 := by decide +kernel
theorem z0_s : σ0 115 5 = 2 ∧ σ0 4 11 = 2 := by decide +kernel
theorem z0_m : σ0 111 23 = 0 ∧ σ0 111 37 = 0 ∧ σ0 111 38 = 0 ∧ σ0 111 39 = 0 ∧ σ0 111 40 = 0 ∧ σ0 111 1 = 0 ∧ σ0 111 3 = -1 := by decide +kernel
theorem z0_l : σ0 50 4 = 3 ∧ σ0 52 0 = 0 ∧ σ0 52 1 = 11 ∧ σ0 54 1 = 1 ∧ σ0 52 2 = 13 := by decide +kernel
theorem z0_c : σ0 68 1 = 0 ∧ σ0 102 3 = 0 ∧ σ0 102 4 = 0 ∧ σ0 1 1 = 0 ∧ σ0 1 6 = -1 ∧ σ0 0 14 = 0 ∧ σ0 0 15 = 0 ∧ σ0 0 16 = 0 ∧ σ0 113 0 = 0 ∧ σ0 113 1 = 0 := by decide +kernel
theorem z0_70 : ∀ m, m < 60 → σ0 70 m = 0 := by decide +kernel
theorem z0_83 : ∀ m, m < 8 → σ0 83 m = 0 := by decide +kernel
theorem z0_122 : ∀ m, m < 29 → σ0 122 m = 0 := by decide +kernel
theorem z0_29 : σ0 122 29 = -1 := by decide +kernel
theorem z0_t : ∀ s, s < 80 → σ0 (511 + s) 1 = 0 := by decide +kernel
theorem z0_o : σ0 3 = σ0 112 := by
  have h := (ba_e (s := mtn ι) mtn_rt).2.2.2.1
  have e3 : σ0 3 = ι 3 := (h 3 (by decide) (by decide) (by decide) (by decide) (by decide) (by decide)).trans (mtn_o (by decide))
  have e112 : σ0 112 = ι 112 := (h 112 (by decide) (by decide) (by decide) (by decide) (by decide) (by decide)).trans (mtn_o (by decide))
  rw [e3, e112, ι_q (by decide), ι_q (by decide)]
  unfold ι1
  rw [up_o (by decide), up_o (by decide), up_o (by decide), up_o (by decide), up_o (by decide), up_o (by decide), up_o (by decide), up_o (by decide)]
  rfl
theorem z0_tl : ∀ k, k < 5 → tl σ0 k = 0 := fun k hk => by unfold tl ct; rw [z0_115 k hk]; decide
theorem RV0 : RV σ0 := by
  have t := z0_tl
  obtain ⟨m23, m37, m38, m39, m40, m1, m3⟩ := z0_m
  obtain ⟨c1, c2, c3, c4, c5, c6, c7, c8, c9, c10⟩ := z0_c
  have nz : (0 : Int32).toInt = 0 := rfl
  have ct0 : ct 0 = 0 := by decide
  refine ⟨⟨⟨?_, ?_, ?_, ?_, ?_, ?_, ?_⟩, ⟨?_, z0_29⟩, ⟨⟨0, ?_⟩, 0, ?_⟩, ?_⟩, fun s hs => by rw [z0_t s hs]; decide⟩
  · refine ⟨fun k hk => by rw [z0_6 k hk, z0_115 k hk], fun k hk => by rw [z0_115 k hk]; decide, ?_, ?_, ?_, ?_, ?_, ?_, ?_, ?_, ?_⟩
    · rw [t 0 (by decide), t 1 (by decide), t 2 (by decide), t 3 (by decide), t 4 (by decide)]; decide
    · rw [z0_s.1, z0_s.2]; decide
    · rw [t 0 (by decide)]; exact fun c hc => absurd hc (Nat.not_lt_zero _)
    · rw [t 4 (by decide)]; exact fun c hc => absurd hc (Nat.not_lt_zero _)
    · rw [t 1 (by decide)]; exact fun c hc => absurd hc (Nat.not_lt_zero _)
    · rw [t 1 (by decide)]; exact fun c hc => absurd hc (Nat.not_lt_zero _)
    · rw [t 2 (by decide)]; exact fun c hc => absurd hc (Nat.not_lt_zero _)
    · rw [t 2 (by decide)]; exact fun c hc => absurd hc (Nat.not_lt_zero _)
    · rw [t 3 (by decide)]; exact fun c hc => absurd hc (Nat.not_lt_zero _)
  · exact Or.inr ⟨m23, z0_l.1, z0_l.2.1, z0_l.2.2.1, z0_l.2.2.2.1, z0_l.2.2.2.2⟩
  · unfold lawOK
    rw [m23, ct0]
    exact ⟨by decide, fun k hk => absurd hk (Nat.not_lt_zero _)⟩
  · unfold RG
    rw [m37, ct0]
    exact ⟨c1, by decide, fun k hk => absurd hk (Nat.not_lt_zero _), fun m hm => Or.inl (z0_70 m hm)⟩
  · exact Or.inl (t 2 (by decide))
  · rw [t 4 (by decide)]; exact fun c hc => absurd hc (Nat.not_lt_zero _)
  · intro c hc; rw [t 3 (by decide)] at hc; exact absurd hc (Nat.not_lt_zero _)
  · rw [t 2 (by decide), t 3 (by decide), t 0 (by decide)]
    have a := z0_83
    have b := z0_122
    refine ⟨(a 0 (by decide)).trans (b 27 (by decide)).symm, ⟨(a 1 (by decide)).trans (b 28 (by decide)).symm, Or.inl (b 28 (by decide))⟩, (a 2 (by decide)).trans (b 23 (by decide)).symm, (a 3 (by decide)).trans (b 24 (by decide)).symm, (a 4 (by decide)).trans (b 25 (by decide)).symm, (a 5 (by decide)).trans (b 26 (by decide)).symm, (a 6 (by decide)).trans (b 0 (by decide)).symm, (a 7 (by decide)).trans (b 4 (by decide)).symm, fun c hc => absurd hc (Nat.not_lt_zero _), fun c hc => absurd hc (Nat.not_lt_zero _), fun c hc => absurd hc (Nat.not_lt_zero _)⟩
  · exact ⟨by decide, m38, c2, fun c hc => absurd hc (Nat.not_lt_zero _)⟩
  · exact ⟨by decide, m40, c3, fun c hc => absurd hc (Nat.not_lt_zero _)⟩
  · exact ⟨⟨c4.trans m1.symm, by rw [m1]; decide, by rw [m1]; decide, z0_o⟩, c5.trans m3.symm, c6.trans m39.symm, c7.trans c9.symm, c8.trans c10.symm⟩
