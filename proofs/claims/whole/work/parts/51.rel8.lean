/-! ===== the logs ===== -/
def RG (s t : St) : Prop := s 68 1 = t 111 37 ∧ ct (t 111 37) ≤ 12 ∧ (∀ k, k < ct (t 111 37) → ∃ m, m < 60 ∧ t (487 + k) 0 = nI m ∧ (t (487 + k) 1 = 0 ∨ t (487 + k) 1 = 1) ∧ s 70 m = t (487 + k) 1 + 1) ∧ ∀ m, m < 60 → s 70 m = 0 ∨ ∃ k, k < ct (t 111 37) ∧ t (487 + k) 0 = nI m
theorem fit_e {s t : St} (h : RG s t) {p a : Int32} (hp : ¬ p = 0) : fit s p a ↔ mlgA t p a := by
  obtain ⟨-, -, h1, h2⟩ := h
  have l : ∀ x, lft x p = x - x / p * p := fun x => if_neg hp
  have key : ∀ k, k < ct (t 111 37) → ∀ m, m < 60 → t (487 + k) 0 = nI m → (t (487 + k) 1 = 0 ∨ t (487 + k) 1 = 1) → s 70 m = t (487 + k) 1 + 1 → (¬ lgF s p a m ↔ mlg t p a k) := by
    intro k _ m hm e0 eb es
    unfold lgF mlg
    rw [rg_nI hm (by decide), es, l, e0]
    by_cases q : nI m - nI m / p * p = a
    · rw [if_pos q]
      rcases eb with z | z <;> rw [z]
      · exact ⟨fun y => absurd rfl y, fun y => absurd (y.mp q) (by decide)⟩
      · exact ⟨fun _ => ⟨fun _ => rfl, fun _ => q⟩, fun _ => by decide⟩
    · rw [if_neg q]
      rcases eb with z | z <;> rw [z]
      · exact ⟨fun _ => ⟨fun y => absurd y q, fun y => absurd y (by decide)⟩, fun _ => by decide⟩
      · exact ⟨fun y => absurd rfl y, fun y => absurd (y.mpr rfl) q⟩
  constructor
  · intro hf k hk
    obtain ⟨m, hm, e0, eb, es⟩ := h1 k hk
    exact (key k hk m hm e0 eb es).mp (hf m hm)
  · intro hf m hm
    rcases h2 m hm with z | ⟨k, hk, e0⟩
    · unfold lgF; rw [rg_nI hm (by decide), z]; split <;> decide
    · obtain ⟨m', hm', e0', eb, es⟩ := h1 k hk
      have hmm : m = m' := by
        have := e0.symm.trans e0'
        rw [znI_eq (by omega) (by omega)] at this; exact this
      subst hmm
      exact (key k hk m hm e0 eb es).mpr (hf k hk)
theorem nI_nz {i : Nat} (h : i < 1000) : ¬ nI (i + 1) = 0 := by
  rw [show (0 : Int32) = nI 0 from rfl, znI_eq (by omega) (by omega)]; omega
theorem lw_e {s t : St} (h : RG s t) {m : Int32} : lwW s m 9 = mwW t m 9 := by
  unfold lwW mwW
  refine it_congr (fun i hi x => ?_)
  unfold lwA mwA
  refine it_congr (fun j hj y => ?_)
  unfold lwB mwB
  have hf := fit_e h (p := nI (i + 1)) (a := nI j) (nI_nz (by omega))
  by_cases q : mlgA t (nI (i + 1)) (nI j)
  · rw [if_neg (fun z => z (hf.mpr q)), if_neg (fun z => b2_z z q)]
    rw [show lft m (nI (i + 1)) = m - m / nI (i + 1) * nI (i + 1) from if_neg (nI_nz (by omega))]
  · rw [if_pos (fun z => q (hf.mp z)), if_pos (b2_f q)]
theorem lwV_e {s t : St} (h : RG s t) {m : Int32} : lwV s m = mwV t m := by
  unfold lwV mwV
  rw [lw_e h]
  by_cases q : (mwW t m 9).1 < (mwW t m 9).2
  · rw [if_pos q, if_neg (fun z => by rw [i_lt] at q z; omega)]
  · rw [if_neg q]
    by_cases q2 : (mwW t m 9).2 < (mwW t m 9).1
    · rw [if_pos q2]
    · rw [if_neg q2, i_eq]; rw [i_lt] at q q2; omega
theorem bm_e {s t : St} (h : RG s t) : ∀ n, n ≤ 60 → (bmF s n).1 = (mlF t n).1 ∧ (¬ (bmF s n).1 = -1 → (bmF s n).2 = (mlF t n).2 ∧ (mlF t n).2 = mwV t (mlF t n).1) := by
  intro n
  induction n with
  | zero => intro _; exact ⟨rfl, fun z => absurd rfl z⟩
  | succ n ih =>
    intro hn
    obtain ⟨h1, h2⟩ := ih (by omega)
    have hno : rg (s 70) 60 (nI n) = 0 ↔ mno t (nI n) := by
      obtain ⟨-, -, g1, g2⟩ := h
      rw [rg_nI (by omega) (by decide)]
      constructor
      · intro z k hk e
        obtain ⟨m, hm, e0, eb, es⟩ := g1 k hk
        have hmm : m = n := by
          have := e0.symm.trans e
          rw [znI_eq (by omega) (by omega)] at this; exact this
        subst hmm
        rw [z] at es
        rcases eb with y | y <;> rw [y] at es <;> exact absurd es (by decide)
      · intro z
        rcases g2 n (by omega) with y | ⟨k, hk, e⟩
        · exact y
        · exact absurd e (z k hk)
    show (bmB s n (bmF s n)).1 = (mlk t n (mlF t n)).1 ∧ (¬ (bmB s n (bmF s n)).1 = -1 → (bmB s n (bmF s n)).2 = (mlk t n (mlF t n)).2 ∧ (mlk t n (mlF t n)).2 = mwV t (mlk t n (mlF t n)).1)
    unfold bmB mlk
    by_cases q : mno t (nI n)
    · rw [if_neg (show ¬ ¬ rg (s 70) 60 (nI n) = 0 from fun z => z (hno.mpr q)), if_neg (show ¬ ¬ b2 (¬ mno t (nI n)) = 0 from fun z => z (b2_f (fun y => y q))), lwV_e h, ← h1]
      by_cases c : (bmF s n).1 = -1
      · rw [if_pos (Or.inl c), if_pos (Or.inl c)]; exact ⟨rfl, fun _ => ⟨rfl, rfl⟩⟩
      · have e2 := (h2 c).1
        rw [e2]
        by_cases d : mwV t (nI n) < (mlF t n).2
        · rw [if_pos (Or.inr d), if_pos (Or.inr d)]; exact ⟨rfl, fun _ => ⟨rfl, rfl⟩⟩
        · rw [if_neg (fun z => z.elim c d), if_neg (fun z => z.elim c d)]; exact ⟨h1, h2⟩
    · rw [if_pos (show ¬ rg (s 70) 60 (nI n) = 0 from fun z => q (hno.mp z)), if_pos (show ¬ b2 (¬ mno t (nI n)) = 0 from fun z => b2_z z q)]; exact ⟨h1, h2⟩
theorem pigeon : ∀ (n : Nat) (f : Nat → Nat), ∃ m, m ≤ n ∧ ∀ k, k < n → f k ≠ m := by
  intro n
  induction n with
  | zero => intro f; exact ⟨0, Nat.le_refl _, fun k hk => absurd hk (Nat.not_lt_zero k)⟩
  | succ n ih =>
    intro f
    obtain ⟨m, hm, hg⟩ := ih (fun k => if f k = n + 1 then f n else f k)
    by_cases q : m = f n
    · refine ⟨n + 1, Nat.le_refl _, fun k hk => ?_⟩
      rcases Nat.lt_or_ge k n with hk2 | hk2
      · intro z
        have := hg k hk2
        simp only [z, if_pos] at this
        exact this q.symm
      · have : k = n := by omega
        subst this; omega
    · refine ⟨m, by omega, fun k hk => ?_⟩
      rcases Nat.lt_or_ge k n with hk2 | hk2
      · intro z
        have h9 := hg k hk2
        have hne : ¬ f k = n + 1 := by omega
        simp only [if_neg hne] at h9
        exact h9 z
      · have : k = n := by omega
        subst this; exact fun z => q z.symm
theorem bm_some {s t : St} (h : RG s t) : ∀ n, n ≤ 60 → (∃ m, m < n ∧ mno t (nI m)) → ¬ (bmF s n).1 = -1 := by
  intro n
  induction n with
  | zero => intro _ ⟨m, hm, _⟩; omega
  | succ n ih =>
    intro hn ⟨m, hm, hmn⟩
    show ¬ (bmB s n (bmF s n)).1 = -1
    unfold bmB
    by_cases q : rg (s 70) 60 (nI n) = 0
    · rw [if_neg (fun z => z q)]
      by_cases c : (bmF s n).1 = -1 ∨ lwV s (nI n) < (bmF s n).2
      · rw [if_pos c]; exact nI_ne (by omega)
      · rw [if_neg c]; exact fun z => c (Or.inl z)
    · rw [if_pos q]
      refine ih (by omega) ⟨m, ?_, hmn⟩
      rcases Nat.lt_or_ge m n with z | z
      · exact z
      · have hmn' : m = n := by omega
        subst hmn'
        obtain ⟨-, -, g1, g2⟩ := h
        rw [rg_nI (by omega) (by decide)] at q
        rcases g2 m (by omega) with y | ⟨k, hk, e⟩
        · exact absurd y q
        · exact absurd e (hmn k hk)
theorem q_look {s t : St} (h : RG s t) {w : Int32} : (if w = 0 then (bmF s 60).1 else lwV s (bmF s 60).1) = mlo t w := by
  obtain ⟨m, hm, hg⟩ := pigeon (ct (t 111 37)) (fun k => (t (487 + k) 0).toInt.toNat)
  have hn := h.2.1
  have hs := bm_some h 60 (Nat.le_refl _) ⟨m, by omega, fun k hk z => hg k hk (by
    show (t (487 + k) 0).toInt.toNat = m
    rw [z, i_nI (by omega)]; exact Int.toNat_natCast m)⟩
  obtain ⟨h1, h2⟩ := bm_e h 60 (Nat.le_refl _)
  unfold mlo
  rw [lwV_e h, h1, (h2 hs).2]
