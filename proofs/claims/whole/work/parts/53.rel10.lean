/-! ===== carriers ===== -/
theorem chv_e {σ : St} (h : RC σ) {t x : Nat} (ht : t < tl σ 0) (hx : x < tl σ 0) : chv σ (nI t) (nI x) = mca σ t (nI x) := by
  have b0 := h.b.1
  have e1 : (nI t).toInt = t := i_nI (by omega)
  have e2 : (nI x).toInt = x := i_nI (by omega)
  unfold chv mca
  rw [h.r ht, ab_aw (by omega) (by omega)]
  by_cases q : aw (nI t) (nI x) ≤ 1
  · rw [if_pos q, if_pos (by rw [i_le] at q; rw [i_lt]; have : (1 : Int32).toInt = 1 := rfl; have : (2 : Int32).toInt = 2 := rfl; omega)]
  · rw [if_neg q, if_neg (by rw [i_le] at q; rw [i_lt]; have : (1 : Int32).toInt = 1 := rfl; have : (2 : Int32).toInt = 2 := rfl; omega)]
theorem isr_e {σ : St} (h : RC σ) {t x : Nat} (ht : t < tl σ 0) (hx : x < tl σ 0) : isr σ (nI t) (nI x) ↔ ¬ (σ 117 t = 0 ∨ b2 (mis σ t x) = 0) := by
  have eC : nC σ = tl σ 0 := by unfold nC; rw [h.m0]
  have k : (∀ c, c < nC σ → ¬ rbad σ (nI t) (nI x) c) ↔ mis σ t x := by
    rw [eC]; unfold mis
    have kk : ∀ c, c < tl σ 0 → (rbad σ (nI t) (nI x) c ↔ mrb σ t x c) := fun c hc => by
      unfold rbad mrb; rw [h.r hc, chv_e h ht hx, chv_e h hc hx, chv_e h ht hc]
    exact ⟨fun z c hc y => z c hc ((kk c hc).mpr y), fun z c hc y => z c hc ((kk c hc).mp y)⟩
  unfold isr
  rw [h.r ht, k]
  constructor
  · intro z y; exact y.elim z.1 (fun y => b2_z y z.2)
  · intro z; exact ⟨fun y => z (Or.inl y), Decidable.not_not.mp (fun y => z (Or.inr (b2_f y)))⟩
theorem code100 {t x : Nat} (ht : t < 12) (hx : x < 12) : (100 * nI t + nI x) / 100 = nI t ∧ (100 * nI t + nI x) - (100 * nI t + nI x) / 100 * 100 = nI x := by
  have h100 : (100 : Int32).toInt = 100 := rfl
  have e1 : (100 * nI t).toInt = 100 * t := by
    rw [Int32.toInt_mul, i_nI (by omega), h100]; exact Int.bmod_eq_of_le (by omega) (by omega)
  have e2 : (100 * nI t + nI x).toInt = 100 * t + x := i_add e1 (i_nI (by omega)) (by omega) (by omega)
  refine ⟨?_, ?_⟩
  · rw [i_eq, Int32.toInt_div, e2, h100, i_nI (by omega), Int.tdiv_eq_ediv_of_nonneg (by omega)]
    rw [show (100 * (t : Int) + x) / 100 = t by omega]
    exact Int.bmod_eq_of_le (by omega) (by omega)
  · rw [i_eq, i_rem (by omega) (by omega), e2, h100, i_nI (by omega)]; omega
def cvO (σ : St) : Option Int32 → Int32
  | none => 0
  | some v => chv σ (v / 100) (v - v / 100 * 100)
theorem cr_in {σ : St} (h : RC σ) {t : Nat} (ht : t < tl σ 0) {B : Int} (hB : 0 ≤ B ∧ B ≤ 1000) {x : Int32 × Int32 × Int32} {c : Int32} {o : Option Int32} (hx : cf B (x.1, x.2.1) c o ∧ x.2.2 = cvO σ o) : ∀ (j : Nat), j ≤ tl σ 0 → cf (B + (j : Int)) ((mcrA σ t j x).1, (mcrA σ t j x).2.1) (it (fun k a => a + b2 (isr σ (nI t) (nI k))) c j) (orE o (fnd (frH σ t) j)) ∧ (mcrA σ t j x).2.2 = cvO σ (orE o (fnd (frH σ t) j)) := by
  have b0 := h.b.1
  intro j
  induction j with
  | zero =>
    intro _
    have hB0 : B + ((0 : Nat) : Int) = B := by omega
    rw [hB0]
    show cf B (x.1, x.2.1) c (orE o none) ∧ x.2.2 = cvO σ (orE o none)
    rw [orE_n]; exact hx
  | succ j ih =>
    intro hj
    obtain ⟨g, g2⟩ := ih (by omega)
    have eB : B + ((j + 1 : Nat) : Int) = B + j + 1 := by omega
    have eM : mcrA σ t (j + 1) x = mcrB σ t j (mcrA σ t j x) := rfl
    have hf := isr_e h ht (show j < tl σ 0 by omega)
    rw [eB, eM, fnd_o, ← orE_a]
    show cf _ _ (it (fun k a => a + b2 (isr σ (nI t) (nI k))) c j + b2 (isr σ (nI t) (nI j))) _ ∧ _
    have eF : frH σ t j = if isr σ (nI t) (nI j) then some (100 * nI t + nI j) else none := rfl
    rw [eF]
    unfold mcrB
    by_cases q : σ 117 t = 0 ∨ b2 (mis σ t j) = 0
    · rw [if_pos q, b2_f (fun z => hf.mp z q), if_neg (fun z => hf.mp z q)]
      exact ⟨cf_no g, by rw [orE_n]; exact g2⟩
    · rw [if_neg q, b2_t (hf.mpr q), if_pos (hf.mpr q)]
      refine ⟨cf_yes g (by omega), ?_⟩
      obtain ⟨-, -, c3, -, -⟩ := g
      obtain ⟨d1, d2⟩ := code100 (t := t) (x := j) (by omega) (by omega)
      show (if (mcrA σ t j x).1 = 0 then mca σ t (nI j) else (mcrA σ t j x).2.2) = _
      by_cases y : (mcrA σ t j x).1 = 0
      · rw [if_pos y, c3.mp y]
        show _ = chv σ ((100 * nI t + nI j) / 100) (100 * nI t + nI j - (100 * nI t + nI j) / 100 * 100)
        rw [d2, d1]
        exact (chv_e h ht (by omega)).symm
      · rw [if_neg y, g2]
        cases hz : orE o (fnd (frH σ t) j) with
        | none => exact absurd (c3.mpr hz) y
        | some v => rfl
theorem cr_out {σ : St} (h : RC σ) : ∀ (n : Nat), n ≤ tl σ 0 → cf (12 * (n : Int)) ((mcr σ n).1, (mcr σ n).2.1) (rsT σ n) (fnd (frT σ) n) ∧ (mcr σ n).2.2 = cvO σ (fnd (frT σ) n) := by
  have b0 := h.b.1
  have eC : nC σ = tl σ 0 := by unfold nC; rw [h.m0]
  intro n
  induction n with
  | zero => intro _; exact ⟨⟨rfl, rfl, ⟨fun _ => rfl, fun _ => rfl⟩, (show 0 ≤ (0 : Int32).toInt by decide), (show (0 : Int32).toInt ≤ 12 * ((0 : Nat) : Int) by decide)⟩, rfl⟩
  | succ n ih =>
    intro hn
    have g := cr_in h (show n < tl σ 0 by omega) (B := 12 * n) ⟨by omega, by omega⟩ (ih (by omega)) (tl σ 0) (Nat.le_refl _)
    rw [fnd_o]
    have eP : frT σ n = fnd (frH σ n) (tl σ 0) := by unfold frT; rw [eC]
    have eR : rsT σ (n + 1) = it (fun k a => a + b2 (isr σ (nI n) (nI k))) (rsT σ n) (tl σ 0) := by
      exact congrArg (it (fun k a => a + b2 (isr σ (nI n) (nI k))) (rsT σ n)) eC
    rw [eP, eR]
    obtain ⟨⟨a, b, c, d, e⟩, f⟩ := g
    exact ⟨⟨a, b, c, d, Int.le_trans e (by omega)⟩, f⟩
theorem fnd_w {f : Nat → Option Int32} {n : Nat} {v : Int32} (h : fnd f n = some v) : ∃ k, k < n ∧ f k = some v := by
  induction n with
  | zero => exact absurd h (by simp [fnd])
  | succ n ih =>
    rw [fnd_o] at h
    cases hc : fnd f n with
    | none => rw [hc] at h; exact ⟨n, by omega, h⟩
    | some y =>
      rw [hc] at h
      obtain ⟨k, hk, e⟩ := ih (by rw [hc]; exact h)
      exact ⟨k, by omega, e⟩
theorem fr_ne {σ : St} (h : RC σ) {n : Nat} {v : Int32} (hn : n ≤ tl σ 0) (hz : fnd (frT σ) n = some v) : ¬ v = -1 := by
  have b0 := h.b.1
  have eC : nC σ = tl σ 0 := by unfold nC; rw [h.m0]
  obtain ⟨t, ht, e⟩ := fnd_w hz
  unfold frT at e
  rw [eC] at e
  obtain ⟨x, hx, e2⟩ := fnd_w e
  unfold frH at e2
  by_cases q : isr σ (nI t) (nI x)
  · rw [if_pos q] at e2
    obtain ⟨d1, -⟩ := code100 (t := t) (x := x) (by omega) (by omega)
    intro z
    rw [← Option.some.inj e2] at z
    rw [z] at d1
    have : (-1 : Int32) / 100 = 0 := by decide
    rw [this] at d1
    have h100 : (100 : Int32).toInt = 100 := rfl
    have e1 : (100 * nI t).toInt = 100 * t := by
      rw [Int32.toInt_mul, i_nI (by omega), h100]; exact Int.bmod_eq_of_le (by omega) (by omega)
    have e3 : (100 * nI t + nI x).toInt = 100 * t + x := i_add e1 (i_nI (by omega)) (by omega) (by omega)
    rw [z, show (-1 : Int32).toInt = -1 from rfl] at e3
    omega
  · rw [if_neg q] at e2; exact absurd e2 (by simp)
theorem q_carriers {σ : St} (h : RC σ) {w : Int32} : (if w = 0 then rsT σ (nC σ) else if w = 1 then frs σ else if frs σ = -1 then 0 else chv σ (frs σ / 100) (frs σ - frs σ / 100 * 100)) = mca3 σ w := by
  have eC : nC σ = tl σ 0 := by unfold nC; rw [h.m0]
  obtain ⟨⟨a, b, c, -, -⟩, f⟩ := cr_out h (tl σ 0) (Nat.le_refl _)
  have eF : frs σ = (mcr σ (tl σ 0)).2.1 := by unfold frs; rw [eC]; exact b.symm
  have eV : (if frs σ = -1 then 0 else chv σ (frs σ / 100) (frs σ - frs σ / 100 * 100)) = (mcr σ (tl σ 0)).2.2 := by
    have b' : (mcr σ (tl σ 0)).2.1 = (fnd (frT σ) (tl σ 0)).getD (-1) := b
    rw [f, eF, b']
    cases hz : fnd (frT σ) (tl σ 0) with
    | none => exact if_pos rfl
    | some v =>
      show (if v = -1 then 0 else chv σ (v / 100) (v - v / 100 * 100)) = chv σ (v / 100) (v - v / 100 * 100)
      by_cases y : v = -1
      · exact absurd y (fr_ne h (Nat.le_refl _) hz)
      · rw [if_neg y]
  unfold mca3
  rw [eC, eV, eF, a]
