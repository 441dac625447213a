/-! ===== reefs: the longest row ===== -/
/-- a row of r from c on, as long as it goes -/
def rIs (P : Nat → Prop) (N c r : Nat) : Prop := c + r ≤ N ∧ (∀ k, c ≤ k → k < c + r → P k) ∧ (c + r = N ∨ ¬ P (c + r))
/-- how many stand in a row ahead of n -/
def rE (P : Nat → Prop) [DecidablePred P] : Nat → Nat
  | 0 => 0
  | n + 1 => if P n then rE P n + 1 else 0
theorem rE_le {P : Nat → Prop} [DecidablePred P] : ∀ n, rE P n ≤ n := by
  intro n
  induction n with
  | zero => exact Nat.le_refl _
  | succ n ih => rw [rE]; split <;> omega
theorem rE_in {P : Nat → Prop} [DecidablePred P] : ∀ n k, n - rE P n ≤ k → k < n → P k := by
  intro n
  induction n with
  | zero => intro k _ h; omega
  | succ n ih =>
    intro k h1 h2
    rw [rE] at h1
    by_cases p : P n
    · rw [if_pos p] at h1
      by_cases q : k = n
      · rw [q]; exact p
      · have := @rE_le P _ n
        exact ih k (by omega) (by omega)
    · rw [if_neg p] at h1; omega
theorem rE_mx {P : Nat → Prop} [DecidablePred P] : ∀ n a, a ≤ n → (∀ k, a ≤ k → k < n → P k) → n - a ≤ rE P n := by
  intro n
  induction n with
  | zero => intro a _ _; omega
  | succ n ih =>
    intro a ha h
    by_cases q : a = n + 1
    · omega
    · rw [rE, if_pos (h n (by omega) (by omega))]
      have := ih a (by omega) (fun k h1 h2 => h k h1 (by omega))
      omega
theorem rIs_u {P : Nat → Prop} {N c r r' : Nat} (h : rIs P N c r) (h' : rIs P N c r') : r = r' := by
  obtain ⟨a, b, d⟩ := h
  obtain ⟨a', b', d'⟩ := h'
  rcases Nat.lt_trichotomy r r' with z | z | z
  · rcases d with y | y
    · omega
    · exact absurd (b' (c + r) (by omega) (by omega)) y
  · exact z
  · rcases d' with y | y
    · omega
    · exact absurd (b (c + r') (by omega) (by omega)) y
abbrev rfP (σ : St) (c : Nat) : Prop := 0 < σ 117 c
theorem rrf_e {σ : St} (h : RC σ) : ∀ (n c : Nat) (v : Int32), c + n = tl σ 0 → ∃ r, rIs (rfP σ) (tl σ 0) c r ∧ rv (cM σ 0) (rrP σ) (fun v _ => v + 1) v (nI c) = v + nI r := by
  have b0 : (σ 115 0).toInt.toNat ≤ 12 := h.b.1
  have p0 := h.p 0 (by decide)
  have e0 : nI (tl σ 0) = σ 115 0 := nI_bk p0
  intro n
  induction n with
  | zero =>
    intro c v hc
    refine ⟨0, ⟨by omega, fun k h1 h2 => absurd h2 (by omega), Or.inl (by omega)⟩, ?_⟩
    rw [rv_stop (fun z => by
      have := z.1
      rw [h.m0, ← e0, show c = tl σ 0 by omega, i_lt] at this
      omega), show nI 0 = 0 from rfl, Int32.add_zero]
  | succ n ih =>
    intro c v hc
    have hct : c < tl σ 0 := by omega
    have hc12 : c < 12 := by have : tl σ 0 ≤ 12 := b0; omega
    by_cases q : rfP σ c
    · obtain ⟨r, ⟨h1, h2, h3⟩, e⟩ := ih (c + 1) (v + 1) (by omega)
      refine ⟨r + 1, ⟨by omega, fun k a b => ?_, ?_⟩, ?_⟩
      · by_cases z : k = c
        · rw [z]; exact q
        · exact h2 k (by omega) (by omega)
      · rw [show c + (r + 1) = c + 1 + r by omega]; exact h3
      · rw [rv_go (by rw [h.m0, ← e0, znI_lt (by omega) (by have : tl σ 0 ≤ 12 := b0; omega)]; exact hct) (decide_eq_true ⟨by rw [i_le, i_nI (by omega)]; have : (0 : Int32).toInt = 0 := rfl; omega, by rw [h.r hct]; exact q⟩), nI_s, e, ← nI_s, Int32.add_assoc, Int32.add_comm 1]
    · refine ⟨0, ⟨by omega, fun k h1 h2 => absurd h2 (by omega), Or.inr q⟩, ?_⟩
      rw [rv_stop (fun z => q (by have := (of_decide_eq_true z.2).2; rw [h.r hct] at this; exact this)), show nI 0 = 0 from rfl, Int32.add_zero]
theorem rrf_is {σ : St} (h : RC σ) {c : Nat} (hc : c ≤ tl σ 0) : ∃ r, rIs (rfP σ) (tl σ 0) c r ∧ rrf σ (nI c) = nI r := by
  obtain ⟨r, h1, h2⟩ := rrf_e h (tl σ 0 - c) c 0 (by omega)
  exact ⟨r, h1, by unfold rrf; rw [h2, Int32.zero_add]⟩
/-- the class, after n cells -/
theorem lrf_is {σ : St} (h : RC σ) : ∀ n, n ≤ tl σ 0 → (lrf σ n = (-1, 0) ∧ ∀ c, c < n → ¬ rfP σ c) ∨ ∃ f L, f < n ∧ 0 < L ∧ lrf σ n = (nI f, nI L) ∧ rIs (rfP σ) (tl σ 0) f L ∧ (∀ c r, c < n → rIs (rfP σ) (tl σ 0) c r → r ≤ L) ∧ ∀ c r, c < f → rIs (rfP σ) (tl σ 0) c r → r < L := by
  have b0 : tl σ 0 ≤ 12 := h.b.1
  intro n
  induction n with
  | zero => intro _; exact Or.inl ⟨rfl, fun c hc => absurd hc (by omega)⟩
  | succ n ih =>
    intro hn
    obtain ⟨r, hr, er⟩ := rrf_is h (show n ≤ tl σ 0 by omega)
    have es : lrf σ (n + 1) = lrB σ n (lrf σ n) := rfl
    rw [es]; unfold lrB; rw [er]
    have hrN := hr.1
    rcases ih (by omega) with ⟨e, hP⟩ | ⟨f, L, hf, hL, e, hI, hm, hs⟩
    · rw [e]
      by_cases q : r = 0
      · subst q
        left
        refine ⟨if_neg (show ¬ (0 : Int32) < nI 0 by decide), fun c hc => ?_⟩
        by_cases z : c = n
        · subst z
          rcases hr.2.2 with y | y
          · omega
          · exact y
        · exact hP c (by omega)
      · right
        refine ⟨n, r, by omega, by omega, if_pos (show (0 : Int32) < nI r from by rw [show (0 : Int32) = nI 0 from rfl, znI_lt (by omega) (by omega)]; omega), hr, fun c r' hc hr' => ?_, fun c r' hc hr' => ?_⟩
        · by_cases z : c = n
          · subst z; rw [rIs_u hr' hr]; exact Nat.le_refl _
          · have : r' = 0 := by
              rcases Nat.eq_zero_or_pos r' with y | y
              · exact y
              · exact absurd (hr'.2.1 c (Nat.le_refl _) (by omega)) (hP c (by omega))
            omega
        · have : r' = 0 := by
            rcases Nat.eq_zero_or_pos r' with y | y
            · exact y
            · exact absurd (hr'.2.1 c (Nat.le_refl _) (by omega)) (hP c (by omega))
          omega
    · rw [e]
      have hLN := hI.1
      right
      by_cases q : L < r
      · refine ⟨n, r, by omega, by omega, if_pos (show nI L < nI r from by rw [znI_lt (by omega) (by omega)]; exact q), hr, fun c r' hc hr' => ?_, fun c r' hc hr' => ?_⟩
        · by_cases z : c = n
          · subst z; rw [rIs_u hr' hr]; exact Nat.le_refl _
          · have := hm c r' (by omega) hr'; omega
        · have := hm c r' (by omega) hr'; omega
      · refine ⟨f, L, by omega, hL, if_neg (show ¬ nI L < nI r from by rw [znI_lt (by omega) (by omega)]; exact q), hI, fun c r' hc hr' => ?_, hs⟩
        by_cases z : c = n
        · subst z; rw [rIs_u hr' hr]; omega
        · exact hm c r' (by omega) hr'
/-- the reference, after n cells -/
theorem mre_is {σ : St} (h : RC σ) : ∀ n, n ≤ tl σ 0 → ∃ L, (mre σ n).1 = nI L ∧ (mre σ n).2.2.1 = nI (rE (rfP σ) n) ∧ (mre σ n).2.2.2 = sm (σ 117) n ∧ (∀ m, m ≤ n → rE (rfP σ) m ≤ L) ∧ (L = 0 ∧ (mre σ n).2.1 = -1 ∨ 0 < L ∧ ∃ m, m ≤ n ∧ L ≤ m ∧ (mre σ n).2.1 = nI (m - L) ∧ rE (rfP σ) m = L ∧ ∀ m', m' < m → rE (rfP σ) m' < L) := by
  have b0 : tl σ 0 ≤ 12 := h.b.1
  intro n
  induction n with
  | zero => intro _; exact ⟨0, rfl, rfl, rfl, fun m hm => by rw [show m = 0 by omega]; exact Nat.le_refl _, Or.inl ⟨rfl, rfl⟩⟩
  | succ n ih =>
    intro hn
    obtain ⟨L, h1, h2, h3, h4, h5⟩ := ih (by omega)
    have hEn := @rE_le (rfP σ) _ n
    have hEm := h4 n (Nat.le_refl _)
    have hL12 : L ≤ n := by
      rcases h5 with ⟨z, -⟩ | ⟨-, m, a, b, -⟩ <;> omega
    have e7 : sm (σ 117) (n + 1) = sm (σ 117) n + σ 117 n := rfl
    by_cases q : σ 117 n ≤ 0
    · have hE : rE (rfP σ) (n + 1) = 0 := by rw [rE, if_neg (i_lelt q)]
      have hx : (0 : Int32) ≤ (mre σ n).1 := by rw [h1, show (0 : Int32) = nI 0 from rfl, znI_le (by omega) (by omega)]; omega
      rw [mre_1 q hx, hE]
      refine ⟨L, h1, rfl, by rw [e7, ← h3], fun m hm => ?_, ?_⟩
      · by_cases z : m = n + 1
        · rw [z, hE]; omega
        · exact h4 m (by omega)
      · rcases h5 with z | ⟨a, m, b, c, d, e, f⟩
        · exact Or.inl z
        · exact Or.inr ⟨a, m, by omega, c, d, e, f⟩
    · have hE : rE (rfP σ) (n + 1) = rE (rfP σ) n + 1 := by rw [rE, if_pos (i_nle q)]
      by_cases y : rE (rfP σ) n + 1 ≤ L
      · have hx : (mre σ n).2.2.1 + 1 ≤ (mre σ n).1 := by rw [h1, h2, nI_s, znI_le (by omega) (by omega)]; exact y
        rw [mre_3 q hx, hE]
        refine ⟨L, h1, by show (mre σ n).2.2.1 + 1 = _; rw [h2, nI_s], by rw [e7, ← h3], fun m hm => ?_, ?_⟩
        · by_cases z : m = n + 1
          · rw [z, hE]; omega
          · exact h4 m (by omega)
        · rcases h5 with z | ⟨a, m, b, c, d, e, f⟩
          · exact Or.inl z
          · exact Or.inr ⟨a, m, by omega, c, d, e, f⟩
      · have hx : ¬ (mre σ n).2.2.1 + 1 ≤ (mre σ n).1 := by rw [h1, h2, nI_s, znI_le (by omega) (by omega)]; exact y
        rw [mre_4 q hx, hE]
        refine ⟨rE (rfP σ) n + 1, by show (mre σ n).2.2.1 + 1 = _; rw [h2, nI_s], by show (mre σ n).2.2.1 + 1 = _; rw [h2, nI_s], by rw [e7, ← h3], fun m hm => ?_, Or.inr ⟨by omega, n + 1, Nat.le_refl _, by omega, ?_, hE, fun m' hm' => ?_⟩⟩
        · by_cases z : m = n + 1
          · rw [z, hE]; omega
          · have := h4 m (by omega); omega
        · show nI n - ((mre σ n).2.2.1 + 1) + 1 = _
          rw [h2, nI_s]
          have t1 : (nI n - nI (rE (rfP σ) n + 1)).toInt = (n : Int) - (rE (rfP σ) n + 1 : Nat) := i_sub (i_nI (by omega)) (i_nI (by omega)) (by omega) (by omega)
          rw [i_eq, i_add t1 (show (1 : Int32).toInt = 1 from rfl) (by omega) (by omega), i_nI (by omega)]
          omega
        · have := h4 m' (by omega); omega
theorem q_reefs {σ : St} (h : RC σ) {w : Int32} (hw : w = 0 ∨ w = 1 ∨ w = 2) : (if w = 2 then sm (fun c => cR σ (nI c)) (nC σ) else if w = 1 then (lrf σ (nC σ)).1 else rrf σ (lrf σ (nC σ)).1) = mrs σ w := by
  have b0 : tl σ 0 ≤ 12 := h.b.1
  have eC : nC σ = tl σ 0 := by unfold nC; rw [h.m0]
  obtain ⟨L, h1, h2, h3, h4, h5⟩ := mre_is h (tl σ 0) (Nat.le_refl _)
  have key : (lrf σ (tl σ 0)).1 = (mre σ (tl σ 0)).2.1 ∧ rrf σ (lrf σ (tl σ 0)).1 = (mre σ (tl σ 0)).1 := by
    rcases lrf_is h (tl σ 0) (Nat.le_refl _) with ⟨e, hP⟩ | ⟨f, M, hf, hM, e, hI, hm, hs⟩
    · have hL : L = 0 := by
        rcases h5 with ⟨z, -⟩ | ⟨a, m, b, c, d, e', f⟩
        · exact z
        · exact absurd (rE_in m (m - 1) (by omega) (by omega)) (hP _ (by omega))
      have h21 : (mre σ (tl σ 0)).2.1 = -1 := by
        rcases h5 with ⟨-, z⟩ | ⟨a, -⟩
        · exact z
        · omega
      rw [e, h21, h1, hL]
      refine ⟨rfl, ?_⟩
      unfold rrf; exact rv_stop (rr1 (by decide))
    · have hMN := hI.1
      have k1 : M ≤ rE (rfP σ) (f + M) := by
        have := rE_mx (P := rfP σ) (f + M) f (by omega) hI.2.1
        omega
      have k2 := h4 (f + M) hMN
      rcases h5 with ⟨z, -⟩ | ⟨a, m, b, c, d, e', g⟩
      · omega
      · obtain ⟨r, hr, er⟩ := rrf_is h (show m - L ≤ tl σ 0 by omega)
        have k3 : L ≤ r := by
          rcases Nat.lt_or_ge r L with y | y
          · rcases hr.2.2 with u | u
            · omega
            · exact absurd (rE_in (P := rfP σ) m (m - L + r) (by omega) (by omega)) u
          · exact y
        have k4 := hm (m - L) r (by omega) hr
        have eL : M = L := by omega
        have k5 : m ≤ f + M := by
          rcases Nat.lt_or_ge (f + M) m with y | y
          · have := g (f + M) y; omega
          · exact y
        have k6 : f ≤ m - L := by
          rcases Nat.lt_or_ge (m - L) f with y | y
          · have := hs (m - L) r y hr; omega
          · exact y
        have ef : f = m - L := by omega
        rw [e, d, h1]
        refine ⟨by rw [ef], ?_⟩
        obtain ⟨r', hr', er'⟩ := rrf_is h (show f ≤ tl σ 0 by omega)
        show rrf σ (nI f) = _
        rw [er', rIs_u hr' hI, eL]
  unfold mrs
  rw [eC]
  rcases hw with rfl | rfl | rfl
  · rw [if_neg (by decide), if_neg (by decide), if_pos rfl]; exact key.2
  · rw [if_neg (by decide), if_pos rfl, if_neg (by decide), if_pos rfl]; exact key.1
  · rw [if_pos rfl, if_neg (by decide), if_neg (by decide), h3]
    exact sm_congr (fun c hc => h.r hc)
