/-! ===== put ===== -/
def wj (N way : Nat) : Nat → Nat
  | 0 => way
  | j + 1 => wj N way j / N
abbrev dj (N way j : Nat) : Nat := wj N way j % N
theorem wj_le {N way : Nat} : ∀ j, wj N way j ≤ way := by
  intro j
  induction j with
  | zero => exact Nat.le_refl _
  | succ j ih => exact Nat.le_trans (Nat.div_le_self _ _) ih
theorem mpI_e {D N way : Nat} {u : St} (hN : 0 < N) (hN2 : N < 1000) (hw : way < 100000) (hD : D ≤ 3) : ∀ n, n ≤ D → (mpI D (nI N) (nI way) u n).1 = nI (wj N way n) ∧ (mpI D (nI N) (nI way) u n).2.1 = it (fun j x => 16 * x + nI (dj N way j)) 0 n ∧ (∀ o, o ≠ 123 → (mpI D (nI N) (nI way) u n).2.2 o = u o) ∧ (∀ d, d < D → D - n ≤ d → (mpI D (nI N) (nI way) u n).2.2 123 (1 + d) = nI (dj N way (D - 1 - d))) ∧ (∀ j, (j = 0 ∨ D < j) → (mpI D (nI N) (nI way) u n).2.2 123 j = u 123 j) := by
  intro n
  induction n with
  | zero => intro _; exact ⟨rfl, rfl, fun _ _ => rfl, fun d h1 h2 => by omega, fun _ _ => rfl⟩
  | succ n ih =>
    intro hn
    obtain ⟨h1, h2, h3, h4, h5⟩ := ih (by omega)
    have hle := @wj_le N way n
    have er : nI (wj N way n) - nI (wj N way n) / nI N * nI N = nI (dj N way n) := pk_rem (by omega) hN (by omega)
    rw [mpI_s, h1, er]
    refine ⟨pk_div (by omega) hN (by omega), ?_, fun o ho => ?_, fun d hd1 hd2 => ?_, fun j hj => ?_⟩
    · show 16 * (mpI D (nI N) (nI way) u n).2.1 + nI (dj N way n) = 16 * it (fun j x => 16 * x + nI (dj N way j)) 0 n + nI (dj N way n)
      rw [h2]
    · show up (mpI D (nI N) (nI way) u n).2.2 123 (1 + (D - n - 1)) _ o = _
      rw [up_o ho]; exact h3 o ho
    · show up (mpI D (nI N) (nI way) u n).2.2 123 (1 + (D - n - 1)) _ 123 (1 + d) = _
      by_cases q : d = D - n - 1
      · rw [q, up_rd, show D - 1 - (D - n - 1) = n by omega]
      · rw [up_k (by omega)]; exact h4 d hd1 (by omega)
    · show up (mpI D (nI N) (nI way) u n).2.2 123 (1 + (D - n - 1)) _ 123 j = _
      rw [up_k (by omega)]; exact h5 j hj
theorem coR_e {s : St} {D N way : Nat} (hN : 0 < N) (hN2 : N < 1000) (hw : way < 100000) (h0 : cM s 0 = nI N) (h2 : ct (cM s 2) = D) : ∀ n, (coR s (nI way) n).2 = nI (wj N way n) ∧ (coR s (nI way) n).1 = it (fun j x => x ||| (nI (dj N way j) <<< ((4 * (nI (D - j) - 1)) &&& 31))) 0 n := by
  have hNz : ¬ nI N = 0 := by rw [show (0 : Int32) = nI 0 from rfl, znI_eq (by omega) (by omega)]; omega
  intro n
  induction n with
  | zero => exact ⟨rfl, rfl⟩
  | succ n ih =>
    obtain ⟨h1, h3⟩ := ih
    have hle := @wj_le N way n
    have er : nI (wj N way n) - nI (wj N way n) / nI N * nI N = nI (dj N way n) := pk_rem (by omega) hN (by omega)
    have es : coR s (nI way) (n + 1) = ((coR s (nI way) n).1 ||| (lft (coR s (nI way) n).2 (cM s 0) <<< ((4 * (nI (ct (cM s 2) - n) - 1)) &&& 31)), cutz (coR s (nI way) n).2 (cM s 0)) := rfl
    have e1 : lft (nI (wj N way n)) (nI N) = nI (dj N way n) := (if_neg hNz).trans er
    have e2 : cutz (nI (wj N way n)) (nI N) = nI (wj N way (n + 1)) := (if_neg hNz).trans (pk_div (by omega) hN (by omega))
    rw [es, h1, h3, h0, h2, e1, e2]
    exact ⟨rfl, rfl⟩
theorem c3 : ∀ a b e : Fin 12, (((0 ||| (nI a.val <<< ((4 * (nI (3 - 0) - 1)) &&& 31))) ||| (nI b.val <<< ((4 * (nI (3 - 1) - 1)) &&& 31))) ||| (nI e.val <<< ((4 * (nI (3 - 2) - 1)) &&& 31)) : Int32) = 16 * (16 * (16 * 0 + nI a.val) + nI b.val) + nI e.val := by decide +kernel
theorem c3d : ∀ a b e : Fin 12, (((16 * (16 * (16 * 0 + nI a.val) + nI b.val) + nI e.val) >>> ((4 * nI 0) &&& 31)) &&& 15 : Int32) = nI e.val ∧ (((16 * (16 * (16 * 0 + nI a.val) + nI b.val) + nI e.val) >>> ((4 * nI 1) &&& 31)) &&& 15 : Int32) = nI b.val ∧ (((16 * (16 * (16 * 0 + nI a.val) + nI b.val) + nI e.val) >>> ((4 * nI 2) &&& 31)) &&& 15 : Int32) = nI a.val := by decide +kernel
theorem c2 : ∀ a b : Fin 12, ((0 ||| (nI a.val <<< ((4 * (nI (2 - 0) - 1)) &&& 31))) ||| (nI b.val <<< ((4 * (nI (2 - 1) - 1)) &&& 31)) : Int32) = 16 * (16 * 0 + nI a.val) + nI b.val := by decide +kernel
theorem c2d : ∀ a b : Fin 12, (((16 * (16 * 0 + nI a.val) + nI b.val) >>> ((4 * nI 0) &&& 31)) &&& 15 : Int32) = nI b.val ∧ (((16 * (16 * 0 + nI a.val) + nI b.val) >>> ((4 * nI 1) &&& 31)) &&& 15 : Int32) = nI a.val := by decide +kernel
theorem c1 : ∀ a : Fin 12, (0 ||| (nI a.val <<< ((4 * (nI (1 - 0) - 1)) &&& 31)) : Int32) = 16 * 0 + nI a.val := by decide +kernel
theorem c1d : ∀ a : Fin 12, (((16 * 0 + nI a.val) >>> ((4 * nI 0) &&& 31)) &&& 15 : Int32) = nI a.val := by decide +kernel
/-- the cells as one number -/
theorem cel_e {D : Nat} (hD : D ≤ 3) {f : Nat → Nat} (hf : ∀ j, f j < 12) : it (fun j x => x ||| (nI (f j) <<< ((4 * (nI (D - j) - 1)) &&& 31))) 0 D = it (fun j x => 16 * x + nI (f j)) 0 D ∧ ∀ d, d < D → (it (fun j x => 16 * x + nI (f j)) 0 D >>> ((4 * nI d) &&& 31)) &&& 15 = nI (f (D - 1 - d)) := by
  have hc : D = 0 ∨ D = 1 ∨ D = 2 ∨ D = 3 := by omega
  rcases hc with rfl | rfl | rfl | rfl
  · exact ⟨rfl, fun d hd => absurd hd (Nat.not_lt_zero d)⟩
  · refine ⟨c1 ⟨f 0, hf 0⟩, fun d hd => ?_⟩
    have hz : d = 0 := by omega
    subst hz; exact c1d ⟨f 0, hf 0⟩
  · refine ⟨c2 ⟨f 0, hf 0⟩ ⟨f 1, hf 1⟩, fun d hd => ?_⟩
    have hz : d = 0 ∨ d = 1 := by omega
    rcases hz with rfl | rfl
    · exact (c2d ⟨f 0, hf 0⟩ ⟨f 1, hf 1⟩).1
    · exact (c2d ⟨f 0, hf 0⟩ ⟨f 1, hf 1⟩).2
  · refine ⟨c3 ⟨f 0, hf 0⟩ ⟨f 1, hf 1⟩ ⟨f 2, hf 2⟩, fun d hd => ?_⟩
    have hz : d = 0 ∨ d = 1 ∨ d = 2 := by omega
    rcases hz with rfl | rfl | rfl
    · exact (c3d ⟨f 0, hf 0⟩ ⟨f 1, hf 1⟩ ⟨f 2, hf 2⟩).1
    · exact (c3d ⟨f 0, hf 0⟩ ⟨f 1, hf 1⟩ ⟨f 2, hf 2⟩).2.1
    · exact (c3d ⟨f 0, hf 0⟩ ⟨f 1, hf 1⟩ ⟨f 2, hf 2⟩).2.2
/-! what the class has looked at -/
theorem sdF_eq {s σ : St} {c : Int32} {m n : Nat} (h97 : s 97 = σ 97) (h95 : s 95 = σ 95) : sdF s c m n = sdF σ c m n := by unfold sdF; rw [h97, h95]
theorem sd1_86 {s : St} {c : Int32} : ∀ n, n ≤ 12 → ∀ m, m < n → sd1 s c n 86 m = sdF s c m (ct (cM s 2)) := by
  intro n
  induction n with
  | zero => intro _ m hm; omega
  | succ n ih =>
    intro hn m hm
    have eS : sd1 s c (n + 1) = rs (sd1 s c n) 85 12 (nI n) (sdF (sd1 s c n) c n (ct (cM (sd1 s c n) 2))) := rfl
    have e6 : cM (sd1 s c n) 2 = cM s 2 := by unfold cM; rw [sd1_o (by decide)]
    rw [eS, rs_nI (by omega) (by decide), sdF_eq (σ := s) (sd1_o (by decide)) (sd1_o (by decide)), e6]
    show up (sd1 s c n) 86 n _ 86 m = _
    by_cases q : m = n
    · subst q; rw [up_rd]
    · rw [up_k q]; exact ih (by omega) m (by omega)
theorem lk1_95 {s : St} {r : Int32} : ∀ n, n ≤ 12 → ∀ m, m < n → lk1 s r n 95 m = lfl s 81 (nI m) (nI m) r := by
  intro n
  induction n with
  | zero => intro _ m hm; omega
  | succ n ih =>
    intro hn m hm
    have eS : lk1 s r (n + 1) = rs (lk1 s r n) 94 12 (nI n) (lfl (lk1 s r n) 81 (nI n) (nI n) r) := rfl
    rw [eS, rs_nI (by omega) (by decide), lfl_eq (σ := s) (lk1_o (by decide)) (lk1_o (by decide)) (lk1_o (by decide)) (lk1_o (by decide))]
    show up (lk1 s r n) 95 n _ 95 m = _
    by_cases q : m = n
    · subst q; rw [up_rd]
    · rw [up_k q]; exact ih (by omega) m (by omega)
theorem lkM_eq {s σ : St} {p r : Int32} {c n : Nat} (h6 : s 6 = σ 6) : lkM s p r c n = lkM σ p r c n := by
  unfold lkM; exact bt_congr (fun m _ => by unfold lka cM; rw [h6])
theorem lkC_97 {s : St} {p r : Int32} {d : Nat} (hd : d < 3) : ∀ n, n ≤ 12 → ∀ k, lkC s p r d n 97 k = if 12 * d ≤ k ∧ k < 12 * d + n then lkM s p r (k - 12 * d) (ct (cM s 0)) else s 97 k := by
  intro n
  induction n with
  | zero => intro _ k; rw [if_neg (by omega)]; rfl
  | succ n ih =>
    intro hn k
    have eS : lkC s p r d (n + 1) = rs (lkC s p r d n) 96 36 (nI d * 12 + nI n) (lkM (lkC s p r d n) p r n (ct (cM (lkC s p r d n) 0))) := rfl
    have e6 : cM (lkC s p r d n) 0 = cM s 0 := by unfold cM; rw [lkC_o (by decide)]
    rw [eS, ix12 (by omega) (by omega), rs_nI (by omega) (by decide), lkM_eq (σ := s) (lkC_o (by decide)), e6]
    show up (lkC s p r d n) 97 (12 * d + n) _ 97 k = _
    by_cases q : k = 12 * d + n
    · rw [q, up_rd, if_pos (by omega), show 12 * d + n - 12 * d = n by omega]
    · rw [up_k q, ih (by omega) k]
      by_cases y : 12 * d ≤ k ∧ k < 12 * d + n
      · rw [if_pos y, if_pos (by omega)]
      · rw [if_neg y, if_neg (by omega)]
theorem lkD_97 {s : St} {r : Int32} (hc : ct (cM s 0) ≤ 12) : ∀ D, D ≤ 3 → ∀ d c, d < D → c < ct (cM s 0) → lkD s r D 97 (12 * d + c) = lkM s (dP s (nI d)) r c (ct (cM s 0)) := by
  intro D
  induction D with
  | zero => intro _ d c hd; omega
  | succ D ih =>
    intro hD d c hd hcc
    have e6 : cM (lkD s r D) 0 = cM s 0 := by unfold cM; rw [lkD_o (by decide)]
    have e16 : dP (lkD s r D) (nI D) = dP s (nI D) := by unfold dP; rw [lkD_o (by decide)]
    have eS : lkD s r (D + 1) = lkC (lkD s r D) (dP s (nI D)) r D (ct (cM s 0)) := by
      show lkC (lkD s r D) (dP (lkD s r D) (nI D)) r D (ct (cM (lkD s r D) 0)) = _
      rw [e6, e16]
    rw [eS, lkC_97 (by omega) _ hc, e6]
    by_cases q : d = D
    · rw [q, if_pos (by omega), show 12 * D + c - 12 * D = c by omega, lkM_eq (σ := s) (lkD_o (by decide))]
    · rw [if_neg (by omega)]; exact ih (by omega) d c (by omega) hcc
theorem pd0_v {σ : St} (h : RC σ) : (∀ o, o < 111 → o ≠ 56 → o ≠ 86 → o ≠ 88 → o ≠ 90 → o ≠ 92 → o ≠ 93 → o ≠ 95 → o ≠ 97 → pd0 σ o = σ o) ∧ (∀ m, m < tl σ 0 → pd0 σ 95 m = lfl σ 81 (nI m) (nI m) (rch σ 81)) ∧ (∀ d c, d < tl σ 2 → c < tl σ 0 → pd0 σ 97 (12 * d + c) = lkM σ (σ (152 + d) 1) (rch σ 81) c (tl σ 0)) ∧ (∀ o, o = 56 ∨ o = 90 ∨ o = 92 ∨ o = 86 ∨ o = 88 → pd0 σ o = pbS σ 81 o) ∧ pd0 σ 93 2 = -1 := by
  have b0 : tl σ 0 ≤ 12 := h.b.1
  have b2' : tl σ 2 ≤ 3 := h.b.2.2.1
  have hp : ∀ o, o ≠ 56 → o ≠ 90 → o ≠ 92 → o ≠ 86 → o ≠ 88 → pbS σ 81 o = σ o := fun o a b c d e => pbS_o a b c d e
  have e0 : ct (cM (pbS σ 81) 0) = tl σ 0 := by unfold cM; rw [hp 6 (by decide) (by decide) (by decide) (by decide) (by decide)]; show ct (cM σ 0) = _; rw [h.m0]
  have e2 : ct (cM (pbS σ 81) 2) = tl σ 2 := by unfold cM; rw [hp 6 (by decide) (by decide) (by decide) (by decide) (by decide)]; show ct (cM σ 2) = _; rw [h.m2]
  have er : rch (pbS σ 81) 81 = rch σ 81 := rch_eq (hp 83 (by decide) (by decide) (by decide) (by decide) (by decide)) (hp 4 (by decide) (by decide) (by decide) (by decide) (by decide))
  have eK : lkS (pbS σ 81) = lkD (lk1 (pbS σ 81) (rch σ 81) (tl σ 0)) (rch σ 81) (tl σ 2) := by unfold lkS; rw [er, e0, e2]
  refine ⟨fun o a b c d e f g k l => ?_, fun m hm => ?_, fun d c hd hc => ?_, fun o ho => ?_, ?_⟩
  · unfold pd0; rw [up_o g, lkS_o k l, hp o b e f c d]
  · unfold pd0; rw [up_o (by decide), eK, lkD_o (by decide), lk1_95 _ b0 m hm]
    exact lfl_eq (hp 83 (by decide) (by decide) (by decide) (by decide) (by decide)) (hp 10 (by decide) (by decide) (by decide) (by decide) (by decide)) (hp 12 (by decide) (by decide) (by decide) (by decide) (by decide)) (hp 6 (by decide) (by decide) (by decide) (by decide) (by decide))
  · have e6 : ct (cM (lk1 (pbS σ 81) (rch σ 81) (tl σ 0)) 0) = tl σ 0 := by unfold cM; rw [lk1_o (by decide)]; exact e0
    have e16 : dP (lk1 (pbS σ 81) (rch σ 81) (tl σ 0)) (nI d) = σ (152 + d) 1 := by
      unfold dP; rw [lk1_o (by decide), hp 16 (by decide) (by decide) (by decide) (by decide) (by decide)]; exact h.v hd
    unfold pd0
    rw [up_o (by decide), eK, lkD_97 (by rw [e6]; exact b0) _ b2' d c hd (by rw [e6]; exact hc), e6, e16]
    exact lkM_eq (by rw [lk1_o (by decide), hp 6 (by decide) (by decide) (by decide) (by decide) (by decide)])
  · unfold pd0; rw [up_o (by omega), lkS_o (by omega) (by omega)]
  · unfold pd0; rw [up_rd]
/-- the class's part with the donkeys at other cells -/
def dnk (σ : St) (g : Nat → Nat) (D : Nat) : St := fun o => if o = 83 then (fun k => if 8 ≤ k ∧ k < 8 + D then nI (g (k - 8)) else σ 83 k) else σ o
theorem dnk_o {σ : St} {g : Nat → Nat} {D o : Nat} (h : o ≠ 83) : dnk σ g D o = σ o := if_neg h
theorem dnk_d {σ : St} {g : Nat → Nat} {D d : Nat} (h : d < D) : dnk σ g D 83 (8 + d) = nI (g d) := by
  unfold dnk; rw [if_pos rfl, if_pos (by omega), show 8 + d - 8 = d by omega]
theorem dnk_k {σ : St} {g : Nat → Nat} {D k : Nat} (h : k < 8 ∨ 8 + D ≤ k) : dnk σ g D 83 k = σ 83 k := by
  unfold dnk; rw [if_pos rfl, if_neg (by omega)]
theorem b2_gB {x : Int32} {m : Nat} (hm : m < 32) {P : Prop} [Decidable P] (h : gB x m = true ↔ P) : (x >>> (nI m &&& 31)) &&& 1 = b2 P := by
  rw [← b2_and1]; exact b2_congr ((hB_g hm).trans h)
theorem put_86 {σ s u : St} (h : RC σ) (hn : RNs σ) (hu : UI σ u) {g : Nat → Nat} (hg : ∀ d, d < tl σ 2 → g d < tl σ 0) (hr : ∀ d, d < tl σ 2 → u 123 (1 + d) = nI (g d)) (hk : ∀ j, j = 0 ∨ 4 ≤ j → j < 31 → u 123 j = σ 122 j) {cells : Int32} (hc : ∀ d, d < tl σ 2 → (cells >>> ((4 * nI d) &&& 31)) &&& 15 = nI (g d))
    (h95 : ∀ m, m < tl σ 0 → s 95 m = lfl σ 81 (nI m) (nI m) (rch σ 81)) (h97 : ∀ d c, d < tl σ 2 → c < tl σ 0 → s 97 (12 * d + c) = lkM σ (σ (152 + d) 1) (rch σ 81) c (tl σ 0)) {m : Nat} (hm : m < tl σ 0) {P : St} : sdF s cells m (tl σ 2) = msb (mix P u) 122 (nI m) (nI m) := by
  have b0 : tl σ 0 ≤ 12 := h.b.1
  have b2' : tl σ 2 ≤ 3 := h.b.2.2.1
  have b3 : tl σ 3 ≤ 6 := h.b.2.2.2.1
  have er : ∀ o, 111 < o → o ≠ 120 → o ≠ 121 → o ≠ 122 → o ≠ 123 → mix (dnk σ g (tl σ 2)) u o = σ o := fun o a b c d f => by rw [mix_o (by omega) d]; exact hu.1 o a b c f
  have ec : ∀ o, o < 111 → o ≠ 83 → mix (dnk σ g (tl σ 2)) u o = σ o := fun o a b => by rw [mix_c a, dnk_o b]
  have h' : RC (mix (dnk σ g (tl σ 2)) u) := RC_eq h (fun o ho => ec o (by omega) (by omega)) (er 115 (by decide) (by decide) (by decide) (by decide) (by decide)) (er 117 (by decide) (by decide) (by decide) (by decide) (by decide)) (er 119 (by decide) (by decide) (by decide) (by decide) (by decide)) (fun o a b => er o (by omega) (by omega) (by omega) (by omega) (by omega))
  have eT : ∀ k, tl (mix (dnk σ g (tl σ 2)) u) k = tl σ k := fun k => by unfold tl; rw [er 115 (by decide) (by decide) (by decide) (by decide) (by decide)]
  have e83 : mix (dnk σ g (tl σ 2)) u 83 = dnk σ g (tl σ 2) 83 := mix_c (by decide)
  have hn' : RNs (mix (dnk σ g (tl σ 2)) u) := by
    unfold RNs
    rw [eT, eT, eT, e83, mix_122]
    obtain ⟨hn, h29⟩ := hn
    refine ⟨⟨?_, ⟨?_, ?_⟩, ?_, ?_, ?_, ?_, ?_, ?_, fun d hd => ?_, fun i hi => ?_, fun c hc => ?_⟩, ?_⟩
    · rw [dnk_k (by omega), hk 27 (by omega) (by decide)]; exact hn.night
    · rw [dnk_k (by omega), hk 28 (by omega) (by decide)]; exact hn.fog.1
    · rw [hk 28 (by omega) (by decide)]; exact hn.fog.2
    · rw [dnk_k (by omega), hk 23 (by omega) (by decide)]; exact hn.struck
    · rw [dnk_k (by omega), hk 24 (by omega) (by decide)]; exact hn.parish
    · rw [dnk_k (by omega), hk 25 (by omega) (by decide)]; exact hn.held
    · rw [dnk_k (by omega), hk 26 (by omega) (by decide)]; exact hn.alive
    · rw [dnk_k (by omega), hk 0 (by omega) (by decide)]; exact hn.burn
    · rw [dnk_k (by omega), hk 4 (by omega) (by decide)]; exact hn.passed
    · have := hg d hd
      rw [dnk_d hd, hr d hd, i_nI (by omega)]; exact ⟨rfl, by omega, by omega⟩
    · rw [dnk_k (by omega), hk (5 + i) (by omega) (by omega)]; exact hn.times i hi
    · rw [dnk_k (by omega), hk (11 + c) (by omega) (by omega)]; exact hn.celled c hc
    · rw [hk 29 (by omega) (by decide)]; exact h29
  have hq := q_seen h' hn' (c := nI m) (m := nI m) (by rw [eT]; omega) (by rw [i_nI (by omega)]; omega) (by rw [i_nI (by omega)]; omega)
  rw [msb_sq (mix_xx (P := dnk σ g (tl σ 2)) (P' := P)) , ← hq]
  have e6 : ng (mix (dnk σ g (tl σ 2)) u) 81 6 = ng σ 81 6 := by
    rw [show (6 : Int32) = nI 6 from rfl, ng_nI (by decide), ng_nI (by decide), e83, dnk_k (by omega)]
  have e1 : ng (mix (dnk σ g (tl σ 2)) u) 81 1 = ng σ 81 1 := by
    rw [show (1 : Int32) = nI 1 from rfl, ng_nI (by decide), ng_nI (by decide), e83, dnk_k (by omega)]
  have eR : rch (mix (dnk σ g (tl σ 2)) u) 81 = rch σ 81 := by
    unfold Jvm.Pilot.CDonkeyLightLaw_law_r8509_9544ed.rch; rw [e1, ec 4 (by decide) (by decide)]
  have eL : lfl (mix (dnk σ g (tl σ 2)) u) 81 (nI m) (nI m) (rch σ 81) = lfl σ 81 (nI m) (nI m) (rch σ 81) := by
    unfold lfl lfP lX lP cM; rw [e6, ec 10 (by decide) (by decide), ec 12 (by decide) (by decide), ec 6 (by decide) (by decide)]
  have e2 : ct (cM (mix (dnk σ g (tl σ 2)) u) 2) = tl σ 2 := by unfold cM; rw [ec 6 (by decide) (by decide)]; show ct (cM σ 2) = _; rw [h.m2]
  unfold fsn
  rw [eR, eL]
  unfold sdF dfl
  rw [e2, it_add, rg_nI (by omega) (by decide), h95 m hm]
  refine congrArg (fun x => lfl σ 81 (nI m) (nI m) (rch σ 81) + x) (sm_congr (fun d hd => ?_))
  have hgd := hg d hd
  rw [hc d hd, ix12 (by omega) (by omega), rg_nI (by omega) (by decide), h97 d (g d) hd hgd]
  have eg : gB (lkM σ (σ (152 + d) 1) (rch σ 81) (g d) (tl σ 0)) m = true ↔ m < tl σ 0 ∧ iSn (lka σ (g d) m) (σ (152 + d) 1) (nI m) (nI m) (rch σ 81) := bt_g _ (by omega) _ (by omega)
  rw [b2_gB (by omega) eg]
  apply b2_congr
  have ed : Jvm.Pilot.CDonkeyLightLaw_law_r8509_9544ed.dat (mix (dnk σ g (tl σ 2)) u) 81 (nI m) d = lka σ (g d) m := by
    unfold Jvm.Pilot.CDonkeyLightLaw_law_r8509_9544ed.dat lka
    rw [show (8 : Int32) = nI 8 from rfl, znI_add (by omega), ng_nI (by omega), e83, dnk_d hd]
    unfold cM; rw [ec 6 (by decide) (by decide)]
  have ep : dP (mix (dnk σ g (tl σ 2)) u) (nI d) = σ (152 + d) 1 := by unfold dP; rw [ec 16 (by decide) (by decide)]; exact h.v hd
  unfold dfP
  rw [ed, ep]
  exact ⟨fun z => z.2, fun z => ⟨hm, z⟩⟩
