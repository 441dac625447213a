/-! ===== safe, tried, wrecks ===== -/
theorem fl_in {σ : St} {o n k : Nat} {f : Nat → Int32} (h : k < n) : fl σ o n f o k = f k := by unfold fl; rw [if_pos rfl, if_pos h]
theorem pbS_90 {σ : St} {k : Nat} (hk : k < 72) : pbS σ 81 90 k = 0 ∧ pbS σ 81 92 k = 0 := by
  have e : ∀ o, o = 90 ∨ o = 92 → pbS σ 81 o = pb0 σ 81 o := fun o ho => by unfold pbS; rw [rdk_o (by omega), pb1_o (by omega)]
  rw [e 90 (by omega), e 92 (by omega)]
  unfold pb0 tln
  rw [rs_o (o := 55) (by decide), rs_o (o := 55) (by decide), rs_o (o := 55) (by decide), rs_o (o := 55) (by decide), fl_in hk, fl_o (by decide), fl_in hk]
  exact ⟨rfl, rfl⟩
/-- ships from i on are not looked at yet -/
def clr (i : Nat) (s : St) : Prop := ∀ j k, i ≤ j → j < 6 → k < 12 → s 90 (12 * j + k) = 0 ∧ s 92 (12 * j + k) = 0
theorem clr_0 {σ : St} : clr 0 (pbS σ 81) := fun j k _ hj hk => pbS_90 (by omega)
theorem psk_e {σ s t : St} (h : RC σ) (hL : LW σ σ) (hO : lawOK σ) {i : Nat} (hi : i < tl σ 3) (hP : PS σ s) (hq : sx σ t) (hz : ∀ k, k < 12 → s 90 (12 * i + k) = 0 ∧ s 92 (12 * i + k) = 0) :
    (psk s (nI i)).1 = trF t 122 i 111 42 ∧ PS σ (psk s (nI i)).2 ∧ ∀ k, (k < 12 * i ∨ 12 * i + 12 ≤ k) → (psk s (nI i)).2 90 k = s 90 k ∧ (psk s (nI i)).2 92 k = s 92 k := by
  have b0 := h.b.1
  have e6 : ct (cM s 0) = tl σ 0 := by
    unfold cM; rw [hP.1 6 (by decide) (by decide) (by decide) (by decide) (by decide) (by decide) (by decide)]; show ct (cM σ 0) = _; rw [h.m0]
  have eT : tl t 0 = tl σ 0 := by unfold tl; rw [hq.1 115 (by decide) (by decide) (by decide)]
  have g := pass h hL hO hi (tl σ 0) 0 s (tr0 t) (by omega) hP hq.t0 (by unfold tr0; rw [up_k (by decide), up_k (by decide), up_k (by decide), up_rd]) (fun k _ hk => hz k (by omega))
  unfold psk trF
  rw [e6, eT]
  exact g
theorem q_struck {σ t : St} (h : RC σ) (hn : RNs σ) (hL : LW σ σ) (hO : lawOK σ) (hq : sx σ t) {i : Nat} (hi : i < tl σ 3) : (xps σ (nI i)).1 = trF t 122 i 111 42 ∧ PS σ (xps σ (nI i)).2 := by
  have b3 := h.b.2.2.2.1
  have g := psk_e h hL hO hi (PS_begin h hn) hq (fun k hk => clr_0 i k (by omega) (by omega) hk)
  exact ⟨g.1, g.2.1⟩
theorem clr_n {i : Nat} {s u : St} (h : clr i s) (h2 : ∀ k, (k < 12 * i ∨ 12 * i + 12 ≤ k) → u 90 k = s 90 k ∧ u 92 k = s 92 k) : clr (i + 1) u := fun j k hj hj6 hk => by
  obtain ⟨a, b⟩ := h2 (12 * j + k) (by omega)
  rw [a, b]; exact h j k (by omega) hj6 hk
theorem al_e {σ s t : St} (h : RC σ) (hP : PS σ s) (hq : sx σ t) {i : Nat} (hi : i < tl σ 3) {w : Int32} (hw : w = t 111 42) (h42 : t 111 42 = -1 ∨ ∃ c, c < tl σ 0 ∧ t 111 42 = nI c) : alv s (nI i) w = mal t i ∧ pcg s (nI i) w = mpa t i := by
  have b0 := h.b.1
  have f : ∀ o, o < 56 → s o = σ o := fun o ho => hP.1 o (by omega) (by omega) (by omega) (by omega) (by omega) (by omega) (by omega)
  have e1 : sW s (nI i) = t (161 + i) 1 := by unfold sW; rw [f 20 (by decide), hq.1 (161 + i) (by omega) (by omega) (by omega)]; exact h.s1 hi
  have e0 : sC s (nI i) = t (161 + i) 0 := by unfold sC; rw [f 18 (by decide), hq.1 (161 + i) (by omega) (by omega) (by omega)]; exact h.s0 hi
  have hs := (h.sh i hi).2 1 (by decide)
  rw [← hq.1 (161 + i) (by omega) (by omega) (by omega)] at hs
  have z0 : (0 : Int32).toInt = 0 := rfl
  subst hw
  rcases h42 with z | ⟨c, hc, z⟩
  · refine ⟨?_, ?_⟩
    · unfold alv mal; rw [if_pos z, if_pos z, e1]
    · unfold pcg mpa; rw [if_neg (fun q => q.1 z), if_neg (fun q => q.1 z)]
  · have hne : ¬ t 111 42 = -1 := fun q => by
      rw [z] at q
      have e9 : (nI c).toInt = c := i_nI (by omega)
      rw [q, show (-1 : Int32).toInt = -1 from rfl] at e9
      omega
    have hcn : (t 111 42).toInt.toNat = c := by rw [z, i_nI (by omega)]; exact Int.toNat_natCast c
    have er : cR s (t 111 42) = t 117 (t 111 42).toInt.toNat := by
      rw [hcn, z]; unfold cR; rw [f 8 (by decide), hq.1 117 (by decide) (by decide) (by decide)]; exact h.r hc
    have hr := (h.reef c hc).2
    rw [← hq.1 117 (by decide) (by decide) (by decide)] at hr
    have es : (t (161 + i) 1 - t 117 c).toInt = (t (161 + i) 1).toInt - (t 117 c).toInt := i_sub rfl rfl (by omega) (by omega)
    have ea : mal t i = if t (161 + i) 1 - t 117 c < 0 then 0 else t (161 + i) 1 - t 117 c := by unfold mal; rw [if_neg hne, hcn]
    refine ⟨?_, ?_⟩
    · rw [ea]; unfold alv; rw [if_neg hne, e1, er, hcn]
    · unfold pcg mpa
      rw [e1, er, hcn, e0, ea]
      by_cases q : t (161 + i) 1 ≤ t 117 c
      · have hm : (if t (161 + i) 1 - t 117 c < 0 then (0 : Int32) else t (161 + i) 1 - t 117 c) = 0 := by
          by_cases q2 : t (161 + i) 1 - t 117 c < 0
          · rw [if_pos q2]
          · rw [if_neg q2, i_eq, es, z0]; rw [i_le] at q; rw [i_lt, es, z0] at q2; omega
        rw [if_pos ⟨hne, q⟩, if_pos ⟨hne, hm⟩]
      · have hm : ¬ (if t (161 + i) 1 - t 117 c < 0 then (0 : Int32) else t (161 + i) 1 - t 117 c) = 0 := fun y2 => by
          rw [i_le] at q
          rw [if_neg (by rw [i_lt, es, z0]; omega), i_eq, es, z0] at y2
          omega
        rw [if_neg (fun y => q y.2), if_neg (fun y => hm y.2)]
/-- what a try leaves: nowhere, or a cell told -/
theorem trR_c {σ : St} {i : Nat} : ∀ (n m : Nat) (la : Int32) (t : St), m + n = tl σ 0 → sx σ t → t 111 42 = -1 → (trR 122 i n m la t 111 42 = -1 ∨ ∃ c, c < tl σ 0 ∧ trR 122 i n m la t 111 42 = nI c) := by
  intro n
  induction n with
  | zero => intro m la t _ _ h; exact Or.inl h
  | succ n ih =>
    intro m la t hm hq h
    rw [trR, if_neg (fun q => q h)]
    by_cases hA : 0 < mbV (tr3 t 122 i m la)
    · have e := trS_1 hq hA
      by_cases q : b2 (mrP σ i m) = 0
      · rw [if_pos q] at e; exact ih _ _ _ (by omega) hq.tS e
      · rw [if_neg q] at e
        have hne : ¬ trS t 122 i m la 111 42 = -1 ∨ trS t 122 i m la 111 42 = -1 := (Decidable.em _).symm
        rcases hne with z | z
        · rw [trR_stop z]; exact Or.inr ⟨m, by omega, e⟩
        · exact ih _ _ _ (by omega) hq.tS z
    · exact ih _ _ _ (by omega) hq.tS (by rw [trS_0 hA]; exact h)
theorem trF_c {σ t : St} (hq : sx σ t) {i : Nat} : trF t 122 i 111 42 = -1 ∨ ∃ c, c < tl σ 0 ∧ trF t 122 i 111 42 = nI c := by
  have eT : tl t 0 = tl σ 0 := by unfold tl; rw [hq.1 115 (by decide) (by decide) (by decide)]
  unfold trF; rw [eT]
  exact trR_c _ _ _ _ (by omega) hq.t0 (by unfold tr0; rw [up_k (by decide), up_k (by decide), up_k (by decide), up_rd])
theorem q_safe {σ t : St} (h : RC σ) (hn : RNs σ) (hL : LW σ σ) (hO : lawOK σ) (hq : sx σ t) : ∀ n, n ≤ tl σ 3 → (saF (pbS σ 81) n).1 = (msf t 122 n).1 ∧ PS σ (saF (pbS σ 81) n).2 ∧ clr n (saF (pbS σ 81) n).2 := by
  have b3 := h.b.2.2.2.1
  intro n
  induction n with
  | zero => intro _; exact ⟨rfl, PS_begin h hn, clr_0⟩
  | succ n ih =>
    intro hn'
    obtain ⟨h1, h2, h3⟩ := ih (by omega)
    obtain ⟨g1, g2, g3⟩ := psk_e h hL hO (show n < tl σ 3 by omega) h2 (hq.sf (o := 122) (n := n)) (fun k hk => h3 n k (Nat.le_refl _) (by omega) hk)
    by_cases q : (psk (saF (pbS σ 81) n).2 (nI n)).1 = -1
    · rw [saF_1 q, msf_1 (by rw [← g1]; exact q), h1]; exact ⟨rfl, g2, clr_n h3 g3⟩
    · rw [saF_2 q, msf_2 (by rw [← g1]; exact q), h1, Int32.or_zero]; exact ⟨rfl, g2, clr_n h3 g3⟩
theorem q_tried {σ t : St} (h : RC σ) (hn : RNs σ) (hL : LW σ σ) (hO : lawOK σ) (hq : sx σ t) {i : Nat} (hi : i < tl σ 3) : alv (xps σ (nI i)).2 (nI i) (xps σ (nI i)).1 = mal (trF t 122 i) i ∧ pcg (xps σ (nI i)).2 (nI i) (xps σ (nI i)).1 = mpa (trF t 122 i) i := by
  obtain ⟨g1, g2⟩ := q_struck h hn hL hO hq hi
  exact al_e h g2 (hq.tF (o := 122) (s := i)) hi g1 (trF_c hq)
theorem clr_m {i : Nat} {s : St} (h : clr i s) : clr (i + 1) s := fun j k hj a b => h j k (by omega) a b
def wkC (w : Int32) (x : Int32 × Int32 × Int32) : Int32 := if w = 0 then x.1 else if w = 1 then x.2.1 else x.2.2
theorem q_wrecks {σ t : St} (h : RC σ) (hn : RNs σ) (hL : LW σ σ) (hO : lawOK σ) (hq0 : sx σ t) {ships w : Int32} : ∀ n, n ≤ tl σ 3 → (xwr σ ships w n).1 = wkC w (mwr t ships n).1 ∧ PS σ (xwr σ ships w n).2 ∧ clr n (xwr σ ships w n).2 := by
  have b3 := h.b.2.2.2.1
  intro n
  induction n with
  | zero => intro _; exact ⟨by show (0 : Int32) = wkC w (0, 0, 0); unfold wkC; split; rfl; split <;> rfl, PS_begin h hn, clr_0⟩
  | succ n ih =>
    intro hn'
    obtain ⟨h1, h2, h3⟩ := ih (by omega)
    have hi : n < tl σ 3 := by omega
    rw [xwr_s]
    by_cases hb : hB ships (nI n)
    · have hq : sx σ (mwr t ships n).2 := hq0.wr
      obtain ⟨g1, g2, g3⟩ := psk_e h hL hO hi h2 hq (fun k hk => h3 n k (Nat.le_refl _) (by omega) hk)
      have hb2 : ¬ b2 (hB ships (nI n)) = 0 := fun z => b2_z z hb
      by_cases q : (psk (xwr σ ships w n).2 (nI n)).1 = -1
      · rw [xwB_1 hb q, mwr_2 hb2 (by rw [← g1]; exact q)]
        exact ⟨h1, g2, clr_n h3 g3⟩
      · rw [xwB_2 hb q, mwr_3 hb2 (by rw [← g1]; exact q)]
        refine ⟨?_, g2, clr_n h3 g3⟩
        have ea := (al_e h g2 (hq.tF (o := 122) (s := n)) hi g1 (trF_c hq)).1
        have e0 : sC (psk (xwr σ ships w n).2 (nI n)).2 (nI n) = trF (mwr t ships n).2 122 n (161 + n) 0 := by
          unfold sC; rw [g2.1 18 (by decide) (by decide) (by decide) (by decide) (by decide) (by decide) (by decide), (hq.tF (o := 122) (s := n)).1 (161 + n) (by omega) (by omega) (by omega)]; exact h.s0 hi
        show (xwr σ ships w n).1 + wkn _ _ _ w = _
        rw [h1]
        unfold wkn wkC
        by_cases w0 : w = 0
        · rw [if_pos w0, if_pos w0, if_pos w0]
        · rw [if_neg w0, if_neg w0, if_neg w0]
          by_cases w1 : w = 1
          · rw [if_pos w1, if_pos w1, if_pos w1, e0]
          · rw [if_neg w1, if_neg w1, if_neg w1, ea]
    · rw [xwB_0 hb, mwr_1 (b2_f hb)]
      exact ⟨h1, h2, clr_m h3⟩
