theorem pq_e {σ τ s u : St} (h : RC σ) (hL : LW σ σ) (hO : lawOK σ) (h' : RC τ) (hL' : LW τ τ) (hO' : lawOK τ) {n9 fg : Int32} (eT : ∀ k, tl τ k = tl σ k) (h7 : τ 122 27 = n9) (h8 : τ 122 28 = fg) (hs : ∀ m, m < tl σ 0 → ∃ k, k ≤ 15 ∧ msb τ 122 (nI m) (nI m) = nI k) (hP : PS τ s) (hBS : BS σ n9 fg s) (hM : MO σ n9 fg s) (hq : sx τ u) {ships : Int32} :
    ∀ n, n ≤ tl σ 3 → (pqF s ships n).1 = (mcg u 122 ships n).1 ∧ PS τ (pqF s ships n).2 ∧ BS σ n9 fg (pqF s ships n).2 ∧ MO σ n9 fg (pqF s ships n).2 ∧ 0 ≤ (pqF s ships n).1.toInt ∧ (pqF s ships n).1.toInt ≤ 1000 * (n : Int) := by
  have b3 : tl σ 3 ≤ 6 := h.b.2.2.2.1
  intro n
  induction n with
  | zero => intro _; exact ⟨rfl, hP, hBS, hM, (show 0 ≤ (0 : Int32).toInt by decide), (show (0 : Int32).toInt ≤ 1000 * ((0 : Nat) : Int) by decide)⟩
  | succ n ih =>
    intro hn
    obtain ⟨g1, g2, g3, g4, g5, g6⟩ := ih (by omega)
    by_cases hb : b2 (hB ships (nI n)) = 0
    · rw [pqF_1 hb, mcg_1 hb]; exact ⟨g1, g2, g3, g4, g5, by omega⟩
    · have hi : n < tl σ 3 := by omega
      have hq2 : sx τ (mcg u 122 ships n).2 := hq.tr (sq.rf.cg).x
      obtain ⟨k1, k2, k3, k4⟩ := psk_2 h hL hO h' hL' hO' eT h7 h8 hs hi g2 g3 g4 hq2
      have hi' : n < tl τ 3 := by rw [eT]; exact hi
      have ea := (al_e h' k2 (hq2.tF (o := 122) (s := n)) hi' k1 (trF_c hq2)).2
      have hr : 0 ≤ (mpa (trF (mcg u 122 ships n).2 122 n) n).toInt ∧ (mpa (trF (mcg u 122 ships n).2 122 n) n).toInt ≤ 1000 := by
        unfold mpa
        split
        · rw [(hq2.tF (o := 122) (s := n)).1 (161 + n) (by omega) (by omega) (by omega)]; exact (h'.sh n hi').2 0 (by decide)
        · exact ⟨by decide, by decide⟩
      have e : ((pqF s ships n).1 + mpa (trF (mcg u 122 ships n).2 122 n) n).toInt = (pqF s ships n).1.toInt + (mpa (trF (mcg u 122 ships n).2 122 n) n).toInt := i_add rfl rfl (by omega) (by omega)
      rw [pqF_2 hb, mcg_2 hb]
      refine ⟨?_, k2, k3, k4, ?_, ?_⟩
      · show (pqF s ships n).1 + pcg _ _ _ = (mcg u 122 ships n).1 + _
        rw [ea, g1]
      · show 0 ≤ ((pqF s ships n).1 + pcg _ _ _).toInt
        rw [ea, e]; omega
      · show ((pqF s ships n).1 + pcg _ _ _).toInt ≤ _
        rw [ea, e]; omega
/-- the digits of a way, on both sides -/
theorem dig_e {s u : St} {D N way : Nat} (hD : D ≤ 3) (hDN : D = 0 ∨ 0 < N) (hN2 : N ≤ 12) (hw : way < 100000) (h0 : cM s 0 = nI N) (h2 : ct (cM s 2) = D) :
    ∃ g : Nat → Nat, coC s (nI way) = (mpI D (nI N) (nI way) u D).2.1 ∧ (∀ d, d < D → g d < N) ∧ (∀ d, d < D → (coC s (nI way) >>> ((4 * nI d) &&& 31)) &&& 15 = nI (g d)) ∧ (∀ o, o ≠ 123 → mpU D (nI N) u (nI way) o = u o) ∧ (∀ d, d < D → mpU D (nI N) u (nI way) 123 (1 + d) = nI (g d)) ∧ ∀ j, (j = 0 ∨ 4 ≤ j) → mpU D (nI N) u (nI way) 123 j = u 123 j := by
  have ec : coC s (nI way) = (coR s (nI way) D).1 := by unfold coC; rw [h2]
  rcases hDN with rfl | hN
  · exact ⟨fun _ => 0, ec, fun d hd => absurd hd (Nat.not_lt_zero d), fun d hd => absurd hd (Nat.not_lt_zero d), fun _ _ => rfl, fun d hd => absurd hd (Nat.not_lt_zero d), fun _ _ => rfl⟩
  · obtain ⟨-, a2, a3, a4, a5⟩ := mpI_e (u := u) hN (by omega) hw hD D (Nat.le_refl _)
    have b2 := (coR_e hN (by omega) hw h0 h2 D).2
    have hl : ∀ j, dj N way j < N := fun j => Nat.mod_lt _ hN
    obtain ⟨c1, c2⟩ := cel_e hD (f := dj N way) (fun j => by have := hl j; omega)
    refine ⟨fun d => dj N way (D - 1 - d), ?_, fun d _ => hl _, fun d hd => ?_, a3, fun d hd => a4 d hd (by omega), fun j hj => a5 j (by omega)⟩
    · rw [ec, b2, c1, a2]
    · rw [ec, b2, c1]; exact c2 d hd
theorem wy_e {σ : St} {N : Nat} (hN : N ≤ 12) (h0 : cM σ 0 = nI N) : ∀ n, n ≤ 3 → wyN σ n = nI (N ^ n) := by
  intro n
  induction n with
  | zero => intro _; rfl
  | succ n ih =>
    intro hn
    have hp : N ^ n ≤ 12 ^ n := Nat.pow_le_pow_left hN n
    have hp2 : 12 ^ n ≤ 12 ^ 2 := Nat.pow_le_pow_right (by decide) (by omega)
    have hp3 : (12 : Nat) ^ 2 = 144 := rfl
    have hm : N ^ n * N ≤ 144 * 12 := Nat.mul_le_mul (by omega) hN
    show wyN σ n * cM σ 0 = _
    have hc : ((N ^ n : Nat) : Int) * (N : Int) = ((N ^ n * N : Nat) : Int) := (Int.natCast_mul _ _).symm
    rw [ih (by omega), h0, Nat.pow_succ, i_eq, i_mul (i_nI (show N ^ n < 2147483648 by omega)) (i_nI (show N < 2147483648 by omega)) (by omega) (by omega), i_nI (show N ^ n * N < 2147483648 by omega)]
    exact hc
/-- what stays of the class while ways are tried -/
def CF (σ S : St) : Prop := ∀ o, o < 111 → o ≠ 56 → o ≠ 58 → o ≠ 86 → o ≠ 88 → o ≠ 90 → o ≠ 92 → o ≠ 93 → S o = pd0 σ o
def RK (σ u : St) : Prop := ∀ j, j = 0 ∨ 4 ≤ j → j < 31 → u 123 j = σ 122 j
theorem put_way {σ S u : St} (h : RC σ) (hn : RNs σ) (hL : LW σ σ) (hO : lawOK σ) (hcd : tl σ 2 = 0 ∨ 0 < tl σ 0) (hS : CF σ S) (hB : BS σ (σ 122 27) (σ 122 28) S) (hM : MO σ (σ 122 27) (σ 122 28) S) (hu : UI σ u) (hk : RK σ u) {way : Nat} (hw : way < 100000) {ships : Int32} :
    (pdZ S ships way).1 = (mcg (mpU (tl σ 2) (nI (tl σ 0)) u (nI way)) 123 ships (tl σ 3)).1 ∧ coC S (nI way) = (mpI (tl σ 2) (nI (tl σ 0)) (nI way) u (tl σ 2)).2.1 ∧ CF σ (pdZ S ships way).2 ∧ (pdZ S ships way).2 93 = S 93 ∧ BS σ (σ 122 27) (σ 122 28) (pdZ S ships way).2 ∧ MO σ (σ 122 27) (σ 122 28) (pdZ S ships way).2 ∧ UI σ (mcg (mpU (tl σ 2) (nI (tl σ 0)) u (nI way)) 123 ships (tl σ 3)).2 ∧ RK σ (mcg (mpU (tl σ 2) (nI (tl σ 0)) u (nI way)) 123 ships (tl σ 3)).2 ∧ 0 ≤ (pdZ S ships way).1.toInt := by
  have b0 : tl σ 0 ≤ 12 := h.b.1
  have b2' : tl σ 2 ≤ 3 := h.b.2.2.1
  have b3 : tl σ 3 ≤ 6 := h.b.2.2.2.1
  obtain ⟨v1, v2, v3, -, -⟩ := pd0_v h
  have s56 : ∀ o, o < 56 → S o = σ o := fun o ho => (hS o (by omega) (by omega) (by omega) (by omega) (by omega) (by omega) (by omega) (by omega)).trans (v1 o (by omega) (by omega) (by omega) (by omega) (by omega) (by omega) (by omega) (by omega) (by omega))
  have m0 : cM S 0 = nI (tl σ 0) := by unfold cM; rw [s56 6 (by decide)]; exact h.m0.trans (nI_bk (h.p 0 (by decide))).symm
  have m2 : ct (cM S 2) = tl σ 2 := by unfold cM; rw [s56 6 (by decide)]; show ct (cM σ 2) = _; rw [h.m2]
  have m3 : ct (cM S 3) = tl σ 3 := by unfold cM; rw [s56 6 (by decide)]; show ct (cM σ 3) = _; rw [h.m3]
  obtain ⟨g, d1, d2, d3, d4, d5, d6⟩ := dig_e (s := S) (u := u) b2' hcd b0 hw m0 m2
  generalize hU : mpU (tl σ 2) (nI (tl σ 0)) u (nI way) = u1 at d4 d5 d6 ⊢
  have hu1 : UI σ u1 := ⟨fun o a b c d => (d4 o d).trans (hu.1 o a b c d), fun f a b => by rw [d4 111 (by decide)]; exact hu.2 f a b⟩
  have hk1 : RK σ u1 := fun j hj hj2 => (d6 j hj).trans (hk j hj hj2)
  generalize hC : coC S (nI way) = cells at d1 d3 ⊢
  have ez : pdZ S ships way = pqF (sdS S cells) ships (tl σ 3) := by
    unfold pdZ; rw [hC]
    have : ct (cM (sdS S cells) 3) = tl σ 3 := by unfold cM; rw [sdS_o (by decide) (by decide)]; exact m3
    rw [this]
  -- what is seen
  have so : ∀ o, o ≠ 86 → o ≠ 88 → sdS S cells o = S o := fun o a b => sdS_o a b
  obtain ⟨t1, t2, t3, t4⟩ := mix_ok (P := sdS S cells) h hL hO (fun o ho => (so o (by omega) (by omega)).trans (s56 o ho)) hu1
  have e0 : ct (cM S 0) = tl σ 0 := by rw [m0]; exact ct_nI (by omega)
  have h86 : ∀ m, m < tl (mix (sdS S cells) u1) 0 → (sd1 S cells (tl σ 0)) 86 m = msb (mix (sdS S cells) u1) 122 (nI m) (nI m) := fun m hm => by
    rw [t4] at hm
    rw [sd1_86 _ b0 m hm, m2]
    exact put_86 h hn hu1 d2 d5 hk1 d3 (fun m hm => by rw [hS 95 (by decide) (by decide) (by decide) (by decide) (by decide) (by decide) (by decide) (by decide)]; exact v2 m hm) (fun d c hd hc => by rw [hS 97 (by decide) (by decide) (by decide) (by decide) (by decide) (by decide) (by decide) (by decide)]; exact v3 d c hd hc) hm
  have hP : PS (mix (sdS S cells) u1) (sdS S cells) := by
    have es : sdS S cells = (rdk (sd1 S cells (tl σ 0)) (tl σ 0)).1 := by unfold sdS; rw [e0]
    obtain ⟨-, h88⟩ := rdk_88 h86 (by rw [t4]; exact b0) (tl σ 0) (by rw [t4]; exact Nat.le_refl _)
    refine ⟨fun o _ _ _ _ _ _ g => (mix_c g).symm, fun m hm => ⟨?_, ?_⟩, ?_, ?_⟩
    · rw [← h86 m hm, es, rdk_o (by decide)]
    · rw [t4] at hm
      have := h88 m hm
      rw [← es] at this; exact this
    · rw [so 56 (by decide) (by decide), hB.2.1, mix_122, hk1 27 (by omega) (by decide)]
    · rw [so 56 (by decide) (by decide), hB.2.2, mix_122, hk1 28 (by omega) (by decide)]
  have hB1 : BS σ (σ 122 27) (σ 122 28) (sdS S cells) := ⟨fun o ho => by rw [so o (by omega) (by omega)]; exact hB.1 o ho, by rw [so 56 (by decide) (by decide)]; exact hB.2.1, by rw [so 56 (by decide) (by decide)]; exact hB.2.2⟩
  have hM1 : MO σ (σ 122 27) (σ 122 28) (sdS S cells) := fun i m b hi hm hb => by rw [so 90 (by decide) (by decide), so 92 (by decide) (by decide)]; exact hM i m b hi hm hb
  have huB := hu1.uB h hO
  obtain ⟨k1, k2, k3, k4, k5, k6⟩ := pq_e h hL hO t1 t2 t3 t4 (by rw [mix_122, hk1 27 (by omega) (by decide)]) (by rw [mix_122, hk1 28 (by omega) (by decide)]) (fun m hm => msb_rng (by rw [t4]; exact h.b.2.1) (by rw [t4]; exact b2')) hP hB1 hM1 mix_sx (ships := ships) (tl σ 3) (Nat.le_refl _)
  have c1 := (cg_sub huB (ships := ships) (tl σ 3) b3).1
  have qq : sq u1 (mcg u1 123 ships (tl σ 3)).2 := sq.rf.cg
  rw [ez]
  refine ⟨k1.trans c1.symm, d1, fun o a b c d e f g k => ?_, ?_, k3, k4, hu1.sq qq, fun j hj hj2 => by rw [qq.1 123 (by decide) (by decide) (by decide)]; exact hk1 j hj hj2, k5⟩
  · rw [pqF_o f g b c, so o d e]; exact hS o a b c d e f g k
  · rw [pqF_o (by decide) (by decide) (by decide) (by decide), so 93 (by decide) (by decide)]
theorem put_n {σ t : St} (h : RC σ) (hn : RNs σ) (hL : LW σ σ) (hO : lawOK σ) (hcd : tl σ 2 = 0 ∨ 0 < tl σ 0) (hq : sx σ t) {ships : Int32} : ∀ k, k ≤ 2000 →
    pdN (pd0 σ) ships k 93 2 = (mpN t (tl σ 2) (nI (tl σ 0)) ships k).1.1 ∧ (k = 0 ∧ (mpN t (tl σ 2) (nI (tl σ 0)) ships k).1.1 = -1 ∨ 0 < k ∧ 0 ≤ ((mpN t (tl σ 2) (nI (tl σ 0)) ships k).1.1).toInt ∧ pdN (pd0 σ) ships k 93 3 = (mpN t (tl σ 2) (nI (tl σ 0)) ships k).1.2) ∧ CF σ (pdN (pd0 σ) ships k) ∧ BS σ (σ 122 27) (σ 122 28) (pdN (pd0 σ) ships k) ∧ MO σ (σ 122 27) (σ 122 28) (pdN (pd0 σ) ships k) ∧ UI σ (mpN t (tl σ 2) (nI (tl σ 0)) ships k).2 ∧ RK σ (mpN t (tl σ 2) (nI (tl σ 0)) ships k).2 := by
  have b0 : tl σ 0 ≤ 12 := h.b.1
  have b3 : tl σ 3 ≤ 6 := h.b.2.2.2.1
  obtain ⟨v1, v2, v3, v4, v5⟩ := pd0_v h
  have hPb := PS_begin h hn
  intro k
  induction k with
  | zero =>
    intro _
    rw [mpN_0]
    refine ⟨v5, Or.inl ⟨rfl, rfl⟩, fun _ _ _ _ _ _ _ _ _ => rfl, ⟨fun o ho => v1 o (by omega) (by omega) (by omega) (by omega) (by omega) (by omega) (by omega) (by omega) (by omega), ?_, ?_⟩, fun i m b hi hm hb => ?_, ⟨fun o a b c d => ?_, fun f a b => ?_⟩, fun j _ hj => ?_⟩
    · show pd0 σ 56 7 = _; rw [v4 56 (by decide)]; exact hPb.2.2.1
    · show pd0 σ 56 8 = _; rw [v4 56 (by decide)]; exact hPb.2.2.2
    · show gB (pd0 σ 92 (12 * i + m)) b = true ↔ gB (pd0 σ 90 (12 * i + m)) b = true ∧ _
      obtain ⟨z1, z2⟩ := pbS_90 (σ := σ) (k := 12 * i + m) (by omega)
      rw [v4 92 (by decide), v4 90 (by decide), z1, z2, gB_0]
      exact ⟨fun z => absurd z (by decide), fun z => absurd z.1 (by decide)⟩
    · show pt0 t o = σ o; rw [pt0_o d]; exact hq.1 o a b c
    · show pt0 t 111 f = σ 111 f; rw [pt0_o (by decide)]; exact hq.2 f a b
    · show pt0 t 123 j = σ 122 j
      unfold pt0; rw [fl_in hj, hq.1 122 (by decide) (by decide) (by decide)]
  | succ k ih =>
    intro hk
    obtain ⟨i1, i2, i3, i4, i5, i6, i7⟩ := ih (by omega)
    obtain ⟨w1, w2, w3, w4, w5, w6, w7, w8, w9⟩ := put_way h hn hL hO hcd i3 i4 i5 i6 i7 (way := k) (by omega) (ships := ships)
    have e3 : ct (mpU (tl σ 2) (nI (tl σ 0)) (mpN t (tl σ 2) (nI (tl σ 0)) ships k).2 (nI k) 115 3) = tl σ 3 := by
      have hu1 := wq.I (D := tl σ 2) (n := tl σ 2) (c := nI (tl σ 0)) (way := nI k) (wq.rf (σ := (mpN t (tl σ 2) (nI (tl σ 0)) ships k).2)) h.b.2.2.1
      exact (congrArg (fun f => ct (f 3)) (hu1.1 115 (by decide) (by decide) (by decide) (by decide))).trans (i6.tl 3)
    have z0 : (0 : Int32).toInt = 0 := rfl
    have zm : (-1 : Int32).toInt = -1 := rfl
    by_cases q : (pdZ (pdN (pd0 σ) ships k) ships k).1 ≤ (pdZ (pdN (pd0 σ) ships k) ships k).2 93 2
    · have q2 : (mcg (mpU (tl σ 2) (nI (tl σ 0)) (mpN t (tl σ 2) (nI (tl σ 0)) ships k).2 (nI k)) 123 ships (ct (mpU (tl σ 2) (nI (tl σ 0)) (mpN t (tl σ 2) (nI (tl σ 0)) ships k).2 (nI k) 115 3))).1 ≤ (mpN t (tl σ 2) (nI (tl σ 0)) ships k).1.1 := by
        rw [e3, ← w1, ← i1]; rw [w4] at q; exact q
      rw [pdN_1 q, mpN_1 rfl q2, e3]
      refine ⟨by rw [w4]; exact i1, ?_, w3, w5, w6, w7, w8⟩
      right
      rcases i2 with ⟨-, y⟩ | ⟨y1, y2, y3⟩
      · rw [w4, i1, y, i_le, zm] at q; omega
      · exact ⟨by omega, y2, by rw [w4]; exact y3⟩
    · have q2 : ¬ (mcg (mpU (tl σ 2) (nI (tl σ 0)) (mpN t (tl σ 2) (nI (tl σ 0)) ships k).2 (nI k)) 123 ships (ct (mpU (tl σ 2) (nI (tl σ 0)) (mpN t (tl σ 2) (nI (tl σ 0)) ships k).2 (nI k) 115 3))).1 ≤ (mpN t (tl σ 2) (nI (tl σ 0)) ships k).1.1 := by
        rw [e3, ← w1, ← i1]; rw [w4] at q; exact q
      rw [pdN_2 q, mpN_2 rfl q2, e3]
      have o93 : ∀ o, o ≠ 93 → up (up (pdZ (pdN (pd0 σ) ships k) ships k).2 93 2 (pdZ (pdN (pd0 σ) ships k) ships k).1) 93 3 (coC (pdN (pd0 σ) ships k) (nI k)) o = (pdZ (pdN (pd0 σ) ships k) ships k).2 o := fun o ho => by rw [up_o ho, up_o ho]
      refine ⟨?_, Or.inr ⟨by omega, ?_, ?_⟩, fun o a b c d e f g l => by rw [o93 o l]; exact w3 o a b c d e f g l, ⟨fun o ho => by rw [o93 o (by omega)]; exact w5.1 o ho, by rw [o93 56 (by decide)]; exact w5.2.1, by rw [o93 56 (by decide)]; exact w5.2.2⟩, fun i m b hi hm hb => by rw [o93 92 (by decide), o93 90 (by decide)]; exact w6 i m b hi hm hb, w7, w8⟩
      · rw [up_k (by decide), up_rd]; exact w1
      · show 0 ≤ (mcg _ 123 ships (tl σ 3)).1.toInt
        rw [← w1]; exact w9
      · rw [up_rd]; exact w2
theorem q_put {σ t : St} (h : RC σ) (hn : RNs σ) (hL : LW σ σ) (hO : lawOK σ) (hcd : tl σ 2 = 0 ∨ 0 < tl σ 0) (hq : sx σ t) {ships w : Int32} : (if w = 0 then (pdS σ ships) 93 2 else (pdS σ ships) 93 3) = (if w = 0 then (mpN t (ct (t 115 2)) (t 115 0) ships (ct (myN t (ct (t 115 2))))).1.1 else (mpN t (ct (t 115 2)) (t 115 0) ships (ct (myN t (ct (t 115 2))))).1.2) := by
  have b0 : tl σ 0 ≤ 12 := h.b.1
  have b2' : tl σ 2 ≤ 3 := h.b.2.2.1
  have e115 : t 115 = σ 115 := hq.1 115 (by decide) (by decide) (by decide)
  have e0 : σ 115 0 = nI (tl σ 0) := (nI_bk (h.p 0 (by decide))).symm
  have hw := wy_e b0 (h.m0.trans e0) (tl σ 2) b2'
  have e2 : ct (cM σ 2) = tl σ 2 := by rw [h.m2]
  have ew : myN t (tl σ 2) = wyN σ (tl σ 2) := by unfold myN wyN; rw [e115]; exact it_congr (fun _ _ x => by rw [h.m0])
  have hp : tl σ 0 ^ tl σ 2 ≤ 12 ^ tl σ 2 := Nat.pow_le_pow_left b0 _
  have hp2 : (12 : Nat) ^ tl σ 2 ≤ 12 ^ 3 := Nat.pow_le_pow_right (by decide) b2'
  have hp3 : (12 : Nat) ^ 3 = 1728 := rfl
  have hc : ct (wyN σ (tl σ 2)) = tl σ 0 ^ tl σ 2 := by rw [hw]; exact ct_nI (by omega)
  have hpos : 0 < tl σ 0 ^ tl σ 2 := by
    rcases hcd with z | z
    · rw [z]; exact Nat.zero_lt_one
    · exact Nat.pow_pos z
  obtain ⟨i1, i2, -⟩ := put_n h hn hL hO hcd hq (ships := ships) (tl σ 0 ^ tl σ 2) (by omega)
  have e9 : ct (t 115 2) = tl σ 2 := by rw [e115]
  rw [e9, ew, hc, e115, e0]
  unfold pdS
  rw [e2, hc]
  rcases i2 with ⟨z, -⟩ | ⟨-, -, z⟩
  · omega
  · rw [i1, z]
