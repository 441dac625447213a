/-! ===== struck where? the class looks where a reef is, the reference everywhere ===== -/
theorem ix12 {i m : Nat} (hi : i < 6) (hm : m < 12) : nI i * 12 + nI m = nI (12 * i + m) := by
  have e : (nI i * 12).toInt = i * 12 := by
    rw [Int32.toInt_mul, i_nI (by omega), show (12 : Int32).toInt = 12 from rfl]
    exact Int.bmod_eq_of_le (by omega) (by omega)
  rw [i_eq, i_add e (i_nI (by omega)) (by omega) (by omega), i_nI (by omega)]; omega
theorem ps2_e {s : St} {i m : Nat} {w : Int32} (hi : i < 6) (hm : m < 12) (h90 : s 90 (12 * i + m) = 0) : ps2 s (nI i) (nI m) w = tls (up s 90 (12 * i + m) w) (nI i) (s 86 m) (s 88 m) (nI m) (nI m) := by
  unfold ps2
  rw [ix12 hi hm, rg_nI (by omega) (by decide), h90, Int32.zero_or, rs_nI (by omega) (by decide), rg_nI (by omega) (by decide), rg_nI (by omega) (by decide), up_o (by decide)]
theorem tls_56 {s : St} {ship seen dark m c : Int32} {k : Nat} (h : 7 ≤ k) : tls s ship seen dark m c 56 k = s 56 k := by
  rw [tls_e]
  rw [up_k (by omega), up_k (by omega), up_k (by omega), up_k (by omega), up_k (by omega), up_k (by omega), up_k (by omega)]
theorem psT_e {s : St} {i m : Nat} {w : Int32} (hi : i < 6) (hm : m < 12) (h90 : s 90 (12 * i + m) = 0) (h92 : s 92 (12 * i + m) = 0) : psT s (nI i) (nI m) w = up (lwS (ps2 s (nI i) (nI m) w)) 92 (12 * i + m) (if b2 (lwP (ps2 s (nI i) (nI m) w)) = 0 then 0 else w) := by
  have e92 : rg (ps2 s (nI i) (nI m) w 92) 72 (nI i * 12 + nI m) = 0 := by
    rw [ps2_e hi hm h90, tls_o (by decide), up_o (by decide), ix12 hi hm, rg_nI (by omega) (by decide)]; exact h92
  unfold psT
  rw [if_pos (by rw [ix12 hi hm, rg_nI (by omega) (by decide), h90]; exact Int32.zero_and), e92, Int32.zero_or, ix12 hi hm, rs_nI (by omega) (by decide)]
theorem psH_e {s : St} {i m : Nat} (hi : i < 6) (hm : m < 12) (h90 : s 90 (12 * i + m) = 0) (h92 : s 92 (12 * i + m) = 0) : psH s (nI i) (nI m) ↔ ¬ lwP (ps2 s (nI i) (nI m) (psV s (nI m))) := by
  unfold psH
  rw [psT_e hi hm h90 h92, ix12 hi hm, rg_nI (by omega) (by decide), up_rd]
  by_cases q : b2 (lwP (ps2 s (nI i) (nI m) (psV s (nI m)))) = 0
  · rw [if_pos q]; exact ⟨fun _ => b2_z q, fun _ => Int32.zero_and⟩
  · rw [if_neg q, Int32.and_self]
    exact ⟨fun z => absurd z (by unfold psV; exact sh1_ne _), fun z => absurd (b2_nz q) z⟩
theorem LW_eq {σ s t : St} (h : LW σ σ) (a : s 50 = σ 50) (b : s 52 = σ 52) (c : s 54 = σ 54) (d : t 111 23 = σ 111 23) (e : ∀ k, k < 160 → t (167 + k) = σ (167 + k)) : LW s t := by
  rcases h with ⟨h0, hp, hM⟩ | ⟨h0, h4, a0, a1, v1, a2⟩
  · left
    refine ⟨by rw [d]; exact h0, by rw [d]; exact hp, by rw [d, a]; exact hM.1, by rw [a]; exact hM.2.1, fun k hk => ?_⟩
    rw [a] at hk
    have := hM.2.1
    rw [b, c, e k (by omega)]
    exact hM.2.2 k hk
  · right
    rw [d, a, b, c]; exact ⟨h0, h4, a0, a1, v1, a2⟩
theorem msb_sq {σ t : St} (h : sx σ t) {c m : Int32} : msb t 122 c m = msb σ 122 c m := by
  have a : t 115 = σ 115 := h.1 115 (by decide) (by decide) (by decide)
  have b : t 122 = σ 122 := h.1 122 (by decide) (by decide) (by decide)
  have l : ∀ j, t (143 + j) = σ (143 + j) := fun j => h.1 _ (by omega) (by omega) (by omega)
  have d : ∀ j, t (152 + j) = σ (152 + j) := fun j => h.1 _ (by omega) (by omega) (by omega)
  have hs : sgt t 122 = sgt σ 122 := by unfold sgt; rw [a, b]
  have hA : ∀ k, mdA t 122 k m = mdA σ 122 k m := fun k => by unfold mdA; rw [a, b]
  have hT : ∀ k, tl t k = tl σ k := fun k => by unfold tl; rw [a]
  have h1 : msL t 122 c m (tl t 1) = msL σ 122 c m (tl σ 1) := by
    unfold msL; rw [hs, hT]; exact sm_congr (fun j _ => b2_congr (by unfold mlP; rw [b, l]))
  have h2 : ∀ x, msD t 122 c m x (tl t 2) = msD σ 122 c m x (tl σ 2) := fun x => by
    unfold msD; rw [hs, hT]; exact it_congr (fun k _ y => by rw [b2_congr (show mdP t 122 c m (sgt σ 122) k ↔ mdP σ 122 c m (sgt σ 122) k from by unfold mdP; rw [hA, d])])
  have h3 : mmP t 122 c m (sgt t 122) ↔ mmP σ 122 c m (sgt σ 122) := by unfold mmP; rw [hs, b]
  unfold msb
  rw [h1, h2]
  by_cases p : mmP σ 122 c m (sgt σ 122)
  · rw [if_pos p, if_pos (h3.mpr p)]
  · rw [if_neg p, if_neg (fun z => p (h3.mp z))]
theorem trL_sq {σ t : St} (h : sx σ t) {m : Nat} {la : Int32} : trL t 122 m la = trL σ 122 m la := by unfold trL; rw [msb_sq h]
theorem mbS_42 {u : St} : mbS u 111 = u 111 := by rw [mbS_o (by decide)]
theorem trS_0 {t : St} {o s m : Nat} {la : Int32} (h : ¬ 0 < mbV (tr3 t o s m la)) : trS t o s m la 111 42 = t 111 42 := by
  unfold trS; rw [if_pos (b2_f h), mbS_42]
  unfold tr3; rw [knS_o (by decide)]; unfold tr2 tr1; rw [up_k (by decide), up_k (by decide)]
theorem trS_1 {σ t : St} (hq : sx σ t) {s m : Nat} {la : Int32} (h : 0 < mbV (tr3 t 122 s m la)) : trS t 122 s m la 111 42 = if b2 (mrP σ s m) = 0 then -1 else nI m := by
  have hb : ¬ b2 (0 < mbV (tr3 t 122 s m la)) = 0 := fun z => b2_z z h
  have q4 : sx σ (tr4 t 122 s m la) := by unfold tr4; exact hq.t3.bS.up1 (by decide)
  have e : b2 (mrP (tr4 t 122 s m la) s m) = b2 (mrP σ s m) := b2_congr (by
    unfold mrP; rw [q4.1 117 (by decide) (by decide) (by decide), q4.1 (161 + s) (by omega) (by omega) (by omega)])
  unfold trS; rw [if_neg hb, up_rd, e]
/-- the law is asked the same -/
theorem law_same {σ s t : St} (h : RC σ) (hL : LW σ σ) (hO : lawOK σ) (hP : PS σ s) (hq : sx σ t) {i m : Nat} (hi : i < tl σ 3) (hm : m < tl σ 0) (h90 : s 90 (12 * i + m) = 0) {w : Int32} : lwP (ps2 s (nI i) (nI m) w) ↔ 0 < mbV (tr3 t 122 i m (dkM σ m)) := by
  have b0 := h.b.1
  have b3 := h.b.2.2.2.1
  obtain ⟨hF, hM, h7, h8⟩ := hP
  have q3 : sx σ (tr3 t 122 i m (dkM σ m)) := hq.t3
  have hO3 : lawOK (tr3 t 122 i m (dkM σ m)) := q3.law hO
  have hW : LW (ps2 s (nI i) (nI m) w) (tr3 t 122 i m (dkM σ m)) := by
    refine LW_eq hL ?_ ?_ ?_ (q3.2 23 (by decide) (by decide)) (fun k _ => q3.1 _ (by omega) (by omega) (by omega))
    all_goals rw [ps2_e (by omega) (by omega) h90, tls_o (by decide), up_o (by decide)]; exact hF _ (by decide) (by decide) (by decide) (by decide) (by decide) (by decide) (by decide)
  have hK : LK (ps2 s (nI i) (nI m) w) (tr3 t 122 i m (dkM σ m)) := by
    rw [ps2_e (by omega) (by omega) h90, (hM m hm).1, (hM m hm).2]
    unfold tr3
    have q2 : sx σ (tr2 t 122 m) := by unfold tr2 tr1; exact (hq.up1 (by decide)).up1 (by decide)
    rw [msb_sq hq, trL_sq hq, show trL σ 122 m (dkM σ m) = dkM σ (m + 1) from rfl, q2.1 122 (by decide) (by decide) (by decide)]
    have f : ∀ o, o = 22 ∨ o = 24 ∨ o = 20 → up s 90 (12 * i + m) w o = σ o := fun o ho => by
      rw [up_o (by omega)]; exact hF o (by omega) (by omega) (by omega) (by omega) (by omega) (by omega) (by omega)
    have r : ∀ k, (tr2 t 122 m) (161 + i) k = σ (161 + i) k := fun k => by rw [q2.1 (161 + i) (by omega) (by omega) (by omega)]
    refine kn_LK ?_ ?_ ?_ ?_ ?_
    · unfold sT; rw [f 22 (by omega), r]; exact h.s2 hi
    · unfold sD; rw [f 24 (by omega), r]; exact h.s3 hi
    · unfold sW; rw [f 20 (by omega), r]; exact h.s1 hi
    · rw [up_o (by decide)]; exact h7
    · rw [up_o (by decide)]; exact h8
  unfold lwP
  rw [law_ans hW hO3 hK]
theorem PS_T {σ s : St} (hP : PS σ s) {i m : Nat} {w : Int32} (hi : i < 6) (hm : m < 12) (h90 : s 90 (12 * i + m) = 0) (h92 : s 92 (12 * i + m) = 0) : PS σ (psT s (nI i) (nI m) w) := by
  obtain ⟨hF, hM, h7, h8⟩ := hP
  have e56 : ∀ k, 7 ≤ k → psT s (nI i) (nI m) w 56 k = s 56 k := fun k hk => by
    rw [psT_e hi hm h90 h92, up_o (by decide), lwS_o (by decide), ps2_e hi hm h90, tls_56 hk, up_o (by decide)]
  refine ⟨fun o a b c d e f g => ?_, fun k hk => ?_, ?_, ?_⟩
  · rw [psT_o e f a b]; exact hF o a b c d e f g
  · rw [psT_o (by decide) (by decide) (by decide) (by decide), psT_o (by decide) (by decide) (by decide) (by decide)]; exact hM k hk
  · rw [e56 7 (by decide)]; exact h7
  · rw [e56 8 (by decide)]; exact h8
theorem psT_n {s : St} {i m k : Nat} {w : Int32} (hi : i < 6) (hm : m < 12) (h90 : s 90 (12 * i + m) = 0) (h92 : s 92 (12 * i + m) = 0) (hk : k ≠ 12 * i + m) : psT s (nI i) (nI m) w 90 k = s 90 k ∧ psT s (nI i) (nI m) w 92 k = s 92 k := by
  rw [psT_e hi hm h90 h92]
  refine ⟨?_, ?_⟩
  · rw [up_o (by decide), lwS_o (by decide), ps2_e hi hm h90, tls_o (by decide), up_k hk]
  · rw [up_k hk, lwS_o (by decide), ps2_e hi hm h90, tls_o (by decide), up_o (by decide)]
theorem pass {σ : St} (h : RC σ) (hL : LW σ σ) (hO : lawOK σ) {i : Nat} (hi : i < tl σ 3) : ∀ (n m : Nat) (s t : St), m + n = tl σ 0 → PS σ s → sx σ t → t 111 42 = -1 → (∀ k, m ≤ k → k < tl σ 0 → s 90 (12 * i + k) = 0 ∧ s 92 (12 * i + k) = 0) →
    (psR (nI i) n m s).1 = trR 122 i n m (dkM σ m) t 111 42 ∧ PS σ (psR (nI i) n m s).2 ∧ ∀ k, (k < 12 * i ∨ 12 * i + 12 ≤ k) → (psR (nI i) n m s).2 90 k = s 90 k ∧ (psR (nI i) n m s).2 92 k = s 92 k := by
  have b0 := h.b.1
  have b3 := h.b.2.2.2.1
  intro n
  induction n with
  | zero => intro m s t _ hP _ h42 _; exact ⟨h42.symm, hP, fun _ _ => ⟨rfl, rfl⟩⟩
  | succ n ih =>
    intro m s t hmn hP hq h42 hz
    have hm : m < tl σ 0 := by omega
    have z := hz m (Nat.le_refl _) hm
    have hA := law_same h hL hO hP hq hi hm z.1 (w := psV s (nI m))
    have hsm : stk s (nI i) (nI m) ↔ mrP σ i m := by
      have f8 : s 8 = σ 8 := hP.1 8 (by decide) (by decide) (by decide) (by decide) (by decide) (by decide) (by decide)
      have f24 : s 24 = σ 24 := hP.1 24 (by decide) (by decide) (by decide) (by decide) (by decide) (by decide) (by decide)
      have r1 : cR s (nI m) = σ 117 m := by unfold cR; rw [f8]; exact h.r hm
      have r2 : sD s (nI i) = σ (161 + i) 3 := by unfold sD; rw [f24]; exact h.s3 hi
      unfold stk mrP; rw [r1, r2]
    rw [trR, if_neg (fun q => q h42), trL_sq hq, show trL σ 122 m (dkM σ m) = dkM σ (m + 1) from rfl, psR]
    have qS : sx σ (trS t 122 i m (dkM σ m)) := hq.tS
    by_cases hs : stk s (nI i) (nI m)
    · rw [if_neg (fun q => q hs)]
      have hH := psH_e (i := i) (by omega) (by omega) z.1 z.2
      by_cases hl : psH s (nI i) (nI m)
      · have hA2 : ¬ 0 < mbV (tr3 t 122 i m (dkM σ m)) := fun q => (hH.mp hl) (hA.mpr q)
        rw [if_pos hl]
        have g := ih (m + 1) (psT s (nI i) (nI m) (psV s (nI m))) (trS t 122 i m (dkM σ m)) (by omega) (PS_T hP (by omega) (by omega) z.1 z.2) qS (by rw [trS_0 hA2]; exact h42) (fun k hk hk2 => by
          obtain ⟨p, q⟩ := psT_n (w := psV s (nI m)) (k := 12 * i + k) (i := i) (m := m) (by omega) (by omega) z.1 z.2 (by omega)
          rw [p, q]; exact hz k (by omega) hk2)
        refine ⟨g.1, g.2.1, fun k hk => ?_⟩
        obtain ⟨p, q⟩ := psT_n (w := psV s (nI m)) (k := k) (i := i) (m := m) (by omega) (by omega) z.1 z.2 (by omega)
        exact ⟨(g.2.2 k hk).1.trans p, (g.2.2 k hk).2.trans q⟩
      · have hA2 : 0 < mbV (tr3 t 122 i m (dkM σ m)) := hA.mp (Decidable.not_not.mp (fun q => hl (hH.mpr q)))
        rw [if_neg hl]
        have e42 : trS t 122 i m (dkM σ m) 111 42 = nI m := by
          rw [trS_1 hq hA2, if_neg (fun q => b2_z q (hsm.mp hs))]
        have hne : ¬ nI m = -1 := fun q => by
          have e1 : (nI m).toInt = m := i_nI (by omega)
          rw [q] at e1
          have e2 : (-1 : Int32).toInt = -1 := rfl
          omega
        rw [trR_stop (by rw [e42]; exact hne)]
        exact ⟨e42.symm, PS_T hP (by omega) (by omega) z.1 z.2, fun k hk => psT_n (by omega) (by omega) z.1 z.2 (by omega)⟩
    · rw [if_pos hs]
      have e42 : trS t 122 i m (dkM σ m) 111 42 = -1 := by
        by_cases hA2 : 0 < mbV (tr3 t 122 i m (dkM σ m))
        · rw [trS_1 hq hA2, if_pos (b2_f (fun q => hs (hsm.mpr q)))]
        · rw [trS_0 hA2]; exact h42
      exact ih (m + 1) s (trS t 122 i m (dkM σ m)) (by omega) hP qS e42 (fun k hk hk2 => hz k (by omega) hk2)
