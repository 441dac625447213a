/-! ===== struck where? the class looks where a reef is, the reference everywhere ===== -/
theorem ix12 {i m : Nat} (hi : i < 6) (hm : m < 12) : nI i * 12 + nI m = nI (12 * i + m) := by
  have e : (nI i * 12).toInt = i * 12 := by
    rw [Int32.toInt_mul, i_nI (by omega), show (12 : Int32).toInt = 12 from rfl]
    exact Int.bmod_eq_of_le (by omega) (by omega)
  rw [i_eq, i_add e (i_nI (by omega)) (by omega) (by omega), i_nI (by omega)]; omega
theorem ps2_e {s : St} {i m : Nat} {w : Int32} (hi : i < 6) (hm : m < 12) (h90 : s 90 (12 * i + m) = 0) : ps2 s (nI i) (nI m) w = tls (up s 90 (12 * i + m) w) (nI i) (s 86 m) (s 88 m) (nI m) (nI m) := by
  unfold ps2
  rw [ix12 hi hm, rg_nI (by omega) (by decide), h90, Int32.zero_or, rs_nI (by omega) (by decide), rg_nI (by omega) (by decide), rg_nI (by omega) (by decide), up_o (by decide)]
theorem tls_56 {s : St} {ship seen dark m c : Int32} {k : Nat} (h : 7 ≤ k) : tls s ship seen dark m c 56 k = s 56 k := by
  rw [tls_e]
  rw [up_k (by omega), up_k (by omega), up_k (by omega), up_k (by omega), up_k (by omega), up_k (by omega), up_k (by omega)]
theorem psT_e {s : St} {i m : Nat} {w : Int32} (hi : i < 6) (hm : m < 12) (h90 : s 90 (12 * i + m) = 0) (h92 : s 92 (12 * i + m) = 0) : psT s (nI i) (nI m) w = up (lwS (ps2 s (nI i) (nI m) w)) 92 (12 * i + m) (if b2 (lwP (ps2 s (nI i) (nI m) w)) = 0 then 0 else w) := by
  have e92 : rg (ps2 s (nI i) (nI m) w 92) 72 (nI i * 12 + nI m) = 0 := by
    rw [ps2_e hi hm h90, tls_o (by decide), up_o (by decide), ix12 hi hm, rg_nI (by omega) (by decide)]; exact h92
  unfold psT
  rw [if_pos (by rw [ix12 hi hm, rg_nI (by omega) (by decide), h90]; exact Int32.zero_and), e92, Int32.zero_or, ix12 hi hm, rs_nI (by omega) (by decide)]
theorem psH_e {s : St} {i m : Nat} (hi : i < 6) (hm : m < 12) (h90 : s 90 (12 * i + m) = 0) (h92 : s 92 (12 * i + m) = 0) : psH s (nI i) (nI m) ↔ ¬ lwP (ps2 s (nI i) (nI m) (psV s (nI m))) := by
  unfold psH
  rw [psT_e hi hm h90 h92, ix12 hi hm, rg_nI (by omega) (by decide), up_rd]
  by_cases q : b2 (lwP (ps2 s (nI i) (nI m) (psV s (nI m)))) = 0
  · rw [if_pos q]; exact ⟨fun _ => b2_z q, fun _ => Int32.zero_and⟩
  · rw [if_neg q, Int32.and_self]
    exact ⟨fun z => absurd z (by unfold psV; exact sh1_ne _), fun z => absurd (b2_nz q) z⟩
theorem LW_eq {σ s t : St} (h : LW σ σ) (a : s 50 = σ 50) (b : s 52 = σ 52) (c : s 54 = σ 54) (d : t 111 23 = σ 111 23) (e : ∀ k, k < 160 → t (167 + k) = σ (167 + k)) : LW s t := by
  rcases h with ⟨h0, hp, hM⟩ | ⟨h0, h4, a0, a1, v1, a2⟩
  · left
    refine ⟨by rw [d]; exact h0, by rw [d]; exact hp, by rw [d, a]; exact hM.1, by rw [a]; exact hM.2.1, fun k hk => ?_⟩
    rw [a] at hk
    have := hM.2.1
    rw [b, c, e k (by omega)]
    exact hM.2.2 k hk
  · right
    rw [d, a, b, c]; exact ⟨h0, h4, a0, a1, v1, a2⟩
