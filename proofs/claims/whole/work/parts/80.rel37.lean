/-! ===== a law kept ===== -/
theorem lbc_e {s : St} : (lbc s 50 59 50 4 = s 59 4 ∧ (∀ k, k < 150 → lbc s 50 59 52 k = s 61 k) ∧ ∀ k, k < 150 → lbc s 50 59 54 k = s 63 k) ∧ ∀ q, q ≠ 50 → q ≠ 52 → q ≠ 54 → lbc s 50 59 q = s q := by
  have e : lbc s 50 59 = up (cpr (cpr s 51 60 150) 53 62 150) 50 4 ((cpr (cpr s 51 60 150) 53 62 150) 59 4) := rfl
  rw [e]
  refine ⟨⟨?_, fun k hk => ?_, fun k hk => ?_⟩, fun q a b c => ?_⟩
  · rw [up_rd, cpr_o (by decide), cpr_o (by decide)]
  · rw [up_o (by decide), cpr_o (by decide), cpr_in (q := 60) (S := 61) rfl rfl (by decide) hk (by decide)]
  · rw [up_o (by decide), cpr_in (q := 62) (S := 63) rfl rfl (by decide) hk (by decide), cpr_o (by decide)]
  · rw [up_o a, cpr_o c, cpr_o b]
theorem xl_hi {σ : St} {n : Int32} {o : Nat} (h : 111 ≤ o) : xlS σ n o = σ o := by
  unfold xlS; split
  · exact xl1_f.1 o (by omega) (by omega) (by omega) (by omega)
  · rw [lbc_e.2 o (by omega) (by omega) (by omega)]; exact xl1_f.1 o (by omega) (by omega) (by omega) (by omega)
theorem RA_law {σ : St} {n : Int32} (h : RA σ) (h0 : 0 ≤ n.toInt) (h1 : n.toInt ≤ 150) : RA (mlwS (xlS σ n) n) ∧ xlV σ n = mlwV (xlS σ n) n := by
  obtain ⟨hB, hX, hH, hQ⟩ := h
  have hb : σ 3 = (xlS σ n) 112 := by rw [xl_hi (by decide)]; exact hQ.1.2.2.2
  obtain ⟨S, D⟩ := lw_read (σ := σ) (τ := xlS σ n) (n := n) hb h0 h1
  obtain ⟨fo, ff, f3, f1⟩ := mlwG_f (τ := xlS σ n) (n := n) h0 h1
  obtain ⟨xo, x11⟩ := xl1_f (σ := σ) (n := n)
  have hbb := hB.c.b3
  by_cases f : mlwG (xlS σ n) n 111 5 = 0
  · obtain ⟨D1, D2, D3, D4⟩ := D f
    have c5 : xl1 σ n 1 5 = 0 := S.2.2.2.1.trans f
    have c6 : xl1 σ n 1 6 = -1 := S.2.2.2.2.1.trans (S.2.2.2.2.2 f).2
    have eS : xlS σ n = lbc (xl1 σ n) 50 59 := by unfold xlS; exact if_neg (fun y => b2_z y c5)
    have eV : xlV σ n = 1 := by unfold xlV; exact if_neg (fun y => b2_z y c5)
    have eM : mlwS (xlS σ n) n = lay (mlwH (mlwG (xlS σ n) n)) 327 167 2 (ct (mlwH (mlwG (xlS σ n) n) 111 23)) := by unfold mlwS; exact if_pos f
    have eW : mlwV (xlS σ n) n = 1 := by unfold mlwV; exact if_pos f
    rw [eM, eV, eW]
    obtain ⟨⟨k1, k2, k3⟩, k4⟩ := lbc_e (s := xl1 σ n)
    have gf : ∀ f, 8 < f → f ≠ 24 → mlwG (xlS σ n) n 111 f = σ 111 f := fun f a b => by rw [ff f a b, xl_hi (by decide)]
    have fo' : ∀ o, o ≠ 111 → (o < 327 ∨ 487 ≤ o) → mlwG (xlS σ n) n o = lbc (xl1 σ n) 50 59 o := fun o a b => by rw [fo o a b, eS]
    generalize mlwG (xlS σ n) n = t at *
    have h24 : mlwH t 111 23 = t 111 24 := by unfold mlwH; rw [up_rd]
    have c24 : ct (t 111 24) ≤ 150 := by unfold ct; omega
    generalize hr : lay (mlwH t) 327 167 2 (ct (mlwH t 111 23)) = r
    rw [h24] at hr
    have ho : ∀ o, o ≠ 111 → (o < 167 ∨ 327 ≤ o) → r o = t o := fun o a b => by
      rw [← hr, lay_o (by omega)]; unfold mlwH; rw [up_o a, up_o a]
    have hf : ∀ f, f ≠ 3 → f ≠ 23 → r 111 f = t 111 f := fun f a b => by
      rw [← hr, lay_o (by omega)]; unfold mlwH; rw [up_k b, up_k a]
    have h23 : r 111 23 = t 111 24 := by rw [← hr, lay_o (by omega)]; exact h24
    have h3 : r 111 3 = -1 := by rw [← hr, lay_o (by omega)]; unfold mlwH; rw [up_k (by decide), up_rd]
    have hin : ∀ k j, k < ct (t 111 24) → j < 2 → r (167 + k) j = t (327 + k) j := fun k j hk hj => by
      rw [← hr, lay_in hk hj]; unfold mlwH; rw [up_o (by omega), up_o (by omega)]
    have rl : ∀ o, o ≠ 111 → (o < 167 ∨ 487 ≤ o) → r o = lbc (xl1 σ n) 50 59 o := fun o a b => by rw [ho o a (by omega), fo' o a (by omega)]
    have rs : ∀ o, o ≠ 1 → o ≠ 50 → o ≠ 52 → o ≠ 54 → o ≠ 59 → o ≠ 61 → o ≠ 63 → o ≠ 111 → (o < 167 ∨ 487 ≤ o) → r o = σ o := fun o a b c d e f g h i => by
      rw [rl o h i, k4 o b c d]; exact xo o a e f g
    have rf : ∀ f, 8 < f → f ≠ 24 → f ≠ 23 → r 111 f = σ 111 f := fun f a b c => by rw [hf f (by omega) c]; exact gf f a b
    have hT : ∀ k, tl r k = tl σ k := fun k => by unfold tl; rw [rs 115 (by decide) (by decide) (by decide) (by decide) (by decide) (by decide) (by decide) (by decide) (by decide)]
    have pos : 0 < ct (t 111 24) := by
      rcases Nat.eq_zero_or_pos (ct (t 111 24)) with z | z
      · have := D2.2; rw [z] at this; exact absurd this (by show ¬ (0 : Nat) = 1; decide)
      · exact z
    obtain ⟨hC, hL, hO, hG, x1, x2, x3⟩ := hB
    obtain ⟨⟨w, hW⟩, i, hI⟩ := hH
    refine ⟨⟨⟨?_, ?_, ?_, ?_, ?_, fun k hk => ?_, fun i hi => ?_⟩, ?_, ⟨⟨w, ?_⟩, i, ?_⟩, ?_⟩, rfl⟩
    · exact RC_eq2 hC (fun o a b => rs o (by omega) (by omega) (by omega) (by omega) (by omega) (by omega) (by omega) (by omega) (by omega)) (rs 115 (by decide) (by decide) (by decide) (by decide) (by decide) (by decide) (by decide) (by decide) (by decide)) (rs 117 (by decide) (by decide) (by decide) (by decide) (by decide) (by decide) (by decide) (by decide) (by decide)) (rs 119 (by decide) (by decide) (by decide) (by decide) (by decide) (by decide) (by decide) (by decide) (by decide)) (fun o a => rs o (by omega) (by omega) (by omega) (by omega) (by omega) (by omega) (by omega) (by omega) (by omega))
    · left
      have e50 : r 50 4 = t 111 24 := by rw [rl 50 (by decide) (by decide), k1]; exact D1.1
      refine ⟨?_, ?_, ?_, ?_, fun k hk => ?_⟩
      · rw [h23]; intro z; rw [z] at pos; exact absurd pos (by decide)
      · rw [h23]; exact pos
      · rw [h23, e50]
      · rw [e50]; exact c24
      · rw [e50] at hk
        rw [rl 52 (by decide) (by decide), rl 54 (by decide) (by decide), k2 k (by omega), k3 k (by omega), hin k 0 hk (by decide), hin k 1 hk (by decide)]
        exact D1.2 k hk
    · unfold lawOK
      rw [h23]
      have hd : ∀ k, k ≤ ct (t 111 24) → dep r k = dpd t k := fun k hk => by
        unfold dep dpd; exact it_congr (fun i hi x => by rw [hin i 0 (by omega) (by decide)])
      refine ⟨by omega, fun k hk => ?_⟩
      rw [hin k 0 hk (by decide), hin k 1 hk (by decide), hd k (by omega)]
      exact D2.1 k hk
    · exact RG_eq hG (by rw [rs 68 (by decide) (by decide) (by decide) (by decide) (by decide) (by decide) (by decide) (by decide) (by decide)]) (rs 70 (by decide) (by decide) (by decide) (by decide) (by decide) (by decide) (by decide) (by decide) (by decide)) (rf 37 (by decide) (by decide) (by decide)) (fun o a b => rs o (by omega) (by omega) (by omega) (by omega) (by omega) (by omega) (by omega) (by omega) (by omega))
    · rw [hT, hT]; exact x1
    · rw [hT] at hk; rw [rs 119 (by decide) (by decide) (by decide) (by decide) (by decide) (by decide) (by decide) (by decide) (by decide)]; exact x2 k hk
    · rw [hT] at hi; have := hC.b.2.2.2.1; rw [rs (161 + i) (by omega) (by omega) (by omega) (by omega) (by omega) (by omega) (by omega) (by omega) (by omega)]; exact x3 i hi
    · exact RX_eq hbb hT (fun k _ => by rw [rs 83 (by decide) (by decide) (by decide) (by decide) (by decide) (by decide) (by decide) (by decide) (by decide)]) (fun k _ => by rw [rs 122 (by decide) (by decide) (by decide) (by decide) (by decide) (by decide) (by decide) (by decide) (by decide)]) hX
    · exact RHw_fr hbb hT hW (rf 38 (by decide) (by decide) (by decide)) (by rw [rs 102 (by decide) (by decide) (by decide) (by decide) (by decide) (by decide) (by decide) (by decide) (by decide)]) (rs 104 (by decide) (by decide) (by decide) (by decide) (by decide) (by decide) (by decide) (by decide) (by decide)) (fun k hk => rs (591 + k) (by omega) (by omega) (by omega) (by omega) (by omega) (by omega) (by omega) (by omega) (by omega))
    · exact RHi_fr hbb hT hI (rf 40 (by decide) (by decide) (by decide)) (by rw [rs 102 (by decide) (by decide) (by decide) (by decide) (by decide) (by decide) (by decide) (by decide) (by decide)]) (rs 106 (by decide) (by decide) (by decide) (by decide) (by decide) (by decide) (by decide) (by decide) (by decide)) (rs 108 (by decide) (by decide) (by decide) (by decide) (by decide) (by decide) (by decide) (by decide) (by decide)) (fun m hm => rs (607 + m) (by omega) (by omega) (by omega) (by omega) (by omega) (by omega) (by omega) (by omega) (by omega))
    · have m1 : r 111 1 = 0 := by rw [hf 1 (by decide) (by decide)]; exact f1
      refine ⟨⟨?_, ?_, ?_, ?_⟩, ?_, ?_, ?_, ?_⟩
      · rw [m1, rl 1 (by decide) (by decide), k4 1 (by decide) (by decide) (by decide)]; exact x11
      · rw [m1]; decide
      · rw [m1]; decide
      · rw [rs 3 (by decide) (by decide) (by decide) (by decide) (by decide) (by decide) (by decide) (by decide) (by decide), rs 112 (by decide) (by decide) (by decide) (by decide) (by decide) (by decide) (by decide) (by decide) (by decide)]; exact hQ.1.2.2.2
      · rw [rl 1 (by decide) (by decide), k4 1 (by decide) (by decide) (by decide), c6, h3]
      · rw [rs 0 (by decide) (by decide) (by decide) (by decide) (by decide) (by decide) (by decide) (by decide) (by decide), rf 39 (by decide) (by decide) (by decide)]; exact hQ.2.2.1
      · rw [rs 0 (by decide) (by decide) (by decide) (by decide) (by decide) (by decide) (by decide) (by decide) (by decide), rs 113 (by decide) (by decide) (by decide) (by decide) (by decide) (by decide) (by decide) (by decide) (by decide)]; exact hQ.2.2.2.1
      · rw [rs 0 (by decide) (by decide) (by decide) (by decide) (by decide) (by decide) (by decide) (by decide) (by decide), rs 113 (by decide) (by decide) (by decide) (by decide) (by decide) (by decide) (by decide) (by decide) (by decide)]; exact hQ.2.2.2.2
  · have c5 : ¬ xl1 σ n 1 5 = 0 := fun y => f (S.2.2.2.1.symm.trans y)
    have eS : xlS σ n = xl1 σ n := by unfold xlS; exact if_pos (b2_f c5)
    have eV : xlV σ n = xl1 σ n 1 5 - 10 := by unfold xlV; exact if_pos (b2_f c5)
    have eM : mlwS (xlS σ n) n = up (mlwG (xlS σ n) n) 111 3 (mlwG (xlS σ n) n 111 6) := by unfold mlwS; exact if_neg f
    have eW : mlwV (xlS σ n) n = mlwG (xlS σ n) n 111 5 - 10 := by unfold mlwV; exact if_neg f
    rw [eM, eV, eW, S.2.2.2.1]
    have c6 := S.2.2.2.2.1
    have gf : ∀ f, 8 < f → f ≠ 24 → mlwG (xlS σ n) n 111 f = σ 111 f := fun f a b => by rw [ff f a b, xl_hi (by decide)]
    have fo' : ∀ o, o ≠ 111 → (o < 327 ∨ 487 ≤ o) → mlwG (xlS σ n) n o = xl1 σ n o := fun o a b => by rw [fo o a b, eS]
    generalize mlwG (xlS σ n) n = t at *
    have ro : ∀ o, o ≠ 111 → (o < 327 ∨ 487 ≤ o) → o ≠ 1 → o ≠ 59 → o ≠ 61 → o ≠ 63 → up t 111 3 (t 111 6) o = σ o := fun o a b c d e g => by rw [up_o a, fo' o a b]; exact xo o c d e g
    have rf : ∀ f, 8 < f → f ≠ 24 → up t 111 3 (t 111 6) 111 f = σ 111 f := fun f a b => by rw [up_k (by omega)]; exact gf f a b
    have r1 : up t 111 3 (t 111 6) 1 = xl1 σ n 1 := by rw [up_o (by decide), fo' 1 (by decide) (by decide)]
    have m1 : up t 111 3 (t 111 6) 111 1 = 0 := by rw [up_k (by decide)]; exact f1
    refine ⟨RA_fr ⟨hB, hX, hH, hQ⟩ (fun o ho => ro o (by omega) (by omega) (by omega) (by omega) (by omega) (by omega)) (by rw [ro 68 (by decide) (by decide) (by decide) (by decide) (by decide) (by decide)]) (by rw [ro 102 (by decide) (by decide) (by decide) (by decide) (by decide) (by decide)]) (by rw [ro 102 (by decide) (by decide) (by decide) (by decide) (by decide) (by decide)]) (fun f hf => rf f (by omega) (by omega)) ⟨⟨?_, ?_, ?_, ?_⟩, ?_, ?_, ?_, ?_⟩, rfl⟩
    · rw [m1, r1]; exact x11
    · rw [m1]; decide
    · rw [m1]; decide
    · rw [ro 3 (by decide) (by decide) (by decide) (by decide) (by decide) (by decide), ro 112 (by decide) (by decide) (by decide) (by decide) (by decide) (by decide)]; exact hQ.1.2.2.2
    · rw [r1, c6, up_rd]
    · rw [ro 0 (by decide) (by decide) (by decide) (by decide) (by decide) (by decide), rf 39 (by decide) (by decide)]; exact hQ.2.2.1
    · rw [ro 0 (by decide) (by decide) (by decide) (by decide) (by decide) (by decide), ro 113 (by decide) (by decide) (by decide) (by decide) (by decide) (by decide)]; exact hQ.2.2.2.1
    · rw [ro 0 (by decide) (by decide) (by decide) (by decide) (by decide) (by decide), ro 113 (by decide) (by decide) (by decide) (by decide) (by decide) (by decide)]; exact hQ.2.2.2.2
