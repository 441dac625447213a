theorem img_c {σ : St} {i : Nat} (h4 : σ 102 4 = nI i) (hi : i < 3) : (∀ k, k < 464 → kiS σ 106 (493 * i + k) = σ 104 k) ∧ (∀ k, k < 29 → kiS σ 106 (493 * i + 464 + k) = σ 83 k) ∧ (∀ j, (j < 493 * i ∨ 493 * i + 493 ≤ j) → kiS σ 106 j = σ 106 j) ∧
    (kiS σ 108 i = σ 102 3 ∧ ∀ m, m ≠ i → kiS σ 108 m = σ 108 m) ∧ (kiS σ 102 4 = nI (i + 1) ∧ ∀ k, k ≠ 4 → kiS σ 102 k = σ 102 k) ∧ ∀ o, o ≠ 102 → o ≠ 106 → o ≠ 108 → kiS σ o = σ o := by
  have e1 : ki1 σ = cpy σ 105 1479 103 464 (nI 0) (nI (493 * i)) 464 := by
    unfold ki1; rw [h4, show (493 : Int32) = nI 493 from rfl, nI_mul (by omega), Nat.mul_comm]; rfl
  have a1 : ∀ o, o ≠ 106 → ki1 σ o = σ o := fun o ho => by rw [e1]; exact cpy_o ho
  have e2 : ki2 (ki1 σ) (σ 102 4 * 493) = cpy (ki1 σ) 105 1479 82 29 (nI 0) (nI (493 * i + 464)) 29 := by
    unfold ki2; rw [h4, show (493 : Int32) = nI 493 from rfl, nI_mul (by omega), show (464 : Int32) = nI 464 from rfl, znI_add (by omega), Nat.mul_comm]; rfl
  have a2 : ∀ o, o ≠ 106 → ki2 (ki1 σ) (σ 102 4 * 493) o = σ o := fun o ho => by rw [e2, cpy_o ho]; exact a1 o ho
  have e3 : ki3 (ki2 (ki1 σ) (σ 102 4 * 493)) = up (ki2 (ki1 σ) (σ 102 4 * 493)) 108 i (σ 102 3) := by
    unfold ki3; rw [a2 102 (by decide), h4, rs_nI hi (by decide)]
  have e4 : kiS σ = up (up (ki2 (ki1 σ) (σ 102 4 * 493)) 108 i (σ 102 3)) 102 4 (nI (i + 1)) := by
    unfold kiS
    rw [e3, up_o (show 102 ≠ 108 by decide), a2 102 (by decide), h4, nI_s]
  rw [e4]
  refine ⟨fun k hk => ?_, fun k hk => ?_, fun j hj => ?_, ⟨?_, fun m hm => ?_⟩, ⟨?_, fun k hk => ?_⟩, fun o a b c => ?_⟩
  · rw [up_o (by decide), up_o (by decide), e2]
    have h1 := cpy_out (σ := ki1 σ) (o := 105) (n := 1479) (q := 82) (m := 29) (a := nI 0) (B := 493 * i + 464) (N := 29) ct_29 (by omega) (by decide) (k := 493 * i + k) (by omega)
    rw [show (106 : Nat) = 105 + 1 from rfl, h1, e1]
    have h2 := cpy_in (σ := σ) (o := 105) (n := 1479) (q := 103) (m := 464) (A := 0) (B := 493 * i) (N := 464) ct_464 (by decide) (by decide) (by omega) (by decide) (by decide) k hk
    rw [h2, Nat.zero_add]
  · rw [up_o (by decide), up_o (by decide), e2]
    have h2 := cpy_in (σ := ki1 σ) (o := 105) (n := 1479) (q := 82) (m := 29) (A := 0) (B := 493 * i + 464) (N := 29) ct_29 (by decide) (by decide) (by omega) (by decide) (by decide) k hk
    rw [show (106 : Nat) = 105 + 1 from rfl, h2, Nat.zero_add, a1 83 (by decide)]
  · rw [up_o (by decide), up_o (by decide), e2]
    have h1 := cpy_out (σ := ki1 σ) (o := 105) (n := 1479) (q := 82) (m := 29) (a := nI 0) (B := 493 * i + 464) (N := 29) ct_29 (by omega) (by decide) (k := j) (by omega)
    rw [show (106 : Nat) = 105 + 1 from rfl, h1, e1]
    exact cpy_out (σ := σ) (o := 105) (n := 1479) (q := 103) (m := 464) (a := nI 0) (B := 493 * i) (N := 464) ct_464 (by omega) (by decide) (k := j) (by omega)
  · rw [up_o (by decide), up_rd]
  · rw [up_o (by decide), up_k hm, a2 108 (by decide)]
  · rw [up_rd]
  · rw [up_k hk, up_o (by decide), a2 102 (by decide)]
  · rw [up_o a, up_o c]; exact a2 o b
theorem img_m {σ : St} {i : Nat} (hi : i < 3) : (∀ k, k < 528 → up (ims (t0 σ) (607 + i) 528) 111 40 (nI (i + 1)) (607 + i) k = imf (t0 σ) k) ∧ up (ims (t0 σ) (607 + i) 528) 111 40 (nI (i + 1)) 111 40 = nI (i + 1) ∧
    (∀ o, o ≠ 111 → o ≠ 607 + i → up (ims (t0 σ) (607 + i) 528) 111 40 (nI (i + 1)) o = σ o) ∧ ∀ k, k ≠ 0 → k ≠ 40 → k ≠ 41 → up (ims (t0 σ) (607 + i) 528) 111 40 (nI (i + 1)) 111 k = σ 111 k := by
  refine ⟨fun k hk => ?_, ?_, fun o a b => ?_, fun k a b c => ?_⟩
  · rw [up_o (by omega)]; unfold ims; rw [up_o (by omega), fl_in hk]
  · rw [up_rd]
  · rw [up_o a, ims_o b a]; unfold t0; rw [up_o a]
  · rw [up_k b, ims_f (by omega) c]; unfold t0; rw [up_k a]
theorem RQ_fr {σ τ : St} (h : RQ σ) (h11 : τ 1 1 = σ 1 1) (h16 : τ 1 6 = σ 1 6) (h3 : τ 3 = σ 3) (h112 : τ 112 = σ 112) (m1 : τ 111 1 = σ 111 1) (m3 : τ 111 3 = σ 111 3) (h113 : τ 113 = σ 113) (h15 : τ 0 15 = σ 0 15) (h16' : τ 0 16 = σ 0 16) (h14 : τ 0 14 = τ 111 39) : RQ τ := by
  obtain ⟨⟨q1, q2, q3, q4⟩, q5, -, q7, q8⟩ := h
  exact ⟨⟨by rw [h11, m1]; exact q1, by rw [m1]; exact q2, by rw [m1]; exact q3, by rw [h3, h112]; exact q4⟩, by rw [h16, m3]; exact q5, h14, by rw [h15, h113]; exact q7, by rw [h16', h113]; exact q8⟩
theorem RA_img {σ : St} (h : RA σ) {i : Nat} (h40 : σ 111 40 = nI i) (hi : i < 3) : RA (up (ims (t0 (kiS σ)) (607 + i) 528) 111 40 (nI (i + 1))) ∧ kiS σ 102 4 = nI (i + 1) := by
  obtain ⟨hB, hX, ⟨⟨w, hW⟩, i', hI⟩, hQ⟩ := h
  have hb := hB.c.b3
  obtain ⟨hi1, hi2, hi3, hi4⟩ := hI
  have ei : i' = i := by
    have := hi2.symm.trans h40
    rw [znI_eq (by omega) (by omega)] at this; exact this
  subst ei
  obtain ⟨c1, c2, c3, ⟨c4, c5⟩, ⟨c6, c7⟩, c8⟩ := img_c hi3 hi
  obtain ⟨m1, m2, m3, m4⟩ := img_m (σ := kiS σ) hi
  generalize up (ims (t0 (kiS σ)) (607 + i') 528) 111 40 (nI (i' + 1)) = t at m1 m2 m3 m4
  have fo : ∀ o, o ≠ 102 → o ≠ 106 → o ≠ 108 → o ≠ 111 → o ≠ 607 + i' → t o = σ o := fun o a b c d e => by rw [m3 o d e, c8 o a b c]
  have f111 : ∀ k, k ≠ 0 → k ≠ 40 → k ≠ 41 → t 111 k = σ 111 k := fun k a b c => by rw [m4 k a b c, c8 111 (by decide) (by decide) (by decide)]
  have hE : ∀ o, oB o → t o = σ o := fun o ho => fo o (by omega) (by omega) (by omega) (by omega) (by omega)
  have hT := RB.t hE
  have h102 : t 102 = kiS σ 102 := m3 102 (by decide) (by omega)
  have hW' : RHw t w := RHw_fr hb hT hW (f111 38 (by decide) (by decide) (by decide)) (by rw [h102]; exact c7 3 (by decide)) (fo 104 (by decide) (by decide) (by decide) (by decide) (by omega)) (fun k hk => fo (591 + k) (by omega) (by omega) (by omega) (by omega) (by omega))
  refine ⟨⟨RB_fr hB hE (by rw [fo 68 (by decide) (by decide) (by decide) (by decide) (by omega)]) (f111 23 (by decide) (by decide) (by decide)) (f111 37 (by decide) (by decide) (by decide)), ?_, ⟨⟨w, hW'⟩, i' + 1, ?_⟩, ?_⟩, c6⟩
  · exact RX_eq hb hT (fun k _ => by rw [fo 83 (by decide) (by decide) (by decide) (by decide) (by omega)]) (fun k _ => by rw [fo 122 (by decide) (by decide) (by decide) (by decide) (by omega)]) hX
  · refine ⟨by omega, m2, by rw [h102]; exact c6, fun m hm => ?_⟩
    have e106 : t 106 = kiS σ 106 := m3 106 (by decide) (by omega)
    have e108 : t 108 = kiS σ 108 := m3 108 (by decide) (by omega)
    rcases Nat.lt_or_ge m i' with z | z
    · refine RI_fr hb hT (hi4 m z) (by rw [e108]; exact c5 m (by omega)) (fun j hj => by rw [e106]; exact c3 _ (Or.inl (by omega))) (fo (607 + m) (by omega) (by omega) (by omega) (by omega) (by omega))
    · have em : m = i' := by omega
      subst em
      obtain ⟨w1, w2, w3, w4⟩ := hW
      have k111 : (t0 (kiS σ)) 111 38 = nI w := by
        unfold t0; rw [up_k (by decide), c8 111 (by decide) (by decide) (by decide)]; exact w2
      have kq : ∀ o, o ≠ 102 → o ≠ 106 → o ≠ 108 → o ≠ 111 → (t0 (kiS σ)) o = σ o := fun o a b c d => by unfold t0; rw [up_o d, c8 o a b c]
      refine ⟨w, w1, by rw [e108, c4]; exact w3, ?_, ?_, fun k hk => ?_⟩
      · rw [m1 0 (by decide)]; unfold imf; rw [if_pos rfl]; exact k111
      · refine RX_eq hb hT (fun j hj => ?_) (fun j hj => ?_) hX
        · show t 106 (493 * m + 464 + j) = _; rw [e106]; exact c2 j hj
        · show t (607 + m) (1 + j) = _
          rw [m1 (1 + j) (by omega), imf_1 (by omega), kq 122 (by decide) (by decide) (by decide) (by decide)]
      · refine RX_eq hb hT (fun j hj => ?_) (fun j hj => ?_) (w4 k hk)
        · show t 106 (493 * m + 29 * k + j) = σ 104 (29 * k + j)
          rw [e106, Nat.add_assoc, c1 _ (by omega)]
        · show t (607 + m) (32 + 31 * k + j) = _
          rw [m1 _ (by omega), imf_2 (by omega), kq (591 + k) (by omega) (by omega) (by omega) (by omega)]
  · exact RQ_fr hQ (by rw [fo 1 (by decide) (by decide) (by decide) (by decide) (by omega)]) (by rw [fo 1 (by decide) (by decide) (by decide) (by decide) (by omega)]) (fo 3 (by decide) (by decide) (by decide) (by decide) (by omega)) (fo 112 (by decide) (by decide) (by decide) (by decide) (by omega)) (f111 1 (by decide) (by decide) (by decide)) (f111 3 (by decide) (by decide) (by decide)) (fo 113 (by decide) (by decide) (by decide) (by decide) (by omega)) (by rw [fo 0 (by decide) (by decide) (by decide) (by decide) (by omega)]) (by rw [fo 0 (by decide) (by decide) (by decide) (by decide) (by omega)]) (by rw [fo 0 (by decide) (by decide) (by decide) (by decide) (by omega), f111 39 (by decide) (by decide) (by decide)]; exact hQ.2.2.1)
/-- of restore: what the class does -/
theorem res_c {σ : St} {i : Nat} (h4 : σ 102 4 = nI (i + 1)) (hi : i < 3) : (∀ k, k < 29 → tiS (up σ 0 14 0) 83 k = σ 106 (493 * i + 464 + k)) ∧ (∀ k, k < 464 → tiS (up σ 0 14 0) 104 k = σ 106 (493 * i + k)) ∧ (tiS (up σ 0 14 0) 102 3 = σ 108 i ∧ tiS (up σ 0 14 0) 102 4 = nI i) ∧
    (tiS (up σ 0 14 0) 0 14 = 0 ∧ ∀ k, k ≠ 14 → tiS (up σ 0 14 0) 0 k = σ 0 k) ∧ ∀ o, o ≠ 0 → o ≠ 83 → o ≠ 102 → o ≠ 104 → tiS (up σ 0 14 0) o = σ o := by
  have e1 : ti1 (up σ 0 14 0) = up (up σ 0 14 0) 102 4 (nI i) := by unfold ti1; rw [up_o (show 102 ≠ 0 by decide), h4, nI_m1 (by omega)]
  have eA : ti1 (up σ 0 14 0) 102 4 * 493 = nI (493 * i) := by rw [e1, up_rd, show (493 : Int32) = nI 493 from rfl, nI_mul (by omega), Nat.mul_comm]
  have e2 : ti2 (ti1 (up σ 0 14 0)) (ti1 (up σ 0 14 0) 102 4 * 493) = cpy (ti1 (up σ 0 14 0)) 103 464 105 1479 (nI (493 * i)) (nI 0) 464 := by unfold ti2; rw [eA]; rfl
  have a2 : ∀ o, o ≠ 104 → ti2 (ti1 (up σ 0 14 0)) (ti1 (up σ 0 14 0) 102 4 * 493) o = ti1 (up σ 0 14 0) o := fun o ho => by rw [e2]; exact cpy_o ho
  generalize hs2 : ti2 (ti1 (up σ 0 14 0)) (ti1 (up σ 0 14 0) 102 4 * 493) = s2 at e2 a2
  have e3 : ti3 s2 (ti1 (up σ 0 14 0) 102 4 * 493) = cpy s2 82 29 105 1479 (nI (493 * i + 464)) (nI 0) 29 := by
    unfold ti3; rw [eA, show (464 : Int32) = nI 464 from rfl, znI_add (by omega)]; rfl
  have a3 : ∀ o, o ≠ 83 → ti3 s2 (ti1 (up σ 0 14 0) 102 4 * 493) o = s2 o := fun o ho => by rw [e3]; exact cpy_o ho
  have a1 : ∀ o, o ≠ 0 → o ≠ 102 → ti1 (up σ 0 14 0) o = σ o := fun o a b => by rw [e1, up_o b, up_o a]
  have e4 : tiS (up σ 0 14 0) = up (ti3 s2 (ti1 (up σ 0 14 0) 102 4 * 493)) 102 3 (σ 108 i) := by
    unfold tiS; rw [hs2]; unfold ti4
    rw [a3 108 (by decide), a3 102 (by decide), a2 108 (by decide), a2 102 (by decide), e1, up_rd, rg_nI hi (by decide), up_o (by decide), up_o (by decide)]
  rw [e4]
  refine ⟨fun k hk => ?_, fun k hk => ?_, ⟨?_, ?_⟩, ⟨?_, fun k hk => ?_⟩, fun o a b c d => ?_⟩
  · rw [up_o (by decide), e3]
    have h2 := cpy_in (σ := s2) (o := 82) (n := 29) (q := 105) (m := 1479) (A := 493 * i + 464) (B := 0) (N := 29) ct_29 (by decide) (by omega) (by decide) (by decide) (by decide) k hk
    rw [Nat.zero_add] at h2
    rw [show (83 : Nat) = 82 + 1 from rfl, h2, a2 106 (by decide), a1 106 (by decide) (by decide)]
  · rw [up_o (by decide), a3 104 (by decide), e2]
    have h2 := cpy_in (σ := ti1 (up σ 0 14 0)) (o := 103) (n := 464) (q := 105) (m := 1479) (A := 493 * i) (B := 0) (N := 464) ct_464 (by decide) (by omega) (by decide) (by decide) (by decide) k hk
    rw [Nat.zero_add] at h2
    rw [show (104 : Nat) = 103 + 1 from rfl, h2, a1 106 (by decide) (by decide)]
  · rw [up_rd]
  · rw [up_k (by decide), a3 102 (by decide), a2 102 (by decide), e1, up_rd]
  · rw [up_o (by decide), a3 0 (by decide), a2 0 (by decide), e1, up_o (by decide), up_rd]
  · rw [up_o (by decide), a3 0 (by decide), a2 0 (by decide), e1, up_o (by decide), up_k hk]
  · rw [up_o c, a3 o b, a2 o d, a1 o a c]
abbrev rsm (σ : St) (i : Nat) : St := up (rmS (up (t0 σ) 111 40 (nI i)) (607 + i)) 111 39 0
theorem res_m {σ : St} {i : Nat} (hi : i < 3) : (∀ k, k < 31 → rsm σ i 122 k = σ (607 + i) (1 + k)) ∧ (∀ k j, k < 16 → j < 31 → rsm σ i (591 + k) j = σ (607 + i) (32 + 31 * k + j)) ∧ (rsm σ i 111 38 = σ (607 + i) 0 ∧ rsm σ i 111 40 = nI i ∧ rsm σ i 111 39 = 0) ∧
    (∀ o, o ≠ 111 → o ≠ 122 → (o < 591 ∨ 607 ≤ o) → rsm σ i o = σ o) ∧ ∀ k, k ≠ 0 → k ≠ 38 → k ≠ 39 → k ≠ 40 → k ≠ 41 → rsm σ i 111 k = σ 111 k := by
  have eo : (up (t0 σ) 111 40 (nI i)) (607 + i) = σ (607 + i) := by unfold t0; rw [up_o (by omega), up_o (by omega)]
  unfold rsm rmS
  refine ⟨fun k hk => ?_, fun k j hk hj => ?_, ⟨?_, ?_, ?_⟩, fun o a b c => ?_, fun k a b c d e => ?_⟩
  · rw [up_o (by decide), up_o (by decide), ly2_o (Or.inl (by decide))]; unfold rmB; rw [fl_in hk, eo]
  · rw [up_o (by omega), up_o (by omega), eo]; unfold ly2; rw [if_pos (by omega), show 591 + k - 591 = k by omega]
  · rw [up_k (by decide), up_k (by decide), ly2_o (Or.inl (by decide))]; unfold rmB rmA; rw [fl_o (by decide), up_rd, eo]
  · rw [up_k (by decide), up_k (by decide), ly2_o (Or.inl (by decide))]; unfold rmB rmA; rw [fl_o (by decide), up_k (by decide), up_rd]
  · rw [up_rd]
  · rw [up_o a, up_o a, ly2_o (by omega)]; unfold rmB rmA t0; rw [fl_o b, up_o a, up_o a, up_o a]
  · rw [up_k c, up_k e, ly2_o (Or.inl (by decide))]; unfold rmB rmA t0; rw [fl_o (by decide), up_k b, up_k d, up_k a]
theorem RA_res {σ : St} (h : RA σ) {i : Nat} (h40 : σ 111 40 = nI (i + 1)) (hi : i < 3) : RA (rsm (tiS (up σ 0 14 0)) i) ∧ tiS (up σ 0 14 0) 102 4 = nI i := by
  obtain ⟨hB, hX, ⟨⟨w, hW⟩, i', hI⟩, hQ⟩ := h
  have hb := hB.c.b3
  obtain ⟨hi1, hi2, hi3, hi4⟩ := hI
  have ei : i' = i + 1 := by
    have := hi2.symm.trans h40
    rw [znI_eq (by omega) (by omega)] at this; exact this
  subst ei
  obtain ⟨c1, c2, ⟨c3, c4⟩, ⟨c5, c6⟩, c7⟩ := res_c hi3 hi
  obtain ⟨m1, m2, ⟨m3, m4, m5⟩, m6, m7⟩ := res_m (σ := tiS (up σ 0 14 0)) hi
  generalize rsm (tiS (up σ 0 14 0)) i = t at m1 m2 m3 m4 m5 m6 m7
  have fo : ∀ o, o ≠ 0 → o ≠ 83 → o ≠ 102 → o ≠ 104 → o ≠ 111 → o ≠ 122 → (o < 591 ∨ 607 ≤ o) → t o = σ o := fun o a b c d e f g => by rw [m6 o e f g, c7 o a b c d]
  have f111 : ∀ k, k ≠ 0 → k ≠ 38 → k ≠ 39 → k ≠ 40 → k ≠ 41 → t 111 k = σ 111 k := fun k a b c d e => by rw [m7 k a b c d e, c7 111 (by decide) (by decide) (by decide) (by decide)]
  have hE : ∀ o, oB o → t o = σ o := fun o ho => fo o (by omega) (by omega) (by omega) (by omega) (by omega) (by omega) (by omega)
  have hT := RB.t hE
  have h102 : t 102 = tiS (up σ 0 14 0) 102 := m6 102 (by decide) (by decide) (by decide)
  have e607 : tiS (up σ 0 14 0) (607 + i) = σ (607 + i) := c7 _ (by omega) (by omega) (by omega) (by omega)
  obtain ⟨v, v1, v2, v3, v4, v5⟩ := hi4 i (by omega)
  refine ⟨⟨RB_fr hB hE (by rw [fo 68 (by decide) (by decide) (by decide) (by decide) (by decide) (by decide) (by decide)]) (f111 23 (by decide) (by decide) (by decide) (by decide) (by decide)) (f111 37 (by decide) (by decide) (by decide) (by decide) (by decide)), ?_, ⟨⟨v, v1, ?_, ?_, fun k hk => ?_⟩, i, by omega, m4, by rw [h102]; exact c4, fun m hm => ?_⟩, ?_⟩, c4⟩
  · refine RX_eq hb hT (fun k hk => ?_) (fun k hk => ?_) v4
    · rw [m6 83 (by decide) (by decide) (by decide)]; exact c1 k hk
    · rw [m1 k (by omega), e607]
  · rw [m3, e607]; exact v3
  · rw [h102, c3]; exact v2
  · refine RX_eq hb hT (fun j hj => ?_) (fun j hj => ?_) (v5 k hk)
    · show t 104 (29 * k + j) = σ 106 (493 * i + 29 * k + j)
      rw [m6 104 (by decide) (by decide) (by decide), c2 _ (by omega), Nat.add_assoc]
    · rw [m2 k j (by omega) (by omega), e607]
  · exact RI_fr hb hT (hi4 m (by omega)) (by rw [fo 108 (by decide) (by decide) (by decide) (by decide) (by decide) (by decide) (by decide)]) (fun j _ => by rw [fo 106 (by decide) (by decide) (by decide) (by decide) (by decide) (by decide) (by decide)]) (fo (607 + m) (by omega) (by omega) (by omega) (by omega) (by omega) (by omega) (by omega))
  · exact RQ_fr hQ (by rw [fo 1 (by decide) (by decide) (by decide) (by decide) (by decide) (by decide) (by decide)]) (by rw [fo 1 (by decide) (by decide) (by decide) (by decide) (by decide) (by decide) (by decide)]) (fo 3 (by decide) (by decide) (by decide) (by decide) (by decide) (by decide) (by decide)) (fo 112 (by decide) (by decide) (by decide) (by decide) (by decide) (by decide) (by decide)) (f111 1 (by decide) (by decide) (by decide) (by decide) (by decide)) (f111 3 (by decide) (by decide) (by decide) (by decide) (by decide)) (fo 113 (by decide) (by decide) (by decide) (by decide) (by decide) (by decide) (by decide)) (by rw [m6 0 (by decide) (by decide) (by decide)]; exact c6 15 (by decide)) (by rw [m6 0 (by decide) (by decide) (by decide)]; exact c6 16 (by decide)) (by rw [m6 0 (by decide) (by decide) (by decide), c5, m5])
