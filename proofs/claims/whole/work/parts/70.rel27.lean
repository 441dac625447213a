/-! ===== a clause; all clauses ===== -/
theorem DR_eq {s t t' : St} (hO : ∀ o, o ≠ 111 → t' o = t o) (h7 : t' 111 7 = t 111 7) (hD : DR s t) : DR s t' := by
  obtain ⟨w, cn, sg, sv, dn, a31, a33, a35, a37, a39, a41, a43, a45, a47, a49⟩ := hD
  have e : t' 114 = t 114 := hO 114 (by decide)
  have nj : ∀ j, nn t' j = nn t j := fun j => by unfold nn; rw [e]
  refine ⟨by rw [e]; exact w, fun k hk => by rw [e]; exact cn k hk, by rw [h7]; exact sg, by rw [e]; exact sv, by rw [nj, nj]; exact dn, ?_, ?_, ?_, ?_, ?_, ?_, ?_, ?_, ?_, ?_⟩
  · rw [nj]; exact AR.fr a31 (fun _ _ => rfl) (fun j hj => by rw [hO 116 (by decide)])
  · rw [nj]; exact AR.fr a33 (fun _ _ => rfl) (fun j hj => by show t' (137 + j) 0 = _; rw [hO (137 + j) (by omega)])
  · rw [nj]; exact AR.fr a35 (fun _ _ => rfl) (fun j hj => by show t' (137 + j) 1 = _; rw [hO (137 + j) (by omega)])
  · rw [nj]; exact AR.fr a37 (fun _ _ => rfl) (fun j hj => by show t' (149 + j) 0 = _; rw [hO (149 + j) (by omega)])
  · rw [nj]; exact AR.fr a39 (fun _ _ => rfl) (fun j hj => by show t' (149 + j) 1 = _; rw [hO (149 + j) (by omega)])
  · rw [nj]; exact AR.fr a41 (fun _ _ => rfl) (fun j hj => by show t' (155 + j) 0 = _; rw [hO (155 + j) (by omega)])
  · rw [nj]; exact AR.fr a43 (fun _ _ => rfl) (fun j hj => by show t' (155 + j) 1 = _; rw [hO (155 + j) (by omega)])
  · rw [nj]; exact AR.fr a45 (fun _ _ => rfl) (fun j hj => by show t' (155 + j) 2 = _; rw [hO (155 + j) (by omega)])
  · rw [nj]; exact AR.fr a47 (fun _ _ => rfl) (fun j hj => by show t' (155 + j) 3 = _; rw [hO (155 + j) (by omega)])
  · rw [nj]; exact AR.fr a49 (fun _ _ => rfl) (fun j hj => by rw [hO 118 (by decide)])
theorem cnt_le {s t : St} (hD : DR s t) {k : Nat} {M : Int} (hM : (k = 0 ∧ M = 12) ∨ (k = 1 ∧ M = 6) ∨ (k = 2 ∧ M = 3) ∨ (k = 3 ∧ M = 6) ∨ (k = 4 ∧ M = 6)) : (t 114 k).toInt ≤ M := by
  obtain ⟨⟨q0, q1, q2, q3, q4⟩, -⟩ := hD
  rcases hM with ⟨z, y⟩ | ⟨z, y⟩ | ⟨z, y⟩ | ⟨z, y⟩ | ⟨z, y⟩ <;> subst z <;> subst y
  · exact q0.2
  · exact q1.2
  · exact q2.2
  · exact q3.2
  · exact q4.2
theorem cl_step {s t : St} {a : Nat} (h : SY s t) (h5 : t 111 5 = 0) (hD : DR s t) (ha : a ≤ 60) (h7 : t 111 7 = nI a) : CLK s t (rcS s (nI a)) (mclS t) a := by
  have ek := mk_e h h5
  have eM : mbz t = mbl t := by unfold mbz; exact if_pos h5
  have h60 : (60 ≤ nI a) ↔ t 111 7 = 60 := by
    rw [h7, show (60 : Int32) = nI 60 from rfl, znI_le (by omega) (by omega), znI_eq (by omega) (by omega)]; omega
  have s5 : mvt (wo1 s) (woE (wo1 s)) 1 5 = 0 := by
    rw [mvt_k (by decide)]; unfold wo1; rw [up_k (by decide)]; exact h.2.2.2.1.trans h5
  rcases mkV_rng (t := t) with z | z | z | z | z | z | z
  · have hw : woI s 1 = -1 := ek.symm.trans z
    have S := h.ywn h5 hw
    have f5 : ¬ (wr (mbz t) 1 (mbz t 111 4)) 111 5 = 0 := wr_5 (by decide)
    have c5 : ¬ woS s 1 1 5 = 0 := fun y => f5 (S.2.2.2.1.symm.trans y)
    have e1 : rc1 s (nI a) = woS s 1 := by
      unfold rc1; split
      · exact bl_same c5
      · rfl
    have e2 : rcS s (nI a) = woS s 1 := by unfold rcS; rw [e1, if_pos (b5 c5)]
    have e3 : mclS t = wr (mbz t) 1 (mbz t 111 4) := by unfold mclS; rw [if_pos z, mcE_0 f5]
    rw [e2, e3]; exact ⟨S, fun y => absurd y f5⟩
  · have hw : woI s 1 = 0 := ek.symm.trans z
    have hk : ¬ woI s 1 = -1 := by rw [hw]; decide
    have hm := cnt_le hD (k := 0) (M := 12) (by decide)
    have er : rg ((woS s 1) 29) 6 (woI s 1) = t 114 0 := by
      rw [hw, woS_o (by decide), show (0 : Int32) = nI 0 from rfl, rg_nI (by decide) (by decide)]; exact hD.2.1 0 (by decide)
    have em : mof (woI s 1) = 12 := by rw [hw]; rfl
    have hc : (60 ≤ nI a ∨ mof (woI s 1) ≤ rg ((woS s 1) 29) 6 (woI s 1)) ↔ (t 111 7 = 60 ∨ t 114 0 = 12) := by
      have hq : (12 ≤ t 114 0) ↔ t 114 0 = 12 := by rw [i_le, i_eq, show (12 : Int32).toInt = 12 from rfl]; omega
      rw [er, em, h60, hq]
    have e3 : mclS t = mcE (mcA t 0 12) mcB0 (fun u => mcC u 0) := by unfold mclS; rw [if_neg (show ¬ mkV t = -1 by rw [z]; decide), if_pos z]
    rw [e3]
    by_cases c : t 111 7 = 60 ∨ t 114 0 = 12
    · have S := cl_bad h h5 hk
      have f5 : ¬ (wr (mbz t) 3 (mbz t 111 4)) 111 5 = 0 := wr_5 (by decide)
      have c5 : ¬ bl (woS s 1) 3 (woS s 1 1 4) 1 5 = 0 := fun y => f5 (S.2.2.2.1.symm.trans y)
      have e1 : rc1 s (nI a) = bl (woS s 1) 3 (woS s 1 1 4) := by unfold rc1; exact if_pos (hc.mpr c)
      have e2 : rcS s (nI a) = bl (woS s 1) 3 (woS s 1 1 4) := by unfold rcS; rw [e1, if_pos (b5 c5)]
      have e4 : mcA t 0 12 = wr (mbz t) 3 (mbz t 111 4) := by unfold mcA; exact if_pos c
      rw [e2, e4, mcE_0 f5]; exact ⟨S, fun y => absurd y f5⟩
    · have e1 : rc1 s (nI a) = mvt (wo1 s) (woE (wo1 s)) := by unfold rc1; rw [if_neg (fun y => c (hc.mp y)), woS_1 hk]
      have e2 : rcS s (nI a) = rc3 (tkR (rc2 (mvt (wo1 s) (woE (wo1 s))) (nI 0)) 59) (nI 0) := by
        unfold rcS; rw [e1, if_neg (fun y => b2_z y s5), hw]; rfl
      have e4 : mcA t 0 12 = mbl t := by unfold mcA; rw [if_neg c]; exact eM
      have ha2 : a < 60 := by
        rcases Nat.lt_or_ge a 60 with y | y
        · exact y
        · exact absurd (Or.inl (by rw [h7, show a = 60 by omega]; rfl)) c
      rw [e2, e4]
      exact cl_0 h h5 hD ha2 h7 (fun y => c (Or.inr y))
  · have hw : woI s 1 = 1 := ek.symm.trans z
    have hk : ¬ woI s 1 = -1 := by rw [hw]; decide
    have hm := cnt_le hD (k := 1) (M := 6) (by decide)
    have er : rg ((woS s 1) 29) 6 (woI s 1) = t 114 1 := by
      rw [hw, woS_o (by decide), show (1 : Int32) = nI 1 from rfl, rg_nI (by decide) (by decide)]; exact hD.2.1 1 (by decide)
    have em : mof (woI s 1) = 6 := by rw [hw]; rfl
    have hc : (60 ≤ nI a ∨ mof (woI s 1) ≤ rg ((woS s 1) 29) 6 (woI s 1)) ↔ (t 111 7 = 60 ∨ t 114 1 = 6) := by
      have hq : (6 ≤ t 114 1) ↔ t 114 1 = 6 := by rw [i_le, i_eq, show (6 : Int32).toInt = 6 from rfl]; omega
      rw [er, em, h60, hq]
    have e3 : mclS t = mcE (mcA t 1 6) (mcB2 137 1) (fun u => mcC u 1) := by unfold mclS; rw [if_neg (show ¬ mkV t = -1 by rw [z]; decide), if_neg (show ¬ mkV t = 0 by rw [z]; decide), if_pos z]
    rw [e3]
    by_cases c : t 111 7 = 60 ∨ t 114 1 = 6
    · have S := cl_bad h h5 hk
      have f5 : ¬ (wr (mbz t) 3 (mbz t 111 4)) 111 5 = 0 := wr_5 (by decide)
      have c5 : ¬ bl (woS s 1) 3 (woS s 1 1 4) 1 5 = 0 := fun y => f5 (S.2.2.2.1.symm.trans y)
      have e1 : rc1 s (nI a) = bl (woS s 1) 3 (woS s 1 1 4) := by unfold rc1; exact if_pos (hc.mpr c)
      have e2 : rcS s (nI a) = bl (woS s 1) 3 (woS s 1 1 4) := by unfold rcS; rw [e1, if_pos (b5 c5)]
      have e4 : mcA t 1 6 = wr (mbz t) 3 (mbz t 111 4) := by unfold mcA; exact if_pos c
      rw [e2, e4, mcE_0 f5]; exact ⟨S, fun y => absurd y f5⟩
    · have e1 : rc1 s (nI a) = mvt (wo1 s) (woE (wo1 s)) := by unfold rc1; rw [if_neg (fun y => c (hc.mp y)), woS_1 hk]
      have e2 : rcS s (nI a) = rc3 (tkR (rc2 (mvt (wo1 s) (woE (wo1 s))) (nI 1)) 59) (nI 1) := by
        unfold rcS; rw [e1, if_neg (fun y => b2_z y s5), hw]; rfl
      have e4 : mcA t 1 6 = mbl t := by unfold mcA; rw [if_neg c]; exact eM
      have ha2 : a < 60 := by
        rcases Nat.lt_or_ge a 60 with y | y
        · exact y
        · exact absurd (Or.inl (by rw [h7, show a = 60 by omega]; rfl)) c
      rw [e2, e4]
      exact cl_1 h h5 hD ha2 h7 (fun y => c (Or.inr y))
  · have hw : woI s 1 = 2 := ek.symm.trans z
    have hk : ¬ woI s 1 = -1 := by rw [hw]; decide
    have hm := cnt_le hD (k := 2) (M := 3) (by decide)
    have er : rg ((woS s 1) 29) 6 (woI s 1) = t 114 2 := by
      rw [hw, woS_o (by decide), show (2 : Int32) = nI 2 from rfl, rg_nI (by decide) (by decide)]; exact hD.2.1 2 (by decide)
    have em : mof (woI s 1) = 3 := by rw [hw]; rfl
    have hc : (60 ≤ nI a ∨ mof (woI s 1) ≤ rg ((woS s 1) 29) 6 (woI s 1)) ↔ (t 111 7 = 60 ∨ t 114 2 = 3) := by
      have hq : (3 ≤ t 114 2) ↔ t 114 2 = 3 := by rw [i_le, i_eq, show (3 : Int32).toInt = 3 from rfl]; omega
      rw [er, em, h60, hq]
    have e3 : mclS t = mcE (mcA t 2 3) (mcB2 149 2) (fun u => mcC u 2) := by unfold mclS; rw [if_neg (show ¬ mkV t = -1 by rw [z]; decide), if_neg (show ¬ mkV t = 0 by rw [z]; decide), if_neg (show ¬ mkV t = 1 by rw [z]; decide), if_pos z]
    rw [e3]
    by_cases c : t 111 7 = 60 ∨ t 114 2 = 3
    · have S := cl_bad h h5 hk
      have f5 : ¬ (wr (mbz t) 3 (mbz t 111 4)) 111 5 = 0 := wr_5 (by decide)
      have c5 : ¬ bl (woS s 1) 3 (woS s 1 1 4) 1 5 = 0 := fun y => f5 (S.2.2.2.1.symm.trans y)
      have e1 : rc1 s (nI a) = bl (woS s 1) 3 (woS s 1 1 4) := by unfold rc1; exact if_pos (hc.mpr c)
      have e2 : rcS s (nI a) = bl (woS s 1) 3 (woS s 1 1 4) := by unfold rcS; rw [e1, if_pos (b5 c5)]
      have e4 : mcA t 2 3 = wr (mbz t) 3 (mbz t 111 4) := by unfold mcA; exact if_pos c
      rw [e2, e4, mcE_0 f5]; exact ⟨S, fun y => absurd y f5⟩
    · have e1 : rc1 s (nI a) = mvt (wo1 s) (woE (wo1 s)) := by unfold rc1; rw [if_neg (fun y => c (hc.mp y)), woS_1 hk]
      have e2 : rcS s (nI a) = rc3 (tkR (rc2 (mvt (wo1 s) (woE (wo1 s))) (nI 2)) 59) (nI 2) := by
        unfold rcS; rw [e1, if_neg (fun y => b2_z y s5), hw]; rfl
      have e4 : mcA t 2 3 = mbl t := by unfold mcA; rw [if_neg c]; exact eM
      have ha2 : a < 60 := by
        rcases Nat.lt_or_ge a 60 with y | y
        · exact y
        · exact absurd (Or.inl (by rw [h7, show a = 60 by omega]; rfl)) c
      rw [e2, e4]
      exact cl_2 h h5 hD ha2 h7 (fun y => c (Or.inr y))
  · have hw : woI s 1 = 3 := ek.symm.trans z
    have hk : ¬ woI s 1 = -1 := by rw [hw]; decide
    have hm := cnt_le hD (k := 3) (M := 6) (by decide)
    have er : rg ((woS s 1) 29) 6 (woI s 1) = t 114 3 := by
      rw [hw, woS_o (by decide), show (3 : Int32) = nI 3 from rfl, rg_nI (by decide) (by decide)]; exact hD.2.1 3 (by decide)
    have em : mof (woI s 1) = 6 := by rw [hw]; rfl
    have hc : (60 ≤ nI a ∨ mof (woI s 1) ≤ rg ((woS s 1) 29) 6 (woI s 1)) ↔ (t 111 7 = 60 ∨ t 114 3 = 6) := by
      have hq : (6 ≤ t 114 3) ↔ t 114 3 = 6 := by rw [i_le, i_eq, show (6 : Int32).toInt = 6 from rfl]; omega
      rw [er, em, h60, hq]
    have e3 : mclS t = mcE (mcA t 3 6) mcB3 (fun u => mcC u 3) := by unfold mclS; rw [if_neg (show ¬ mkV t = -1 by rw [z]; decide), if_neg (show ¬ mkV t = 0 by rw [z]; decide), if_neg (show ¬ mkV t = 1 by rw [z]; decide), if_neg (show ¬ mkV t = 2 by rw [z]; decide), if_pos z]
    rw [e3]
    by_cases c : t 111 7 = 60 ∨ t 114 3 = 6
    · have S := cl_bad h h5 hk
      have f5 : ¬ (wr (mbz t) 3 (mbz t 111 4)) 111 5 = 0 := wr_5 (by decide)
      have c5 : ¬ bl (woS s 1) 3 (woS s 1 1 4) 1 5 = 0 := fun y => f5 (S.2.2.2.1.symm.trans y)
      have e1 : rc1 s (nI a) = bl (woS s 1) 3 (woS s 1 1 4) := by unfold rc1; exact if_pos (hc.mpr c)
      have e2 : rcS s (nI a) = bl (woS s 1) 3 (woS s 1 1 4) := by unfold rcS; rw [e1, if_pos (b5 c5)]
      have e4 : mcA t 3 6 = wr (mbz t) 3 (mbz t 111 4) := by unfold mcA; exact if_pos c
      rw [e2, e4, mcE_0 f5]; exact ⟨S, fun y => absurd y f5⟩
    · have e1 : rc1 s (nI a) = mvt (wo1 s) (woE (wo1 s)) := by unfold rc1; rw [if_neg (fun y => c (hc.mp y)), woS_1 hk]
      have e2 : rcS s (nI a) = rc3 (tkR (rc2 (mvt (wo1 s) (woE (wo1 s))) (nI 3)) 59) (nI 3) := by
        unfold rcS; rw [e1, if_neg (fun y => b2_z y s5), hw]; rfl
      have e4 : mcA t 3 6 = mbl t := by unfold mcA; rw [if_neg c]; exact eM
      have ha2 : a < 60 := by
        rcases Nat.lt_or_ge a 60 with y | y
        · exact y
        · exact absurd (Or.inl (by rw [h7, show a = 60 by omega]; rfl)) c
      rw [e2, e4]
      exact cl_3 h h5 hD ha2 h7 (fun y => c (Or.inr y))
  · have hw : woI s 1 = 4 := ek.symm.trans z
    have hk : ¬ woI s 1 = -1 := by rw [hw]; decide
    have hm := cnt_le hD (k := 4) (M := 6) (by decide)
    have er : rg ((woS s 1) 29) 6 (woI s 1) = t 114 4 := by
      rw [hw, woS_o (by decide), show (4 : Int32) = nI 4 from rfl, rg_nI (by decide) (by decide)]; exact hD.2.1 4 (by decide)
    have em : mof (woI s 1) = 6 := by rw [hw]; rfl
    have hc : (60 ≤ nI a ∨ mof (woI s 1) ≤ rg ((woS s 1) 29) 6 (woI s 1)) ↔ (t 111 7 = 60 ∨ t 114 4 = 6) := by
      have hq : (6 ≤ t 114 4) ↔ t 114 4 = 6 := by rw [i_le, i_eq, show (6 : Int32).toInt = 6 from rfl]; omega
      rw [er, em, h60, hq]
    have e3 : mclS t = mcE (mcA t 4 6) mcB4 (fun u => mcC u 4) := by unfold mclS; rw [if_neg (show ¬ mkV t = -1 by rw [z]; decide), if_neg (show ¬ mkV t = 0 by rw [z]; decide), if_neg (show ¬ mkV t = 1 by rw [z]; decide), if_neg (show ¬ mkV t = 2 by rw [z]; decide), if_neg (show ¬ mkV t = 3 by rw [z]; decide), if_pos z]
    rw [e3]
    by_cases c : t 111 7 = 60 ∨ t 114 4 = 6
    · have S := cl_bad h h5 hk
      have f5 : ¬ (wr (mbz t) 3 (mbz t 111 4)) 111 5 = 0 := wr_5 (by decide)
      have c5 : ¬ bl (woS s 1) 3 (woS s 1 1 4) 1 5 = 0 := fun y => f5 (S.2.2.2.1.symm.trans y)
      have e1 : rc1 s (nI a) = bl (woS s 1) 3 (woS s 1 1 4) := by unfold rc1; exact if_pos (hc.mpr c)
      have e2 : rcS s (nI a) = bl (woS s 1) 3 (woS s 1 1 4) := by unfold rcS; rw [e1, if_pos (b5 c5)]
      have e4 : mcA t 4 6 = wr (mbz t) 3 (mbz t 111 4) := by unfold mcA; exact if_pos c
      rw [e2, e4, mcE_0 f5]; exact ⟨S, fun y => absurd y f5⟩
    · have e1 : rc1 s (nI a) = mvt (wo1 s) (woE (wo1 s)) := by unfold rc1; rw [if_neg (fun y => c (hc.mp y)), woS_1 hk]
      have e2 : rcS s (nI a) = rc3 (tkR (rc2 (mvt (wo1 s) (woE (wo1 s))) (nI 4)) 59) (nI 4) := by
        unfold rcS; rw [e1, if_neg (fun y => b2_z y s5), hw]; rfl
      have e4 : mcA t 4 6 = mbl t := by unfold mcA; rw [if_neg c]; exact eM
      have ha2 : a < 60 := by
        rcases Nat.lt_or_ge a 60 with y | y
        · exact y
        · exact absurd (Or.inl (by rw [h7, show a = 60 by omega]; rfl)) c
      rw [e2, e4]
      exact cl_4 h h5 hD ha2 h7 (fun y => c (Or.inr y))
  · have hw : woI s 1 = 5 := ek.symm.trans z
    have hk : ¬ woI s 1 = -1 := by rw [hw]; decide
    have er : rg ((woS s 1) 29) 6 (woI s 1) = s 29 5 := by
      rw [hw, woS_o (by decide), show (5 : Int32) = nI 5 from rfl, rg_nI (by decide) (by decide)]
    have em : mof (woI s 1) = 60 := by rw [hw]; rfl
    have hs := hD.2.2.1
    rw [h7, i_nI (by omega)] at hs
    have hc : (60 ≤ nI a ∨ mof (woI s 1) ≤ rg ((woS s 1) 29) 6 (woI s 1)) ↔ t 111 7 = 60 := by
      rw [er, em, h60, h7, i_le, show (60 : Int32).toInt = 60 from rfl, show (60 : Int32) = nI 60 from rfl, znI_eq (by omega) (by omega)]; omega
    have e3 : mclS t = mcE (mcA5 t) mcB5 id := by unfold mclS; rw [if_neg (show ¬ mkV t = -1 by rw [z]; decide), if_neg (show ¬ mkV t = 0 by rw [z]; decide), if_neg (show ¬ mkV t = 1 by rw [z]; decide), if_neg (show ¬ mkV t = 2 by rw [z]; decide), if_neg (show ¬ mkV t = 3 by rw [z]; decide), if_neg (show ¬ mkV t = 4 by rw [z]; decide)]
    rw [e3]
    by_cases c : t 111 7 = 60
    · have S := cl_bad h h5 hk
      have f5 : ¬ (wr (mbz t) 3 (mbz t 111 4)) 111 5 = 0 := wr_5 (by decide)
      have c5 : ¬ bl (woS s 1) 3 (woS s 1 1 4) 1 5 = 0 := fun y => f5 (S.2.2.2.1.symm.trans y)
      have e1 : rc1 s (nI a) = bl (woS s 1) 3 (woS s 1 1 4) := by unfold rc1; exact if_pos (hc.mpr c)
      have e2 : rcS s (nI a) = bl (woS s 1) 3 (woS s 1 1 4) := by unfold rcS; rw [e1, if_pos (b5 c5)]
      have e4 : mcA5 t = wr (mbz t) 3 (mbz t 111 4) := by unfold mcA5; exact if_pos c
      rw [e2, e4, mcE_0 f5]; exact ⟨S, fun y => absurd y f5⟩
    · have e1 : rc1 s (nI a) = mvt (wo1 s) (woE (wo1 s)) := by unfold rc1; rw [if_neg (fun y => c (hc.mp y)), woS_1 hk]
      have e2 : rcS s (nI a) = rc3 (tkR (rc2 (mvt (wo1 s) (woE (wo1 s))) (nI 5)) 59) (nI 5) := by
        unfold rcS; rw [e1, if_neg (fun y => b2_z y s5), hw]; rfl
      have e4 : mcA5 t = mbl t := by unfold mcA5; rw [if_neg c]; exact eM
      have ha2 : a < 60 := by
        rcases Nat.lt_or_ge a 60 with y | y
        · exact y
        · exact absurd (by rw [h7, show a = 60 by omega]; rfl) c
      rw [e2, e4]
      exact cl_5 h h5 hD ha2 h7
theorem nb_at {t : St} (h : mbl t = t) : mbl t 111 4 = t 111 4 := by rw [h]
theorem rfR_go2 {m a : Nat} {s : St} (h1 : s 1 5 = 0) (h2 : ¬ s 1 2 ≤ s 1 3) : rfR (m + 1) a s = rfR m (a + 1) (rcS s (nI a)) := by
  rw [rfR, if_neg (fun z => z.elim (fun q => b2_z q h1) (fun q => q (b2_f h2)))]
theorem rfR_stop2 {m a : Nat} {s : St} (h : ¬ s 1 5 = 0 ∨ s 1 2 ≤ s 1 3) : rfR m a s = s := by
  cases m with
  | zero => rfl
  | succ m =>
    rw [rfR, if_pos]
    rcases h with z | z
    · exact Or.inl (b2_f z)
    · exact Or.inr (fun q => b2_z q z)
theorem co_loop : ∀ (m a : Nat) (s t : St) (N : Nat), a + m = 61 → SY s t → (t 111 5 = 0 → DR s t ∧ t 111 7 = nI a ∧ a ≤ 60) → mbl t = t → (t 111 5 = 0 → (t 111 2).toInt - (t 111 4).toInt ≤ N) → SY (rfR m a s) (mcoR N t) ∧ (mcoR N t 111 5 = 0 → DR (rfR m a s) (mcoR N t)) := by
  intro m
  induction m with
  | zero =>
    intro a s t N ha h hD hN hf
    have h5 : ¬ t 111 5 = 0 := fun z => by have := (hD z).2.2; omega
    rw [mcoR_stop (fun z => h5 z.1)]
    exact ⟨h, fun z => absurd z h5⟩
  | succ m ih =>
    intro a s t N ha h hD hN hf
    by_cases h5 : t 111 5 = 0
    · obtain ⟨hD1, h7, ha1⟩ := hD h5
      have hs5 : s 1 5 = 0 := h.2.2.2.1.trans h5
      have ep : s 1 3 = t 111 4 := (h.pl h5).1.trans (nb_at hN)
      by_cases he : t 111 4 < t 111 2
      · obtain ⟨e, hN0⟩ := mcoR_go hf ⟨h5, he⟩
        rw [e, rfR_go2 hs5 (by rw [ep, h.2.1]; exact i_lle he)]
        obtain ⟨S, T⟩ := cl_step h h5 hD1 ha1 h7
        obtain ⟨-, k2, k3⟩ := ok_step h.1
        refine ih (a + 1) _ _ (N - 1) (by omega) S.ybl (fun z => ?_) mbl_i (fun z => ?_)
        · rw [mbl_k (by decide)] at z
          obtain ⟨d1, d2, d3⟩ := T z
          exact ⟨DR_eq (fun _ q => mbl_o q) (mbl_k (by decide)) d1, by rw [mbl_k (by decide)]; exact d3, by omega⟩
        · have := (k3 z).2; have := hf h5; rw [k2]; omega
      · rw [rfR_stop2 (Or.inr (by rw [ep, h.2.1]; exact i_nlt he)), mcoR_stop (fun z => he z.2)]
        exact ⟨h, fun _ => hD1⟩
    · rw [rfR_stop2 (Or.inl (fun z => h5 (h.2.2.2.1.symm.trans z))), mcoR_stop (fun z => h5 z.1)]
      exact ⟨h, fun z => absurd z h5⟩
theorem nb_of {t : St} (h : mbl t 111 4 = t 111 4) : mbl t = t := by
  have e : mbl t = up t 111 4 (mbl t 111 4) := by unfold mbl; rw [up_rd]
  rw [e, h, up_id]
/-- a coast read by both -/
theorem co_read {σ τ : St} {n : Int32} (hb : σ 3 = τ 112) (h0 : 0 ≤ n.toInt) (h1 : n.toInt ≤ 600) : SY (xc1 σ n) (mcoF τ n) ∧ (mcoF τ n 111 5 = 0 → DR (xc1 σ n) (mcoF τ n)) := by
  have hS : SY (opn σ n) (mst (t0 τ) n) := SY.yop (by rw [hb]; unfold t0; rw [up_o (by decide)]) h0 h1
  have S0 : SY (rf0 (opn σ n)) (mco0 τ n) := by
    unfold rf0 mco0
    refine SY.cl (SY.cr hS ?_ ?_ ?_ ?_ ?_) ?_ ?_ ?_ ?_ ?_
    · rw [mtn_o (by decide)]
    · rw [mtn_o (by decide)]
    · rw [mtn_o (by decide)]
    · rw [mtn_o (by decide)]
    · rw [mtn_o (by decide)]
    · rw [up_o (by decide), fl_o (by decide)]
    · rw [up_o (by decide), fl_o (by decide)]
    · rw [up_o (by decide), fl_o (by decide)]
    · rw [up_o (by decide), fl_o (by decide)]
    · rw [up_o (by decide), fl_o (by decide)]
  have e7 : mco0 τ n 111 7 = nI 0 := by
    unfold mco0; rw [mtn_o (by decide)]; unfold mst; rw [mbl_k (by decide), up_k (by decide), up_rd]; rfl
  have z0 : ∀ k, k < 5 → mco0 τ n 114 k = 0 := fun k hk => by unfold mco0 mtn; rw [up_k (by omega), fl_in (by omega)]
  have z5 : mco0 τ n 114 5 = 2 := by unfold mco0 mtn; rw [up_rd]
  have c29 : ∀ k, k < 6 → rf0 (opn σ n) 29 k = 0 := fun k hk => by unfold rf0; rw [up_o (by decide), fl_in hk]
  have c27 : rf0 (opn σ n) 27 11 = 2 := by unfold rf0; rw [up_rd]
  have n0 : ∀ k, k < 5 → nn (mco0 τ n) k = 0 := fun k hk => by unfold nn; rw [z0 k hk]; rfl
  have hD : DR (rf0 (opn σ n)) (mco0 τ n) := by
    refine ⟨by unfold mco0; exact mtn_rt, fun k hk => by rw [c29 k (by omega), z0 k hk], ?_, ?_, Or.inl (n0 2 (by decide)), ?_, ?_, ?_, ?_, ?_, ?_, ?_, ?_, ?_, ?_⟩
    · rw [c29 5 (by decide), e7]; exact ⟨by decide, by decide⟩
    · rw [c27, z5]; exact ⟨rfl, by decide, by decide⟩
    · rw [n0 0 (by decide)]; exact fun j hj => absurd hj (Nat.not_lt_zero j)
    · rw [n0 1 (by decide)]; exact fun j hj => absurd hj (Nat.not_lt_zero j)
    · rw [n0 1 (by decide)]; exact fun j hj => absurd hj (Nat.not_lt_zero j)
    · rw [n0 2 (by decide)]; exact fun j hj => absurd hj (Nat.not_lt_zero j)
    · rw [n0 2 (by decide)]; exact fun j hj => absurd hj (Nat.not_lt_zero j)
    · rw [n0 3 (by decide)]; exact fun j hj => absurd hj (Nat.not_lt_zero j)
    · rw [n0 3 (by decide)]; exact fun j hj => absurd hj (Nat.not_lt_zero j)
    · rw [n0 3 (by decide)]; exact fun j hj => absurd hj (Nat.not_lt_zero j)
    · rw [n0 3 (by decide)]; exact fun j hj => absurd hj (Nat.not_lt_zero j)
    · rw [n0 4 (by decide)]; exact fun j hj => absurd hj (Nat.not_lt_zero j)
  have hN : mbl (mco0 τ n) = mco0 τ n := by
    refine nb_of ?_
    unfold mco0
    rw [mbl_eq (t := mst (t0 τ) n) (by rw [mtn_o (by decide)]) (by rw [mtn_o (by decide)]) (mtn_o (by decide)), mtn_o (by decide)]
    unfold mst; rw [mbl_i]
  have hp := S0.1
  unfold xc1 rfS mcoF
  exact co_loop 61 0 _ _ 601 rfl S0 (fun _ => ⟨hD, e7, by decide⟩) hN (fun _ => by unfold pB at hp; omega)
