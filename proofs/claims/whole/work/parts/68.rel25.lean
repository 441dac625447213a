/-! ===== reading a coast ===== -/
def AR (f g : Nat → Int32) (n : Nat) (lo hi : Int) : Prop := ∀ j, j < n → f j = g j ∧ lo ≤ (g j).toInt ∧ (g j).toInt ≤ hi
theorem AR.fr {f g f' g' : Nat → Int32} {n : Nat} {lo hi : Int} (h : AR f g n lo hi) (hf : ∀ j, j < n → f' j = f j) (hg : ∀ j, j < n → g' j = g j) : AR f' g' n lo hi := fun j hj => by rw [hf j hj, hg j hj]; exact h j hj
theorem AR.st {f g f' g' : Nat → Int32} {n : Nat} {lo hi : Int} {v : Int32} (h : AR f g n lo hi) (hf : ∀ j, j < n → f' j = f j) (hg : ∀ j, j < n → g' j = g j) (ef : f' n = v) (eg : g' n = v) (r : lo ≤ v.toInt ∧ v.toInt ≤ hi) : AR f' g' (n + 1) lo hi := fun j hj => by
  rcases Nat.lt_or_ge j n with z | z
  · rw [hf j z, hg j z]; exact h j z
  · have e : j = n := by omega
    subst e; rw [ef, eg]; exact ⟨rfl, r⟩
def DR (s t : St) : Prop := rtW (t 114) ∧ (∀ k, k < 5 → s 29 k = t 114 k) ∧ (0 ≤ (s 29 5).toInt ∧ (s 29 5).toInt ≤ (t 111 7).toInt) ∧ (s 27 11 = t 114 5 ∧ 0 ≤ (t 114 5).toInt ∧ (t 114 5).toInt ≤ 5) ∧ (nn t 2 = 0 ∨ 0 < nn t 0) ∧ AR (s 31) (t 116) (nn t 0) 0 9 ∧ AR (s 33) (fun j => t (137 + j) 0) (nn t 1) 0 1000 ∧ AR (s 35) (fun j => t (137 + j) 1) (nn t 1) 1 9 ∧ AR (s 37) (fun j => t (149 + j) 0) (nn t 2) 0 1000 ∧ AR (s 39) (fun j => t (149 + j) 1) (nn t 2) 1 9 ∧ AR (s 41) (fun j => t (155 + j) 0) (nn t 3) 0 40 ∧ AR (s 43) (fun j => t (155 + j) 1) (nn t 3) 0 9 ∧ AR (s 45) (fun j => t (155 + j) 2) (nn t 3) 0 9 ∧ AR (s 47) (fun j => t (155 + j) 3) (nn t 3) 0 9 ∧ AR (s 49) (t 118) (nn t 4) 1 9
theorem DR_0 {s t s' t' : St} {v0 : Int32} (hD : DR s t) (hne : ¬ t 114 0 = 12) (h7 : t' 111 7 = t 111 7 + 1) (ha : 0 ≤ (t 111 7).toInt ∧ (t 111 7).toInt < 60) (c29 : s' 29 = upd (s 29) 0 (s 29 0 + 1)) (m114 : t' 114 = upd (t 114) 0 (t 114 0 + 1)) (cO : ∀ o, 27 ≤ o → o < 50 → o ≠ 29 → o ≠ 31 → s' o = s o) (mO : ∀ o, o ≠ 111 → o ≠ 114 → o ≠ 116 → t' o = t o) (c0 : s' 31 = upd (s 31) (nn t 0) v0) (m0 : t' 116 = upd (t 116) (nn t 0) v0) (r0 : 0 ≤ v0.toInt ∧ v0.toInt ≤ 9) : DR s' t' := by
  obtain ⟨w, cn, sg, sv, dn, a31, a33, a35, a37, a39, a41, a43, a45, a47, a49⟩ := hD
  have wk : (t 114 0).toInt < 12 ∧ 0 ≤ (t 114 0).toInt := by
    have w2 := w; obtain ⟨q0, q1, q2, q3, q4⟩ := w2
    refine ⟨?_, q0.1⟩
    by_cases z : (t 114 0).toInt < 12
    · exact z
    · exact absurd (Int32.toInt_inj.mp (by rw [show (12 : Int32).toInt = 12 from rfl]; omega)) hne
  have e1 : (t 114 0 + 1).toInt = (t 114 0).toInt + 1 := i_add rfl rfl (by omega) (by omega)
  have nk : nn t' 0 = nn t 0 + 1 := by unfold nn; rw [m114, ud_r, e1]; omega
  have nj : ∀ j, j ≠ 0 → nn t' j = nn t j := fun j hj => by unfold nn; rw [m114, ud_k hj]
  have e7 : (t' 111 7).toInt = (t 111 7).toInt + 1 := by rw [h7]; exact i_add rfl rfl (by omega) (by omega)
  refine ⟨?_, fun j hj => ?_, ?_, ?_, ?_, ?_, ?_, ?_, ?_, ?_, ?_, ?_, ?_, ?_, ?_⟩
  · rw [m114]; exact rtW_set w (by omega) (by rw [e1]; simp; omega)
  · rw [c29, m114]
    by_cases z : j = 0
    · rw [z, ud_r, ud_r, cn 0 (by decide)]
    · rw [ud_k z, ud_k z]; exact cn j hj
  · rw [c29, ud_k (by decide), e7]; omega
  · rw [cO 27 (by decide) (by decide) (by decide) (by decide), m114, ud_k (by decide)]; exact sv
  · rw [nk]; exact Or.inr (Nat.succ_pos _)
  · rw [nk]; exact AR.st a31 (fun j hj => by rw [c0, ud_k (by omega)]) (fun j hj => by rw [m0, ud_k (by omega)]) (by rw [c0, ud_r]) (by rw [m0, ud_r]) r0
  · rw [nj 1 (by decide)]; exact AR.fr a33 (fun j hj => by rw [cO 33 (by decide) (by decide) (by decide) (by decide)]) (fun j hj => by show t' (137 + j) 0 = _; rw [mO (137 + j) (by omega) (by omega) (by have w2 := w; unfold rtW at w2; unfold nn at *; omega)])
  · rw [nj 1 (by decide)]; exact AR.fr a35 (fun j hj => by rw [cO 35 (by decide) (by decide) (by decide) (by decide)]) (fun j hj => by show t' (137 + j) 1 = _; rw [mO (137 + j) (by omega) (by omega) (by have w2 := w; unfold rtW at w2; unfold nn at *; omega)])
  · rw [nj 2 (by decide)]; exact AR.fr a37 (fun j hj => by rw [cO 37 (by decide) (by decide) (by decide) (by decide)]) (fun j hj => by show t' (149 + j) 0 = _; rw [mO (149 + j) (by omega) (by omega) (by have w2 := w; unfold rtW at w2; unfold nn at *; omega)])
  · rw [nj 2 (by decide)]; exact AR.fr a39 (fun j hj => by rw [cO 39 (by decide) (by decide) (by decide) (by decide)]) (fun j hj => by show t' (149 + j) 1 = _; rw [mO (149 + j) (by omega) (by omega) (by have w2 := w; unfold rtW at w2; unfold nn at *; omega)])
  · rw [nj 3 (by decide)]; exact AR.fr a41 (fun j hj => by rw [cO 41 (by decide) (by decide) (by decide) (by decide)]) (fun j hj => by show t' (155 + j) 0 = _; rw [mO (155 + j) (by omega) (by omega) (by have w2 := w; unfold rtW at w2; unfold nn at *; omega)])
  · rw [nj 3 (by decide)]; exact AR.fr a43 (fun j hj => by rw [cO 43 (by decide) (by decide) (by decide) (by decide)]) (fun j hj => by show t' (155 + j) 1 = _; rw [mO (155 + j) (by omega) (by omega) (by have w2 := w; unfold rtW at w2; unfold nn at *; omega)])
  · rw [nj 3 (by decide)]; exact AR.fr a45 (fun j hj => by rw [cO 45 (by decide) (by decide) (by decide) (by decide)]) (fun j hj => by show t' (155 + j) 2 = _; rw [mO (155 + j) (by omega) (by omega) (by have w2 := w; unfold rtW at w2; unfold nn at *; omega)])
  · rw [nj 3 (by decide)]; exact AR.fr a47 (fun j hj => by rw [cO 47 (by decide) (by decide) (by decide) (by decide)]) (fun j hj => by show t' (155 + j) 3 = _; rw [mO (155 + j) (by omega) (by omega) (by have w2 := w; unfold rtW at w2; unfold nn at *; omega)])
  · rw [nj 4 (by decide)]; exact AR.fr a49 (fun j hj => by rw [cO 49 (by decide) (by decide) (by decide) (by decide)]) (fun j hj => by rw [mO 118 (by decide) (by decide) (by omega)])
theorem DR_1 {s t s' t' : St} {v0 v1 : Int32} (hD : DR s t) (hne : ¬ t 114 1 = 6) (h7 : t' 111 7 = t 111 7 + 1) (ha : 0 ≤ (t 111 7).toInt ∧ (t 111 7).toInt < 60) (c29 : s' 29 = upd (s 29) 1 (s 29 1 + 1)) (m114 : t' 114 = upd (t 114) 1 (t 114 1 + 1)) (cO : ∀ o, 27 ≤ o → o < 50 → o ≠ 29 → o ≠ 33 → o ≠ 35 → s' o = s o) (mO : ∀ o, o ≠ 111 → o ≠ 114 → o ≠ 137 + nn t 1 → t' o = t o) (c0 : s' 33 = upd (s 33) (nn t 1) v0) (m0 : t' (137 + nn t 1) 0 = v0) (r0 : 0 ≤ v0.toInt ∧ v0.toInt ≤ 1000) (c1 : s' 35 = upd (s 35) (nn t 1) v1) (m1 : t' (137 + nn t 1) 1 = v1) (r1 : 1 ≤ v1.toInt ∧ v1.toInt ≤ 9) : DR s' t' := by
  obtain ⟨w, cn, sg, sv, dn, a31, a33, a35, a37, a39, a41, a43, a45, a47, a49⟩ := hD
  have wk : (t 114 1).toInt < 6 ∧ 0 ≤ (t 114 1).toInt := by
    have w2 := w; obtain ⟨q0, q1, q2, q3, q4⟩ := w2
    refine ⟨?_, q1.1⟩
    by_cases z : (t 114 1).toInt < 6
    · exact z
    · exact absurd (Int32.toInt_inj.mp (by rw [show (6 : Int32).toInt = 6 from rfl]; omega)) hne
  have e1 : (t 114 1 + 1).toInt = (t 114 1).toInt + 1 := i_add rfl rfl (by omega) (by omega)
  have nk : nn t' 1 = nn t 1 + 1 := by unfold nn; rw [m114, ud_r, e1]; omega
  have nj : ∀ j, j ≠ 1 → nn t' j = nn t j := fun j hj => by unfold nn; rw [m114, ud_k hj]
  have e7 : (t' 111 7).toInt = (t 111 7).toInt + 1 := by rw [h7]; exact i_add rfl rfl (by omega) (by omega)
  refine ⟨?_, fun j hj => ?_, ?_, ?_, ?_, ?_, ?_, ?_, ?_, ?_, ?_, ?_, ?_, ?_, ?_⟩
  · rw [m114]; exact rtW_set w (by omega) (by rw [e1]; simp; omega)
  · rw [c29, m114]
    by_cases z : j = 1
    · rw [z, ud_r, ud_r, cn 1 (by decide)]
    · rw [ud_k z, ud_k z]; exact cn j hj
  · rw [c29, ud_k (by decide), e7]; omega
  · rw [cO 27 (by decide) (by decide) (by decide) (by decide) (by decide), m114, ud_k (by decide)]; exact sv
  · rw [nj 2 (by decide), nj 0 (by decide)]; exact dn
  · rw [nj 0 (by decide)]; exact AR.fr a31 (fun j hj => by rw [cO 31 (by decide) (by decide) (by decide) (by decide) (by decide)]) (fun j hj => by rw [mO 116 (by decide) (by decide) (by omega)])
  · rw [nk]; exact AR.st a33 (fun j hj => by rw [c0, ud_k (by omega)]) (fun j hj => by show t' (137 + j) 0 = _; rw [mO (137 + j) (by omega) (by omega) (by omega)]) (by rw [c0, ud_r]) m0 r0
  · rw [nk]; exact AR.st a35 (fun j hj => by rw [c1, ud_k (by omega)]) (fun j hj => by show t' (137 + j) 1 = _; rw [mO (137 + j) (by omega) (by omega) (by omega)]) (by rw [c1, ud_r]) m1 r1
  · rw [nj 2 (by decide)]; exact AR.fr a37 (fun j hj => by rw [cO 37 (by decide) (by decide) (by decide) (by decide) (by decide)]) (fun j hj => by show t' (149 + j) 0 = _; rw [mO (149 + j) (by omega) (by omega) (by have w2 := w; unfold rtW at w2; unfold nn at *; omega)])
  · rw [nj 2 (by decide)]; exact AR.fr a39 (fun j hj => by rw [cO 39 (by decide) (by decide) (by decide) (by decide) (by decide)]) (fun j hj => by show t' (149 + j) 1 = _; rw [mO (149 + j) (by omega) (by omega) (by have w2 := w; unfold rtW at w2; unfold nn at *; omega)])
  · rw [nj 3 (by decide)]; exact AR.fr a41 (fun j hj => by rw [cO 41 (by decide) (by decide) (by decide) (by decide) (by decide)]) (fun j hj => by show t' (155 + j) 0 = _; rw [mO (155 + j) (by omega) (by omega) (by have w2 := w; unfold rtW at w2; unfold nn at *; omega)])
  · rw [nj 3 (by decide)]; exact AR.fr a43 (fun j hj => by rw [cO 43 (by decide) (by decide) (by decide) (by decide) (by decide)]) (fun j hj => by show t' (155 + j) 1 = _; rw [mO (155 + j) (by omega) (by omega) (by have w2 := w; unfold rtW at w2; unfold nn at *; omega)])
  · rw [nj 3 (by decide)]; exact AR.fr a45 (fun j hj => by rw [cO 45 (by decide) (by decide) (by decide) (by decide) (by decide)]) (fun j hj => by show t' (155 + j) 2 = _; rw [mO (155 + j) (by omega) (by omega) (by have w2 := w; unfold rtW at w2; unfold nn at *; omega)])
  · rw [nj 3 (by decide)]; exact AR.fr a47 (fun j hj => by rw [cO 47 (by decide) (by decide) (by decide) (by decide) (by decide)]) (fun j hj => by show t' (155 + j) 3 = _; rw [mO (155 + j) (by omega) (by omega) (by have w2 := w; unfold rtW at w2; unfold nn at *; omega)])
  · rw [nj 4 (by decide)]; exact AR.fr a49 (fun j hj => by rw [cO 49 (by decide) (by decide) (by decide) (by decide) (by decide)]) (fun j hj => by rw [mO 118 (by decide) (by decide) (by omega)])
theorem DR_2 {s t s' t' : St} {v0 v1 : Int32} (hD : DR s t) (hne : ¬ t 114 2 = 3) (h7 : t' 111 7 = t 111 7 + 1) (ha : 0 ≤ (t 111 7).toInt ∧ (t 111 7).toInt < 60) (c29 : s' 29 = upd (s 29) 2 (s 29 2 + 1)) (m114 : t' 114 = upd (t 114) 2 (t 114 2 + 1)) (cO : ∀ o, 27 ≤ o → o < 50 → o ≠ 29 → o ≠ 37 → o ≠ 39 → s' o = s o) (mO : ∀ o, o ≠ 111 → o ≠ 114 → o ≠ 149 + nn t 2 → t' o = t o) (c0 : s' 37 = upd (s 37) (nn t 2) v0) (m0 : t' (149 + nn t 2) 0 = v0) (r0 : 0 ≤ v0.toInt ∧ v0.toInt ≤ 1000) (c1 : s' 39 = upd (s 39) (nn t 2) v1) (m1 : t' (149 + nn t 2) 1 = v1) (r1 : 1 ≤ v1.toInt ∧ v1.toInt ≤ 9) (h0 : 0 < nn t 0) : DR s' t' := by
  obtain ⟨w, cn, sg, sv, dn, a31, a33, a35, a37, a39, a41, a43, a45, a47, a49⟩ := hD
  have wk : (t 114 2).toInt < 3 ∧ 0 ≤ (t 114 2).toInt := by
    have w2 := w; obtain ⟨q0, q1, q2, q3, q4⟩ := w2
    refine ⟨?_, q2.1⟩
    by_cases z : (t 114 2).toInt < 3
    · exact z
    · exact absurd (Int32.toInt_inj.mp (by rw [show (3 : Int32).toInt = 3 from rfl]; omega)) hne
  have e1 : (t 114 2 + 1).toInt = (t 114 2).toInt + 1 := i_add rfl rfl (by omega) (by omega)
  have nk : nn t' 2 = nn t 2 + 1 := by unfold nn; rw [m114, ud_r, e1]; omega
  have nj : ∀ j, j ≠ 2 → nn t' j = nn t j := fun j hj => by unfold nn; rw [m114, ud_k hj]
  have e7 : (t' 111 7).toInt = (t 111 7).toInt + 1 := by rw [h7]; exact i_add rfl rfl (by omega) (by omega)
  refine ⟨?_, fun j hj => ?_, ?_, ?_, ?_, ?_, ?_, ?_, ?_, ?_, ?_, ?_, ?_, ?_, ?_⟩
  · rw [m114]; exact rtW_set w (by omega) (by rw [e1]; simp; omega)
  · rw [c29, m114]
    by_cases z : j = 2
    · rw [z, ud_r, ud_r, cn 2 (by decide)]
    · rw [ud_k z, ud_k z]; exact cn j hj
  · rw [c29, ud_k (by decide), e7]; omega
  · rw [cO 27 (by decide) (by decide) (by decide) (by decide) (by decide), m114, ud_k (by decide)]; exact sv
  · rw [nj 0 (by decide)]; exact Or.inr h0
  · rw [nj 0 (by decide)]; exact AR.fr a31 (fun j hj => by rw [cO 31 (by decide) (by decide) (by decide) (by decide) (by decide)]) (fun j hj => by rw [mO 116 (by decide) (by decide) (by omega)])
  · rw [nj 1 (by decide)]; exact AR.fr a33 (fun j hj => by rw [cO 33 (by decide) (by decide) (by decide) (by decide) (by decide)]) (fun j hj => by show t' (137 + j) 0 = _; rw [mO (137 + j) (by omega) (by omega) (by have w2 := w; unfold rtW at w2; unfold nn at *; omega)])
  · rw [nj 1 (by decide)]; exact AR.fr a35 (fun j hj => by rw [cO 35 (by decide) (by decide) (by decide) (by decide) (by decide)]) (fun j hj => by show t' (137 + j) 1 = _; rw [mO (137 + j) (by omega) (by omega) (by have w2 := w; unfold rtW at w2; unfold nn at *; omega)])
  · rw [nk]; exact AR.st a37 (fun j hj => by rw [c0, ud_k (by omega)]) (fun j hj => by show t' (149 + j) 0 = _; rw [mO (149 + j) (by omega) (by omega) (by omega)]) (by rw [c0, ud_r]) m0 r0
  · rw [nk]; exact AR.st a39 (fun j hj => by rw [c1, ud_k (by omega)]) (fun j hj => by show t' (149 + j) 1 = _; rw [mO (149 + j) (by omega) (by omega) (by omega)]) (by rw [c1, ud_r]) m1 r1
  · rw [nj 3 (by decide)]; exact AR.fr a41 (fun j hj => by rw [cO 41 (by decide) (by decide) (by decide) (by decide) (by decide)]) (fun j hj => by show t' (155 + j) 0 = _; rw [mO (155 + j) (by omega) (by omega) (by have w2 := w; unfold rtW at w2; unfold nn at *; omega)])
  · rw [nj 3 (by decide)]; exact AR.fr a43 (fun j hj => by rw [cO 43 (by decide) (by decide) (by decide) (by decide) (by decide)]) (fun j hj => by show t' (155 + j) 1 = _; rw [mO (155 + j) (by omega) (by omega) (by have w2 := w; unfold rtW at w2; unfold nn at *; omega)])
  · rw [nj 3 (by decide)]; exact AR.fr a45 (fun j hj => by rw [cO 45 (by decide) (by decide) (by decide) (by decide) (by decide)]) (fun j hj => by show t' (155 + j) 2 = _; rw [mO (155 + j) (by omega) (by omega) (by have w2 := w; unfold rtW at w2; unfold nn at *; omega)])
  · rw [nj 3 (by decide)]; exact AR.fr a47 (fun j hj => by rw [cO 47 (by decide) (by decide) (by decide) (by decide) (by decide)]) (fun j hj => by show t' (155 + j) 3 = _; rw [mO (155 + j) (by omega) (by omega) (by have w2 := w; unfold rtW at w2; unfold nn at *; omega)])
  · rw [nj 4 (by decide)]; exact AR.fr a49 (fun j hj => by rw [cO 49 (by decide) (by decide) (by decide) (by decide) (by decide)]) (fun j hj => by rw [mO 118 (by decide) (by decide) (by omega)])
theorem DR_3 {s t s' t' : St} {v0 v1 v2 v3 : Int32} (hD : DR s t) (hne : ¬ t 114 3 = 6) (h7 : t' 111 7 = t 111 7 + 1) (ha : 0 ≤ (t 111 7).toInt ∧ (t 111 7).toInt < 60) (c29 : s' 29 = upd (s 29) 3 (s 29 3 + 1)) (m114 : t' 114 = upd (t 114) 3 (t 114 3 + 1)) (cO : ∀ o, 27 ≤ o → o < 50 → o ≠ 29 → o ≠ 41 → o ≠ 43 → o ≠ 45 → o ≠ 47 → s' o = s o) (mO : ∀ o, o ≠ 111 → o ≠ 114 → o ≠ 155 + nn t 3 → t' o = t o) (c0 : s' 41 = upd (s 41) (nn t 3) v0) (m0 : t' (155 + nn t 3) 0 = v0) (r0 : 0 ≤ v0.toInt ∧ v0.toInt ≤ 40) (c1 : s' 43 = upd (s 43) (nn t 3) v1) (m1 : t' (155 + nn t 3) 1 = v1) (r1 : 0 ≤ v1.toInt ∧ v1.toInt ≤ 9) (c2 : s' 45 = upd (s 45) (nn t 3) v2) (m2 : t' (155 + nn t 3) 2 = v2) (r2 : 0 ≤ v2.toInt ∧ v2.toInt ≤ 9) (c3 : s' 47 = upd (s 47) (nn t 3) v3) (m3 : t' (155 + nn t 3) 3 = v3) (r3 : 0 ≤ v3.toInt ∧ v3.toInt ≤ 9) : DR s' t' := by
  obtain ⟨w, cn, sg, sv, dn, a31, a33, a35, a37, a39, a41, a43, a45, a47, a49⟩ := hD
  have wk : (t 114 3).toInt < 6 ∧ 0 ≤ (t 114 3).toInt := by
    have w2 := w; obtain ⟨q0, q1, q2, q3, q4⟩ := w2
    refine ⟨?_, q3.1⟩
    by_cases z : (t 114 3).toInt < 6
    · exact z
    · exact absurd (Int32.toInt_inj.mp (by rw [show (6 : Int32).toInt = 6 from rfl]; omega)) hne
  have e1 : (t 114 3 + 1).toInt = (t 114 3).toInt + 1 := i_add rfl rfl (by omega) (by omega)
  have nk : nn t' 3 = nn t 3 + 1 := by unfold nn; rw [m114, ud_r, e1]; omega
  have nj : ∀ j, j ≠ 3 → nn t' j = nn t j := fun j hj => by unfold nn; rw [m114, ud_k hj]
  have e7 : (t' 111 7).toInt = (t 111 7).toInt + 1 := by rw [h7]; exact i_add rfl rfl (by omega) (by omega)
  refine ⟨?_, fun j hj => ?_, ?_, ?_, ?_, ?_, ?_, ?_, ?_, ?_, ?_, ?_, ?_, ?_, ?_⟩
  · rw [m114]; exact rtW_set w (by omega) (by rw [e1]; simp; omega)
  · rw [c29, m114]
    by_cases z : j = 3
    · rw [z, ud_r, ud_r, cn 3 (by decide)]
    · rw [ud_k z, ud_k z]; exact cn j hj
  · rw [c29, ud_k (by decide), e7]; omega
  · rw [cO 27 (by decide) (by decide) (by decide) (by decide) (by decide) (by decide) (by decide), m114, ud_k (by decide)]; exact sv
  · rw [nj 2 (by decide), nj 0 (by decide)]; exact dn
  · rw [nj 0 (by decide)]; exact AR.fr a31 (fun j hj => by rw [cO 31 (by decide) (by decide) (by decide) (by decide) (by decide) (by decide) (by decide)]) (fun j hj => by rw [mO 116 (by decide) (by decide) (by omega)])
  · rw [nj 1 (by decide)]; exact AR.fr a33 (fun j hj => by rw [cO 33 (by decide) (by decide) (by decide) (by decide) (by decide) (by decide) (by decide)]) (fun j hj => by show t' (137 + j) 0 = _; rw [mO (137 + j) (by omega) (by omega) (by have w2 := w; unfold rtW at w2; unfold nn at *; omega)])
  · rw [nj 1 (by decide)]; exact AR.fr a35 (fun j hj => by rw [cO 35 (by decide) (by decide) (by decide) (by decide) (by decide) (by decide) (by decide)]) (fun j hj => by show t' (137 + j) 1 = _; rw [mO (137 + j) (by omega) (by omega) (by have w2 := w; unfold rtW at w2; unfold nn at *; omega)])
  · rw [nj 2 (by decide)]; exact AR.fr a37 (fun j hj => by rw [cO 37 (by decide) (by decide) (by decide) (by decide) (by decide) (by decide) (by decide)]) (fun j hj => by show t' (149 + j) 0 = _; rw [mO (149 + j) (by omega) (by omega) (by have w2 := w; unfold rtW at w2; unfold nn at *; omega)])
  · rw [nj 2 (by decide)]; exact AR.fr a39 (fun j hj => by rw [cO 39 (by decide) (by decide) (by decide) (by decide) (by decide) (by decide) (by decide)]) (fun j hj => by show t' (149 + j) 1 = _; rw [mO (149 + j) (by omega) (by omega) (by have w2 := w; unfold rtW at w2; unfold nn at *; omega)])
  · rw [nk]; exact AR.st a41 (fun j hj => by rw [c0, ud_k (by omega)]) (fun j hj => by show t' (155 + j) 0 = _; rw [mO (155 + j) (by omega) (by omega) (by omega)]) (by rw [c0, ud_r]) m0 r0
  · rw [nk]; exact AR.st a43 (fun j hj => by rw [c1, ud_k (by omega)]) (fun j hj => by show t' (155 + j) 1 = _; rw [mO (155 + j) (by omega) (by omega) (by omega)]) (by rw [c1, ud_r]) m1 r1
  · rw [nk]; exact AR.st a45 (fun j hj => by rw [c2, ud_k (by omega)]) (fun j hj => by show t' (155 + j) 2 = _; rw [mO (155 + j) (by omega) (by omega) (by omega)]) (by rw [c2, ud_r]) m2 r2
  · rw [nk]; exact AR.st a47 (fun j hj => by rw [c3, ud_k (by omega)]) (fun j hj => by show t' (155 + j) 3 = _; rw [mO (155 + j) (by omega) (by omega) (by omega)]) (by rw [c3, ud_r]) m3 r3
  · rw [nj 4 (by decide)]; exact AR.fr a49 (fun j hj => by rw [cO 49 (by decide) (by decide) (by decide) (by decide) (by decide) (by decide) (by decide)]) (fun j hj => by rw [mO 118 (by decide) (by decide) (by omega)])
theorem DR_4 {s t s' t' : St} {v0 : Int32} (hD : DR s t) (hne : ¬ t 114 4 = 6) (h7 : t' 111 7 = t 111 7 + 1) (ha : 0 ≤ (t 111 7).toInt ∧ (t 111 7).toInt < 60) (c29 : s' 29 = upd (s 29) 4 (s 29 4 + 1)) (m114 : t' 114 = upd (t 114) 4 (t 114 4 + 1)) (cO : ∀ o, 27 ≤ o → o < 50 → o ≠ 29 → o ≠ 49 → s' o = s o) (mO : ∀ o, o ≠ 111 → o ≠ 114 → o ≠ 118 → t' o = t o) (c0 : s' 49 = upd (s 49) (nn t 4) v0) (m0 : t' 118 = upd (t 118) (nn t 4) v0) (r0 : 1 ≤ v0.toInt ∧ v0.toInt ≤ 9) : DR s' t' := by
  obtain ⟨w, cn, sg, sv, dn, a31, a33, a35, a37, a39, a41, a43, a45, a47, a49⟩ := hD
  have wk : (t 114 4).toInt < 6 ∧ 0 ≤ (t 114 4).toInt := by
    have w2 := w; obtain ⟨q0, q1, q2, q3, q4⟩ := w2
    refine ⟨?_, q4.1⟩
    by_cases z : (t 114 4).toInt < 6
    · exact z
    · exact absurd (Int32.toInt_inj.mp (by rw [show (6 : Int32).toInt = 6 from rfl]; omega)) hne
  have e1 : (t 114 4 + 1).toInt = (t 114 4).toInt + 1 := i_add rfl rfl (by omega) (by omega)
  have nk : nn t' 4 = nn t 4 + 1 := by unfold nn; rw [m114, ud_r, e1]; omega
  have nj : ∀ j, j ≠ 4 → nn t' j = nn t j := fun j hj => by unfold nn; rw [m114, ud_k hj]
  have e7 : (t' 111 7).toInt = (t 111 7).toInt + 1 := by rw [h7]; exact i_add rfl rfl (by omega) (by omega)
  refine ⟨?_, fun j hj => ?_, ?_, ?_, ?_, ?_, ?_, ?_, ?_, ?_, ?_, ?_, ?_, ?_, ?_⟩
  · rw [m114]; exact rtW_set w (by omega) (by rw [e1]; simp; omega)
  · rw [c29, m114]
    by_cases z : j = 4
    · rw [z, ud_r, ud_r, cn 4 (by decide)]
    · rw [ud_k z, ud_k z]; exact cn j hj
  · rw [c29, ud_k (by decide), e7]; omega
  · rw [cO 27 (by decide) (by decide) (by decide) (by decide), m114, ud_k (by decide)]; exact sv
  · rw [nj 2 (by decide), nj 0 (by decide)]; exact dn
  · rw [nj 0 (by decide)]; exact AR.fr a31 (fun j hj => by rw [cO 31 (by decide) (by decide) (by decide) (by decide)]) (fun j hj => by rw [mO 116 (by decide) (by decide) (by omega)])
  · rw [nj 1 (by decide)]; exact AR.fr a33 (fun j hj => by rw [cO 33 (by decide) (by decide) (by decide) (by decide)]) (fun j hj => by show t' (137 + j) 0 = _; rw [mO (137 + j) (by omega) (by omega) (by have w2 := w; unfold rtW at w2; unfold nn at *; omega)])
  · rw [nj 1 (by decide)]; exact AR.fr a35 (fun j hj => by rw [cO 35 (by decide) (by decide) (by decide) (by decide)]) (fun j hj => by show t' (137 + j) 1 = _; rw [mO (137 + j) (by omega) (by omega) (by have w2 := w; unfold rtW at w2; unfold nn at *; omega)])
  · rw [nj 2 (by decide)]; exact AR.fr a37 (fun j hj => by rw [cO 37 (by decide) (by decide) (by decide) (by decide)]) (fun j hj => by show t' (149 + j) 0 = _; rw [mO (149 + j) (by omega) (by omega) (by have w2 := w; unfold rtW at w2; unfold nn at *; omega)])
  · rw [nj 2 (by decide)]; exact AR.fr a39 (fun j hj => by rw [cO 39 (by decide) (by decide) (by decide) (by decide)]) (fun j hj => by show t' (149 + j) 1 = _; rw [mO (149 + j) (by omega) (by omega) (by have w2 := w; unfold rtW at w2; unfold nn at *; omega)])
  · rw [nj 3 (by decide)]; exact AR.fr a41 (fun j hj => by rw [cO 41 (by decide) (by decide) (by decide) (by decide)]) (fun j hj => by show t' (155 + j) 0 = _; rw [mO (155 + j) (by omega) (by omega) (by have w2 := w; unfold rtW at w2; unfold nn at *; omega)])
  · rw [nj 3 (by decide)]; exact AR.fr a43 (fun j hj => by rw [cO 43 (by decide) (by decide) (by decide) (by decide)]) (fun j hj => by show t' (155 + j) 1 = _; rw [mO (155 + j) (by omega) (by omega) (by have w2 := w; unfold rtW at w2; unfold nn at *; omega)])
  · rw [nj 3 (by decide)]; exact AR.fr a45 (fun j hj => by rw [cO 45 (by decide) (by decide) (by decide) (by decide)]) (fun j hj => by show t' (155 + j) 2 = _; rw [mO (155 + j) (by omega) (by omega) (by have w2 := w; unfold rtW at w2; unfold nn at *; omega)])
  · rw [nj 3 (by decide)]; exact AR.fr a47 (fun j hj => by rw [cO 47 (by decide) (by decide) (by decide) (by decide)]) (fun j hj => by show t' (155 + j) 3 = _; rw [mO (155 + j) (by omega) (by omega) (by have w2 := w; unfold rtW at w2; unfold nn at *; omega)])
  · rw [nk]; exact AR.st a49 (fun j hj => by rw [c0, ud_k (by omega)]) (fun j hj => by rw [m0, ud_k (by omega)]) (by rw [c0, ud_r]) (by rw [m0, ud_r]) r0
theorem DR_5 {s t s' t' : St} {v : Int32} (hD : DR s t) (h7 : t' 111 7 = t 111 7 + 1) (ha : 0 ≤ (t 111 7).toInt ∧ (t 111 7).toInt < 60) (c29 : s' 29 = upd (s 29) 5 (s 29 5 + 1)) (m114 : t' 114 = upd (t 114) 5 v) (cO : ∀ o, 28 ≤ o → o < 50 → o ≠ 29 → s' o = s o) (mO : ∀ o, o ≠ 111 → o ≠ 114 → t' o = t o) (c0 : s' 27 11 = v) (r0 : 0 ≤ v.toInt ∧ v.toInt ≤ 5) : DR s' t' := by
  obtain ⟨w, cn, sg, sv, dn, a31, a33, a35, a37, a39, a41, a43, a45, a47, a49⟩ := hD
  have nj : ∀ j, j ≠ 5 → nn t' j = nn t j := fun j hj => by unfold nn; rw [m114, ud_k hj]
  have e7 : (t' 111 7).toInt = (t 111 7).toInt + 1 := by rw [h7]; exact i_add rfl rfl (by omega) (by omega)
  have e1 : (s 29 5 + 1).toInt = (s 29 5).toInt + 1 := i_add rfl rfl (by omega) (by omega)
  refine ⟨?_, fun j hj => ?_, ?_, ?_, ?_, ?_, ?_, ?_, ?_, ?_, ?_, ?_, ?_, ?_, ?_⟩
  · rw [m114]; exact rtW_set w r0.1 (by simp; omega)
  · rw [c29, m114, ud_k (by omega), ud_k (by omega)]; exact cn j hj
  · rw [c29, ud_r, e7, e1]; omega
  · rw [c0, m114, ud_r]; exact ⟨rfl, r0⟩
  · rw [nj 2 (by decide), nj 0 (by decide)]; exact dn
  · rw [nj 0 (by decide)]; exact AR.fr a31 (fun j hj => by rw [cO 31 (by decide) (by decide) (by decide)]) (fun j hj => by rw [mO 116 (by decide) (by decide)])
  · rw [nj 1 (by decide)]; exact AR.fr a33 (fun j hj => by rw [cO 33 (by decide) (by decide) (by decide)]) (fun j hj => by show t' (137 + j) 0 = _; rw [mO (137 + j) (by omega) (by omega)])
  · rw [nj 1 (by decide)]; exact AR.fr a35 (fun j hj => by rw [cO 35 (by decide) (by decide) (by decide)]) (fun j hj => by show t' (137 + j) 1 = _; rw [mO (137 + j) (by omega) (by omega)])
  · rw [nj 2 (by decide)]; exact AR.fr a37 (fun j hj => by rw [cO 37 (by decide) (by decide) (by decide)]) (fun j hj => by show t' (149 + j) 0 = _; rw [mO (149 + j) (by omega) (by omega)])
  · rw [nj 2 (by decide)]; exact AR.fr a39 (fun j hj => by rw [cO 39 (by decide) (by decide) (by decide)]) (fun j hj => by show t' (149 + j) 1 = _; rw [mO (149 + j) (by omega) (by omega)])
  · rw [nj 3 (by decide)]; exact AR.fr a41 (fun j hj => by rw [cO 41 (by decide) (by decide) (by decide)]) (fun j hj => by show t' (155 + j) 0 = _; rw [mO (155 + j) (by omega) (by omega)])
  · rw [nj 3 (by decide)]; exact AR.fr a43 (fun j hj => by rw [cO 43 (by decide) (by decide) (by decide)]) (fun j hj => by show t' (155 + j) 1 = _; rw [mO (155 + j) (by omega) (by omega)])
  · rw [nj 3 (by decide)]; exact AR.fr a45 (fun j hj => by rw [cO 45 (by decide) (by decide) (by decide)]) (fun j hj => by show t' (155 + j) 2 = _; rw [mO (155 + j) (by omega) (by omega)])
  · rw [nj 3 (by decide)]; exact AR.fr a47 (fun j hj => by rw [cO 47 (by decide) (by decide) (by decide)]) (fun j hj => by show t' (155 + j) 3 = _; rw [mO (155 + j) (by omega) (by omega)])
  · rw [nj 4 (by decide)]; exact AR.fr a49 (fun j hj => by rw [cO 49 (by decide) (by decide) (by decide)]) (fun j hj => by rw [mO 118 (by decide) (by decide)])
/-! a number into its place -/
theorem nuS_o {s : St} {lo hi : Int32} {o : Nat} (h : o ≠ 1) : nuS s lo hi o = s o := by
  unfold nuS; split
  · rw [bl_o h, mvt_o h, nu1_o h]
  · rw [mvt_o h, nu1_o h]
theorem rn1_o {s : St} {row n q : Nat} {idx lo hi : Int32} (h1 : q ≠ 1) (h : q ≠ row + 1) : rn1 s row n idx lo hi q = s q := by unfold rn1; rw [rs_o h, nuS_o h1]
theorem rn1_r {s : St} {row n j : Nat} {lo hi : Int32} (hj : j < n) (hn : n < 100000) (h1 : row ≠ 0) : rn1 s row n (nI j) lo hi (row + 1) = upd (s (row + 1)) j (nuV (nu1 s)) := by
  unfold rn1; rw [rs_nI hj hn, up_row, nuS_o (by omega)]
theorem mnO_r {t : St} {o k : Nat} {lo hi : Int32} (ho : o ≠ 111) : mnO t o k lo hi o = upd (t o) k (mnV t lo hi) := by unfold mnO; rw [up_row, mnS_o ho]
theorem mnO_f {t : St} {o k f : Nat} {lo hi : Int32} (ho : o ≠ 111) : mnO t o k lo hi 111 f = mnS t lo hi 111 f := by unfold mnO; rw [up_o (Ne.symm ho)]
theorem mnS_5 {t : St} {lo hi : Int32} (hp : pB t) (h : mnS t lo hi 111 5 = 0) : t 111 5 = 0 := ((okr_nu hp).2.2 h).1
theorem msg_5 {t : St} {c : Int32} (hp : pB t) (h0 : 0 ≤ c) (h : msg t c 111 5 = 0) : t 111 5 = 0 := ((okr_sg hp h0).2.2 h).1
theorem SY.yn {s t : St} (h : SY s t) {row n o k : Nat} {idx lo hi : Int32} (hlo : lo.toInt ≤ 100000) (hhi : hi.toInt < 100000) (hr : row + 1 ≠ 1 ∧ row + 1 ≠ 3) (ho : o ≠ 111 ∧ o ≠ 112) :
    SY (rn1 s row n idx lo hi) (mnO t o k lo hi) ∧ (mnO t o k lo hi 111 5 = 0 → t 111 5 = 0 ∧ nuV (nu1 s) = mnV t lo hi ∧ lo ≤ mnV t lo hi ∧ mnV t lo hi ≤ hi) := by
  obtain ⟨h1, h2⟩ := h.ynu hlo hhi
  refine ⟨?_, fun z => ?_⟩
  · unfold rn1 mnO
    refine SY.cl (SY.cr h1 ?_ ?_ ?_ ?_ ?_) ?_ ?_ ?_ ?_ ?_
    · rw [up_o (Ne.symm ho.1)]
    · rw [up_o (Ne.symm ho.1)]
    · rw [up_o (Ne.symm ho.1)]
    · rw [up_o (Ne.symm ho.1)]
    · rw [up_o (Ne.symm ho.2)]
    · rw [rs_o (Ne.symm hr.1)]
    · rw [rs_o (Ne.symm hr.1)]
    · rw [rs_o (Ne.symm hr.1)]
    · rw [rs_o (Ne.symm hr.1)]
    · rw [rs_o (Ne.symm hr.2)]
  · rw [mnO_f ho.1] at z
    exact ⟨mnS_5 h.1 z, h2 z⟩
theorem tkR_o {s : St} {c : Int32} {o : Nat} (h : o ≠ 1) : tkR s c o = s o := by
  have e : tkS s c o = s o := by
    unfold tkS; split
    · rw [mvt_o h, up_o h]
    · rfl
  unfold tkR rq; split
  · rw [bl_o h, e]
  · exact e
theorem le9 {a b : Int32} {x y : Int} (h1 : a ≤ b) (ha : a.toInt = x) (hb : b.toInt = y) : x ≤ y := by rw [i_le] at h1; omega
