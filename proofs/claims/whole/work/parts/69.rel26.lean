theorem bl_same {s : St} {k p : Int32} (h : ¬ s 1 5 = 0) : bl s k p = s := by unfold bl; exact if_neg h
theorem b5 {s : St} (h : ¬ s 1 5 = 0) : b2 (s 1 5 = 0) = 0 := b2_f h
theorem rc3_29 {X : St} {k : Nat} (hk : k < 6) : rc3 X (nI k) 29 = upd (X 29) k (X 29 k + 1) := by
  unfold rc3; rw [rs_nI hk (by decide), up_row, rg_nI hk (by decide)]
theorem rc3_o {X : St} {k : Int32} {o : Nat} (h : o ≠ 29) : rc3 X k o = X o := by unfold rc3; exact rs_o h
theorem SY.yfin {X Y : St} {k : Int32} (h : SY X Y) : SY (rc3 (tkR X 59) k) (msg Y 59) :=
  (h.ysg (c := 59) (by decide)).cl (by rw [rc3_o (by decide)]) (by rw [rc3_o (by decide)]) (by rw [rc3_o (by decide)]) (by rw [rc3_o (by decide)]) (rc3_o (by decide))
theorem mc3_7 {t : St} : mc3 t 111 7 = t 111 7 + 1 := by unfold mc3; rw [up_rd]; unfold msk; rw [up_k (by decide)]
theorem mc3_5 {t : St} : mc3 t 111 5 = t 111 5 := by unfold mc3; rw [up_k (by decide)]; unfold msk; rw [up_k (by decide)]
theorem mcC_o {t : St} {k o : Nat} (h : o ≠ 114) : mcC t k o = t o := by unfold mcC; exact up_o h
theorem mcC_r {t : St} {k : Nat} (h : t 111 5 = 0) : mcC t k 114 = upd (t 114) k (t 114 k + 1) := by unfold mcC; rw [up_row, if_pos h]
theorem mnS_7 {t : St} {lo hi : Int32} : mnS t lo hi 111 7 = t 111 7 := mnS_k (by decide) (by decide) (by decide)
/-- the clause's word is known, the clause may stand -/
theorem cl_beg {s t : St} (h : SY s t) (h5 : t 111 5 = 0) : SY (mvt (wo1 s) (woE (wo1 s))) (mc3 (mbl t)) :=
  (h.ywo h5).cr (by unfold mc3; rw [up_k (by decide)]) (by unfold mc3; rw [up_k (by decide)]) (by unfold mc3; rw [up_k (by decide)]) (by unfold mc3; rw [up_k (by decide)]) (by unfold mc3; rw [up_o (by decide)])
theorem wo_oo {s : St} {o : Nat} (h : o ≠ 1) : mvt (wo1 s) (woE (wo1 s)) o = s o := by rw [mvt_o h]; unfold wo1; exact up_o h
theorem mc3_oo {t : St} {o : Nat} (h : o ≠ 111) : mc3 (mbl t) o = t o := by rw [mc3_o h, mbl_o h]
/-- a clause too many -/
theorem cl_bad {s t : St} (h : SY s t) (h5 : t 111 5 = 0) (hk : ¬ woI s 1 = -1) : SY (bl (woS s 1) 3 (woS s 1 1 4)) (wr (mbz t) 3 (mbz t 111 4)) := by
  have e := (h.pl h5).1
  have eM : mbz t = mbl t := by unfold mbz; exact if_pos h5
  rw [woS_4, eM, woS_1 hk, ← e]
  refine SY0.yw ⟨(mbl_p h.1).1, ?_, ?_, ?_, ?_⟩ (by decide)
  · rw [mvt_k (by decide), mbl_k (by decide)]; unfold wo1; rw [up_k (by decide)]; exact h.2.1
  · rw [mvt_o (by decide), mbl_o (by decide)]; unfold wo1; rw [up_o (by decide)]; exact h.2.2.1
  · rw [mvt_k (by decide), mbl_k (by decide)]; unfold wo1; rw [up_k (by decide)]; exact h.2.2.2.1
  · rw [mvt_k (by decide), mbl_k (by decide)]; unfold wo1; rw [up_k (by decide)]; exact h.2.2.2.2.1
theorem mcE_0 {t : St} {B C : St → St} (h : ¬ t 111 5 = 0) : mcE t B C = t := by unfold mcE; exact if_neg h
theorem mcE_1 {t : St} {B C : St → St} (h : t 111 5 = 0) : mcE t B C = msg (C (B (mc3 t))) 59 := by unfold mcE; exact if_pos h
/-- what a clause leaves -/
def CLK (s t s' t' : St) (a : Nat) : Prop := SY s' t' ∧ (t' 111 5 = 0 → DR s' t' ∧ a < 60 ∧ t' 111 7 = nI (a + 1))
theorem cl_ix {s t : St} (hD : DR s t) {k : Nat} (hk : k < 5) : rg (mvt (wo1 s) (woE (wo1 s)) 29) 6 (nI k) = nI (nn t k) ∧ 0 ≤ (t 114 k).toInt := by
  obtain ⟨w, cn, -⟩ := hD
  have g : 0 ≤ (t 114 k).toInt := by
    obtain ⟨q0, q1, q2, q3, q4⟩ := w
    have : k = 0 ∨ k = 1 ∨ k = 2 ∨ k = 3 ∨ k = 4 := by omega
    rcases this with z | z | z | z | z <;> subst z
    · exact q0.1
    · exact q1.1
    · exact q2.1
    · exact q3.1
    · exact q4.1
  refine ⟨?_, g⟩
  rw [rg_nI (by omega) (by decide), wo_oo (by decide), cn k hk]
  unfold nn; rw [nI_bk g]

theorem cl_0 {s t : St} {a : Nat} (h : SY s t) (h5 : t 111 5 = 0) (hD : DR s t) (ha : a < 60) (h7 : t 111 7 = nI a) (hne : ¬ t 114 0 = 12) : CLK s t (rc3 (tkR (rc2 (mvt (wo1 s) (woE (wo1 s))) (nI 0)) 59) (nI 0)) (mcE (mbl t) mcB0 (fun u => mcC u 0)) a := by
  obtain ⟨ei, h0⟩ := cl_ix hD (k := 0) (by decide)
  have hw := hD.1
  have cn := hD.2.1
  have S0 := cl_beg h h5
  have hn : nn t 0 < 12 := by
    have w2 := hw; unfold rtW at w2; unfold nn
    by_cases z : (t 114 0).toInt < 12
    · omega
    · exact absurd (Int32.toInt_inj.mp (by rw [show (12 : Int32).toInt = 12 from rfl]; omega)) hne
  have eX : rc2 (mvt (wo1 s) (woE (wo1 s))) (nI 0) = (rn1 (mvt (wo1 s) (woE (wo1 s))) 30 12 (nI (nn t 0)) 0 9) := by
    unfold rc2; rw [ei]
    rfl
  have eN : nn (mc3 (mbl t)) 0 = nn t 0 := by unfold nn; rw [mc3_oo (by decide)]
  have eY : mcB0 (mc3 (mbl t)) = (mnO (mc3 (mbl t)) 116 (nn t 0) 0 9) := by unfold mcB0; rw [eN]
  rw [mcE_1 (by rw [mbl_k (by decide)]; exact h5), eX, eY]
  obtain ⟨S1, V1⟩ := S0.yn (row := 30) (n := 12) (o := 116) (k := (nn t 0)) (idx := nI (nn t 0)) (lo := 0) (hi := 9) (by decide) (by decide) (by decide) (by omega)
  have fX : ∀ q, q ≠ 1 → q ≠ 31 → (rn1 (mvt (wo1 s) (woE (wo1 s))) 30 12 (nI (nn t 0)) 0 9) q = s q := fun q z1 y0 => by rw [rn1_o z1 y0]; exact wo_oo z1
  have fY : ∀ q, q ≠ 111 → q ≠ 116 → (mnO (mc3 (mbl t)) 116 (nn t 0) 0 9) q = t q := fun q z1 z2 => by rw [mnO_o z1 z2]; exact mc3_oo z1
  have gX0 : (rn1 (mvt (wo1 s) (woE (wo1 s))) 30 12 (nI (nn t 0)) 0 9) 31 = upd (s 31) (nn t 0) (nuV (nu1 (mvt (wo1 s) (woE (wo1 s))))) := by
    rw [show (31 : Nat) = 30 + 1 from rfl, rn1_r (by omega) (by decide) (by decide)]
    rw [show (30 + 1 : Nat) = 31 from rfl, wo_oo (by decide)]
  have gY0 : (mnO (mc3 (mbl t)) 116 (nn t 0) 0 9) 116 = upd (t 116) (nn t 0) (mnV (mc3 (mbl t)) 0 9) := by rw [mnO_r (by decide), mc3_oo (by decide)]
  have S9 : SY (rn1 (mvt (wo1 s) (woE (wo1 s))) 30 12 (nI (nn t 0)) 0 9) (mcC (mnO (mc3 (mbl t)) 116 (nn t 0) 0 9) 0) := S1.cr (by rw [mcC_o (by decide)]) (by rw [mcC_o (by decide)]) (by rw [mcC_o (by decide)]) (by rw [mcC_o (by decide)]) (mcC_o (by decide))
  refine ⟨S9.yfin, fun z => ?_⟩
  have z1 := msg_5 S9.1 (by decide) z
  rw [mcC_o (by decide)] at z1
  obtain ⟨w0, v0, l0, u0⟩ := V1 z1
  have e7 : msg (mcC (mnO (mc3 (mbl t)) 116 (nn t 0) 0 9) 0) 59 111 7 = nI (a + 1) := by
    rw [msg_k (by decide) (by decide) (by decide), mcC_o (by decide), mnO_f (by omega), mnS_7, mc3_7, mbl_k (by decide), h7, nI_s]
  refine ⟨DR_0 (v0 := mnV (mc3 (mbl t)) 0 9) hD hne (by rw [e7, h7, nI_s]) (by rw [h7, i_nI (by omega)]; omega) ?_ ?_ ?_ ?_ ?_ ?_ ?_, ha, e7⟩
  · rw [rc3_29 (by decide), tkR_o (by decide), fX 29 (by decide) (by decide)]
  · rw [msg_o (by decide), mcC_r z1, fY 114 (by decide) (by omega)]
  · intro q b1 b2 b3 y0
    rw [rc3_o b3, tkR_o (by omega)]; exact fX q (by omega) y0
  · intro q b1 b2 b3
    rw [msg_o b1, mcC_o b2]; exact fY q b1 b3
  · rw [rc3_o (by decide), tkR_o (by decide), gX0, v0]
  · rw [msg_o (by omega), mcC_o (by omega), gY0]
  · exact ⟨le9 l0 (show (0 : Int32).toInt = 0 from rfl) rfl, le9 u0 rfl (show (9 : Int32).toInt = 9 from rfl)⟩
theorem cl_1 {s t : St} {a : Nat} (h : SY s t) (h5 : t 111 5 = 0) (hD : DR s t) (ha : a < 60) (h7 : t 111 7 = nI a) (hne : ¬ t 114 1 = 6) : CLK s t (rc3 (tkR (rc2 (mvt (wo1 s) (woE (wo1 s))) (nI 1)) 59) (nI 1)) (mcE (mbl t) (mcB2 137 1) (fun u => mcC u 1)) a := by
  obtain ⟨ei, h0⟩ := cl_ix hD (k := 1) (by decide)
  have hw := hD.1
  have cn := hD.2.1
  have S0 := cl_beg h h5
  have hn : nn t 1 < 6 := by
    have w2 := hw; unfold rtW at w2; unfold nn
    by_cases z : (t 114 1).toInt < 6
    · omega
    · exact absurd (Int32.toInt_inj.mp (by rw [show (6 : Int32).toInt = 6 from rfl]; omega)) hne
  have w0 : 0 ≤ (t 114 0).toInt ∧ (t 114 0).toInt ≤ 12 := hw.1
  have em : (t 114 0 - 1).toInt = (t 114 0).toInt - 1 := i_sub rfl rfl (by omega) (by omega)
  have e29 : rg (mvt (wo1 s) (woE (wo1 s)) 29) 6 0 = t 114 0 := by rw [show (0 : Int32) = nI 0 from rfl, rg_nI (by decide) (by decide), wo_oo (by decide)]; exact cn 0 (by decide)
  have eX : rc2 (mvt (wo1 s) (woE (wo1 s))) (nI 1) = (rn1 (rn1 (mvt (wo1 s) (woE (wo1 s))) 32 6 (nI (nn t 1)) 0 (t 114 0 - 1)) 34 6 (nI (nn t 1)) 1 9) := by
    unfold rc2; rw [ei]
    show rl2 _ 32 34 6 _ = _
    unfold rl2; rw [e29]
  have eN : nn (mc3 (mbl t)) 1 = nn t 1 := by unfold nn; rw [mc3_oo (by decide)]
  have eY : (mcB2 137 1) (mc3 (mbl t)) = (mnO (mnO (mc3 (mbl t)) (137 + nn t 1) 0 0 (t 114 0 - 1)) (137 + nn t 1) 1 1 9) := by unfold mcB2; rw [eN, mc3_oo (show 114 ≠ 111 by decide)]
  rw [mcE_1 (by rw [mbl_k (by decide)]; exact h5), eX, eY]
  obtain ⟨S1, V1⟩ := S0.yn (row := 32) (n := 6) (o := (137 + nn t 1)) (k := 0) (idx := nI (nn t 1)) (lo := 0) (hi := (t 114 0 - 1)) (by decide) (by rw [em]; omega) (by decide) (by omega)
  obtain ⟨S2, V2⟩ := S1.yn (row := 34) (n := 6) (o := (137 + nn t 1)) (k := 1) (idx := nI (nn t 1)) (lo := 1) (hi := 9) (by decide) (by decide) (by decide) (by omega)
  have fX : ∀ q, q ≠ 1 → q ≠ 33 → q ≠ 35 → (rn1 (rn1 (mvt (wo1 s) (woE (wo1 s))) 32 6 (nI (nn t 1)) 0 (t 114 0 - 1)) 34 6 (nI (nn t 1)) 1 9) q = s q := fun q z1 y0 y1 => by rw [rn1_o z1 y1, rn1_o z1 y0]; exact wo_oo z1
  have fY : ∀ q, q ≠ 111 → q ≠ (137 + nn t 1) → (mnO (mnO (mc3 (mbl t)) (137 + nn t 1) 0 0 (t 114 0 - 1)) (137 + nn t 1) 1 1 9) q = t q := fun q z1 z2 => by rw [mnO_o z1 z2, mnO_o z1 z2]; exact mc3_oo z1
  have gX0 : (rn1 (rn1 (mvt (wo1 s) (woE (wo1 s))) 32 6 (nI (nn t 1)) 0 (t 114 0 - 1)) 34 6 (nI (nn t 1)) 1 9) 33 = upd (s 33) (nn t 1) (nuV (nu1 (mvt (wo1 s) (woE (wo1 s))))) := by
    rw [rn1_o (by decide) (by decide), show (33 : Nat) = 32 + 1 from rfl, rn1_r (by omega) (by decide) (by decide)]
    rw [show (32 + 1 : Nat) = 33 from rfl, wo_oo (by decide)]
  have gY0 : (mnO (mnO (mc3 (mbl t)) (137 + nn t 1) 0 0 (t 114 0 - 1)) (137 + nn t 1) 1 1 9) (137 + nn t 1) 0 = mnV (mc3 (mbl t)) 0 (t 114 0 - 1) := by rw [mnO_r (by omega), ud_k (by decide), mnO_r (by omega), ud_r]
  have gX1 : (rn1 (rn1 (mvt (wo1 s) (woE (wo1 s))) 32 6 (nI (nn t 1)) 0 (t 114 0 - 1)) 34 6 (nI (nn t 1)) 1 9) 35 = upd (s 35) (nn t 1) (nuV (nu1 (rn1 (mvt (wo1 s) (woE (wo1 s))) 32 6 (nI (nn t 1)) 0 (t 114 0 - 1)))) := by
    rw [show (35 : Nat) = 34 + 1 from rfl, rn1_r (by omega) (by decide) (by decide)]
    rw [show (34 + 1 : Nat) = 35 from rfl, rn1_o (by decide) (by decide), wo_oo (by decide)]
  have gY1 : (mnO (mnO (mc3 (mbl t)) (137 + nn t 1) 0 0 (t 114 0 - 1)) (137 + nn t 1) 1 1 9) (137 + nn t 1) 1 = mnV (mnO (mc3 (mbl t)) (137 + nn t 1) 0 0 (t 114 0 - 1)) 1 9 := by rw [mnO_r (by omega), ud_r]
  have S9 : SY (rn1 (rn1 (mvt (wo1 s) (woE (wo1 s))) 32 6 (nI (nn t 1)) 0 (t 114 0 - 1)) 34 6 (nI (nn t 1)) 1 9) (mcC (mnO (mnO (mc3 (mbl t)) (137 + nn t 1) 0 0 (t 114 0 - 1)) (137 + nn t 1) 1 1 9) 1) := S2.cr (by rw [mcC_o (by decide)]) (by rw [mcC_o (by decide)]) (by rw [mcC_o (by decide)]) (by rw [mcC_o (by decide)]) (mcC_o (by decide))
  refine ⟨S9.yfin, fun z => ?_⟩
  have z1 := msg_5 S9.1 (by decide) z
  rw [mcC_o (by decide)] at z1
  obtain ⟨w1, v1, l1, u1⟩ := V2 z1
  obtain ⟨w0, v0, l0, u0⟩ := V1 w1
  have e7 : msg (mcC (mnO (mnO (mc3 (mbl t)) (137 + nn t 1) 0 0 (t 114 0 - 1)) (137 + nn t 1) 1 1 9) 1) 59 111 7 = nI (a + 1) := by
    rw [msg_k (by decide) (by decide) (by decide), mcC_o (by decide), mnO_f (by omega), mnS_7, mnO_f (by omega), mnS_7, mc3_7, mbl_k (by decide), h7, nI_s]
  refine ⟨DR_1 (v0 := mnV (mc3 (mbl t)) 0 (t 114 0 - 1)) (v1 := mnV (mnO (mc3 (mbl t)) (137 + nn t 1) 0 0 (t 114 0 - 1)) 1 9) hD hne (by rw [e7, h7, nI_s]) (by rw [h7, i_nI (by omega)]; omega) ?_ ?_ ?_ ?_ ?_ ?_ ?_ ?_ ?_ ?_, ha, e7⟩
  · rw [rc3_29 (by decide), tkR_o (by decide), fX 29 (by decide) (by decide) (by decide)]
  · rw [msg_o (by decide), mcC_r z1, fY 114 (by decide) (by omega)]
  · intro q b1 b2 b3 y0 y1
    rw [rc3_o b3, tkR_o (by omega)]; exact fX q (by omega) y0 y1
  · intro q b1 b2 b3
    rw [msg_o b1, mcC_o b2]; exact fY q b1 b3
  · rw [rc3_o (by decide), tkR_o (by decide), gX0, v0]
  · rw [msg_o (by omega), mcC_o (by omega), gY0]
  · exact ⟨le9 l0 (show (0 : Int32).toInt = 0 from rfl) rfl, by have := le9 u0 rfl em; omega⟩
  · rw [rc3_o (by decide), tkR_o (by decide), gX1, v1]
  · rw [msg_o (by omega), mcC_o (by omega), gY1]
  · exact ⟨le9 l1 (show (1 : Int32).toInt = 1 from rfl) rfl, le9 u1 rfl (show (9 : Int32).toInt = 9 from rfl)⟩
theorem cl_2 {s t : St} {a : Nat} (h : SY s t) (h5 : t 111 5 = 0) (hD : DR s t) (ha : a < 60) (h7 : t 111 7 = nI a) (hne : ¬ t 114 2 = 3) : CLK s t (rc3 (tkR (rc2 (mvt (wo1 s) (woE (wo1 s))) (nI 2)) 59) (nI 2)) (mcE (mbl t) (mcB2 149 2) (fun u => mcC u 2)) a := by
  obtain ⟨ei, h0⟩ := cl_ix hD (k := 2) (by decide)
  have hw := hD.1
  have cn := hD.2.1
  have S0 := cl_beg h h5
  have hn : nn t 2 < 3 := by
    have w2 := hw; unfold rtW at w2; unfold nn
    by_cases z : (t 114 2).toInt < 3
    · omega
    · exact absurd (Int32.toInt_inj.mp (by rw [show (3 : Int32).toInt = 3 from rfl]; omega)) hne
  have w0 : 0 ≤ (t 114 0).toInt ∧ (t 114 0).toInt ≤ 12 := hw.1
  have em : (t 114 0 - 1).toInt = (t 114 0).toInt - 1 := i_sub rfl rfl (by omega) (by omega)
  have e29 : rg (mvt (wo1 s) (woE (wo1 s)) 29) 6 0 = t 114 0 := by rw [show (0 : Int32) = nI 0 from rfl, rg_nI (by decide) (by decide), wo_oo (by decide)]; exact cn 0 (by decide)
  have eX : rc2 (mvt (wo1 s) (woE (wo1 s))) (nI 2) = (rn1 (rn1 (mvt (wo1 s) (woE (wo1 s))) 36 3 (nI (nn t 2)) 0 (t 114 0 - 1)) 38 3 (nI (nn t 2)) 1 9) := by
    unfold rc2; rw [ei]
    show rl2 _ 36 38 3 _ = _
    unfold rl2; rw [e29]
  have eN : nn (mc3 (mbl t)) 2 = nn t 2 := by unfold nn; rw [mc3_oo (by decide)]
  have eY : (mcB2 149 2) (mc3 (mbl t)) = (mnO (mnO (mc3 (mbl t)) (149 + nn t 2) 0 0 (t 114 0 - 1)) (149 + nn t 2) 1 1 9) := by unfold mcB2; rw [eN, mc3_oo (show 114 ≠ 111 by decide)]
  rw [mcE_1 (by rw [mbl_k (by decide)]; exact h5), eX, eY]
  obtain ⟨S1, V1⟩ := S0.yn (row := 36) (n := 3) (o := (149 + nn t 2)) (k := 0) (idx := nI (nn t 2)) (lo := 0) (hi := (t 114 0 - 1)) (by decide) (by rw [em]; omega) (by decide) (by omega)
  obtain ⟨S2, V2⟩ := S1.yn (row := 38) (n := 3) (o := (149 + nn t 2)) (k := 1) (idx := nI (nn t 2)) (lo := 1) (hi := 9) (by decide) (by decide) (by decide) (by omega)
  have fX : ∀ q, q ≠ 1 → q ≠ 37 → q ≠ 39 → (rn1 (rn1 (mvt (wo1 s) (woE (wo1 s))) 36 3 (nI (nn t 2)) 0 (t 114 0 - 1)) 38 3 (nI (nn t 2)) 1 9) q = s q := fun q z1 y0 y1 => by rw [rn1_o z1 y1, rn1_o z1 y0]; exact wo_oo z1
  have fY : ∀ q, q ≠ 111 → q ≠ (149 + nn t 2) → (mnO (mnO (mc3 (mbl t)) (149 + nn t 2) 0 0 (t 114 0 - 1)) (149 + nn t 2) 1 1 9) q = t q := fun q z1 z2 => by rw [mnO_o z1 z2, mnO_o z1 z2]; exact mc3_oo z1
  have gX0 : (rn1 (rn1 (mvt (wo1 s) (woE (wo1 s))) 36 3 (nI (nn t 2)) 0 (t 114 0 - 1)) 38 3 (nI (nn t 2)) 1 9) 37 = upd (s 37) (nn t 2) (nuV (nu1 (mvt (wo1 s) (woE (wo1 s))))) := by
    rw [rn1_o (by decide) (by decide), show (37 : Nat) = 36 + 1 from rfl, rn1_r (by omega) (by decide) (by decide)]
    rw [show (36 + 1 : Nat) = 37 from rfl, wo_oo (by decide)]
  have gY0 : (mnO (mnO (mc3 (mbl t)) (149 + nn t 2) 0 0 (t 114 0 - 1)) (149 + nn t 2) 1 1 9) (149 + nn t 2) 0 = mnV (mc3 (mbl t)) 0 (t 114 0 - 1) := by rw [mnO_r (by omega), ud_k (by decide), mnO_r (by omega), ud_r]
  have gX1 : (rn1 (rn1 (mvt (wo1 s) (woE (wo1 s))) 36 3 (nI (nn t 2)) 0 (t 114 0 - 1)) 38 3 (nI (nn t 2)) 1 9) 39 = upd (s 39) (nn t 2) (nuV (nu1 (rn1 (mvt (wo1 s) (woE (wo1 s))) 36 3 (nI (nn t 2)) 0 (t 114 0 - 1)))) := by
    rw [show (39 : Nat) = 38 + 1 from rfl, rn1_r (by omega) (by decide) (by decide)]
    rw [show (38 + 1 : Nat) = 39 from rfl, rn1_o (by decide) (by decide), wo_oo (by decide)]
  have gY1 : (mnO (mnO (mc3 (mbl t)) (149 + nn t 2) 0 0 (t 114 0 - 1)) (149 + nn t 2) 1 1 9) (149 + nn t 2) 1 = mnV (mnO (mc3 (mbl t)) (149 + nn t 2) 0 0 (t 114 0 - 1)) 1 9 := by rw [mnO_r (by omega), ud_r]
  have S9 : SY (rn1 (rn1 (mvt (wo1 s) (woE (wo1 s))) 36 3 (nI (nn t 2)) 0 (t 114 0 - 1)) 38 3 (nI (nn t 2)) 1 9) (mcC (mnO (mnO (mc3 (mbl t)) (149 + nn t 2) 0 0 (t 114 0 - 1)) (149 + nn t 2) 1 1 9) 2) := S2.cr (by rw [mcC_o (by decide)]) (by rw [mcC_o (by decide)]) (by rw [mcC_o (by decide)]) (by rw [mcC_o (by decide)]) (mcC_o (by decide))
  refine ⟨S9.yfin, fun z => ?_⟩
  have z1 := msg_5 S9.1 (by decide) z
  rw [mcC_o (by decide)] at z1
  obtain ⟨w1, v1, l1, u1⟩ := V2 z1
  obtain ⟨w0, v0, l0, u0⟩ := V1 w1
  have e7 : msg (mcC (mnO (mnO (mc3 (mbl t)) (149 + nn t 2) 0 0 (t 114 0 - 1)) (149 + nn t 2) 1 1 9) 2) 59 111 7 = nI (a + 1) := by
    rw [msg_k (by decide) (by decide) (by decide), mcC_o (by decide), mnO_f (by omega), mnS_7, mnO_f (by omega), mnS_7, mc3_7, mbl_k (by decide), h7, nI_s]
  refine ⟨DR_2 (v0 := mnV (mc3 (mbl t)) 0 (t 114 0 - 1)) (v1 := mnV (mnO (mc3 (mbl t)) (149 + nn t 2) 0 0 (t 114 0 - 1)) 1 9) hD hne (by rw [e7, h7, nI_s]) (by rw [h7, i_nI (by omega)]; omega) ?_ ?_ ?_ ?_ ?_ ?_ ?_ ?_ ?_ ?_ ?_, ha, e7⟩
  · rw [rc3_29 (by decide), tkR_o (by decide), fX 29 (by decide) (by decide) (by decide)]
  · rw [msg_o (by decide), mcC_r z1, fY 114 (by decide) (by omega)]
  · intro q b1 b2 b3 y0 y1
    rw [rc3_o b3, tkR_o (by omega)]; exact fX q (by omega) y0 y1
  · intro q b1 b2 b3
    rw [msg_o b1, mcC_o b2]; exact fY q b1 b3
  · rw [rc3_o (by decide), tkR_o (by decide), gX0, v0]
  · rw [msg_o (by omega), mcC_o (by omega), gY0]
  · exact ⟨le9 l0 (show (0 : Int32).toInt = 0 from rfl) rfl, by have := le9 u0 rfl em; omega⟩
  · rw [rc3_o (by decide), tkR_o (by decide), gX1, v1]
  · rw [msg_o (by omega), mcC_o (by omega), gY1]
  · exact ⟨le9 l1 (show (1 : Int32).toInt = 1 from rfl) rfl, le9 u1 rfl (show (9 : Int32).toInt = 9 from rfl)⟩
  · have q1 := le9 l0 (show (0 : Int32).toInt = 0 from rfl) rfl
    have q2 := le9 u0 rfl em
    unfold nn; omega
theorem cl_3 {s t : St} {a : Nat} (h : SY s t) (h5 : t 111 5 = 0) (hD : DR s t) (ha : a < 60) (h7 : t 111 7 = nI a) (hne : ¬ t 114 3 = 6) : CLK s t (rc3 (tkR (rc2 (mvt (wo1 s) (woE (wo1 s))) (nI 3)) 59) (nI 3)) (mcE (mbl t) mcB3 (fun u => mcC u 3)) a := by
  obtain ⟨ei, h0⟩ := cl_ix hD (k := 3) (by decide)
  have hw := hD.1
  have cn := hD.2.1
  have S0 := cl_beg h h5
  have hn : nn t 3 < 6 := by
    have w2 := hw; unfold rtW at w2; unfold nn
    by_cases z : (t 114 3).toInt < 6
    · omega
    · exact absurd (Int32.toInt_inj.mp (by rw [show (6 : Int32).toInt = 6 from rfl]; omega)) hne
  have eX : rc2 (mvt (wo1 s) (woE (wo1 s))) (nI 3) = (rn1 (rn1 (rn1 (rn1 (mvt (wo1 s) (woE (wo1 s))) 40 6 (nI (nn t 3)) 0 40) 42 6 (nI (nn t 3)) 0 9) 44 6 (nI (nn t 3)) 0 9) 46 6 (nI (nn t 3)) 0 9) := by
    unfold rc2; rw [ei]
    rfl
  have eN : nn (mc3 (mbl t)) 3 = nn t 3 := by unfold nn; rw [mc3_oo (by decide)]
  have eY : mcB3 (mc3 (mbl t)) = (mnO (mnO (mnO (mnO (mc3 (mbl t)) (155 + nn t 3) 0 0 40) (155 + nn t 3) 1 0 9) (155 + nn t 3) 2 0 9) (155 + nn t 3) 3 0 9) := by unfold mcB3; rw [eN]
  rw [mcE_1 (by rw [mbl_k (by decide)]; exact h5), eX, eY]
  obtain ⟨S1, V1⟩ := S0.yn (row := 40) (n := 6) (o := (155 + nn t 3)) (k := 0) (idx := nI (nn t 3)) (lo := 0) (hi := 40) (by decide) (by decide) (by decide) (by omega)
  obtain ⟨S2, V2⟩ := S1.yn (row := 42) (n := 6) (o := (155 + nn t 3)) (k := 1) (idx := nI (nn t 3)) (lo := 0) (hi := 9) (by decide) (by decide) (by decide) (by omega)
  obtain ⟨S3, V3⟩ := S2.yn (row := 44) (n := 6) (o := (155 + nn t 3)) (k := 2) (idx := nI (nn t 3)) (lo := 0) (hi := 9) (by decide) (by decide) (by decide) (by omega)
  obtain ⟨S4, V4⟩ := S3.yn (row := 46) (n := 6) (o := (155 + nn t 3)) (k := 3) (idx := nI (nn t 3)) (lo := 0) (hi := 9) (by decide) (by decide) (by decide) (by omega)
  have fX : ∀ q, q ≠ 1 → q ≠ 41 → q ≠ 43 → q ≠ 45 → q ≠ 47 → (rn1 (rn1 (rn1 (rn1 (mvt (wo1 s) (woE (wo1 s))) 40 6 (nI (nn t 3)) 0 40) 42 6 (nI (nn t 3)) 0 9) 44 6 (nI (nn t 3)) 0 9) 46 6 (nI (nn t 3)) 0 9) q = s q := fun q z1 y0 y1 y2 y3 => by rw [rn1_o z1 y3, rn1_o z1 y2, rn1_o z1 y1, rn1_o z1 y0]; exact wo_oo z1
  have fY : ∀ q, q ≠ 111 → q ≠ (155 + nn t 3) → (mnO (mnO (mnO (mnO (mc3 (mbl t)) (155 + nn t 3) 0 0 40) (155 + nn t 3) 1 0 9) (155 + nn t 3) 2 0 9) (155 + nn t 3) 3 0 9) q = t q := fun q z1 z2 => by rw [mnO_o z1 z2, mnO_o z1 z2, mnO_o z1 z2, mnO_o z1 z2]; exact mc3_oo z1
  have gX0 : (rn1 (rn1 (rn1 (rn1 (mvt (wo1 s) (woE (wo1 s))) 40 6 (nI (nn t 3)) 0 40) 42 6 (nI (nn t 3)) 0 9) 44 6 (nI (nn t 3)) 0 9) 46 6 (nI (nn t 3)) 0 9) 41 = upd (s 41) (nn t 3) (nuV (nu1 (mvt (wo1 s) (woE (wo1 s))))) := by
    rw [rn1_o (by decide) (by decide), rn1_o (by decide) (by decide), rn1_o (by decide) (by decide), show (41 : Nat) = 40 + 1 from rfl, rn1_r (by omega) (by decide) (by decide)]
    rw [show (40 + 1 : Nat) = 41 from rfl, wo_oo (by decide)]
  have gY0 : (mnO (mnO (mnO (mnO (mc3 (mbl t)) (155 + nn t 3) 0 0 40) (155 + nn t 3) 1 0 9) (155 + nn t 3) 2 0 9) (155 + nn t 3) 3 0 9) (155 + nn t 3) 0 = mnV (mc3 (mbl t)) 0 40 := by rw [mnO_r (by omega), ud_k (by decide), mnO_r (by omega), ud_k (by decide), mnO_r (by omega), ud_k (by decide), mnO_r (by omega), ud_r]
  have gX1 : (rn1 (rn1 (rn1 (rn1 (mvt (wo1 s) (woE (wo1 s))) 40 6 (nI (nn t 3)) 0 40) 42 6 (nI (nn t 3)) 0 9) 44 6 (nI (nn t 3)) 0 9) 46 6 (nI (nn t 3)) 0 9) 43 = upd (s 43) (nn t 3) (nuV (nu1 (rn1 (mvt (wo1 s) (woE (wo1 s))) 40 6 (nI (nn t 3)) 0 40))) := by
    rw [rn1_o (by decide) (by decide), rn1_o (by decide) (by decide), show (43 : Nat) = 42 + 1 from rfl, rn1_r (by omega) (by decide) (by decide)]
    rw [show (42 + 1 : Nat) = 43 from rfl, rn1_o (by decide) (by decide), wo_oo (by decide)]
  have gY1 : (mnO (mnO (mnO (mnO (mc3 (mbl t)) (155 + nn t 3) 0 0 40) (155 + nn t 3) 1 0 9) (155 + nn t 3) 2 0 9) (155 + nn t 3) 3 0 9) (155 + nn t 3) 1 = mnV (mnO (mc3 (mbl t)) (155 + nn t 3) 0 0 40) 0 9 := by rw [mnO_r (by omega), ud_k (by decide), mnO_r (by omega), ud_k (by decide), mnO_r (by omega), ud_r]
  have gX2 : (rn1 (rn1 (rn1 (rn1 (mvt (wo1 s) (woE (wo1 s))) 40 6 (nI (nn t 3)) 0 40) 42 6 (nI (nn t 3)) 0 9) 44 6 (nI (nn t 3)) 0 9) 46 6 (nI (nn t 3)) 0 9) 45 = upd (s 45) (nn t 3) (nuV (nu1 (rn1 (rn1 (mvt (wo1 s) (woE (wo1 s))) 40 6 (nI (nn t 3)) 0 40) 42 6 (nI (nn t 3)) 0 9))) := by
    rw [rn1_o (by decide) (by decide), show (45 : Nat) = 44 + 1 from rfl, rn1_r (by omega) (by decide) (by decide)]
    rw [show (44 + 1 : Nat) = 45 from rfl, rn1_o (by decide) (by decide), rn1_o (by decide) (by decide), wo_oo (by decide)]
  have gY2 : (mnO (mnO (mnO (mnO (mc3 (mbl t)) (155 + nn t 3) 0 0 40) (155 + nn t 3) 1 0 9) (155 + nn t 3) 2 0 9) (155 + nn t 3) 3 0 9) (155 + nn t 3) 2 = mnV (mnO (mnO (mc3 (mbl t)) (155 + nn t 3) 0 0 40) (155 + nn t 3) 1 0 9) 0 9 := by rw [mnO_r (by omega), ud_k (by decide), mnO_r (by omega), ud_r]
  have gX3 : (rn1 (rn1 (rn1 (rn1 (mvt (wo1 s) (woE (wo1 s))) 40 6 (nI (nn t 3)) 0 40) 42 6 (nI (nn t 3)) 0 9) 44 6 (nI (nn t 3)) 0 9) 46 6 (nI (nn t 3)) 0 9) 47 = upd (s 47) (nn t 3) (nuV (nu1 (rn1 (rn1 (rn1 (mvt (wo1 s) (woE (wo1 s))) 40 6 (nI (nn t 3)) 0 40) 42 6 (nI (nn t 3)) 0 9) 44 6 (nI (nn t 3)) 0 9))) := by
    rw [show (47 : Nat) = 46 + 1 from rfl, rn1_r (by omega) (by decide) (by decide)]
    rw [show (46 + 1 : Nat) = 47 from rfl, rn1_o (by decide) (by decide), rn1_o (by decide) (by decide), rn1_o (by decide) (by decide), wo_oo (by decide)]
  have gY3 : (mnO (mnO (mnO (mnO (mc3 (mbl t)) (155 + nn t 3) 0 0 40) (155 + nn t 3) 1 0 9) (155 + nn t 3) 2 0 9) (155 + nn t 3) 3 0 9) (155 + nn t 3) 3 = mnV (mnO (mnO (mnO (mc3 (mbl t)) (155 + nn t 3) 0 0 40) (155 + nn t 3) 1 0 9) (155 + nn t 3) 2 0 9) 0 9 := by rw [mnO_r (by omega), ud_r]
  have S9 : SY (rn1 (rn1 (rn1 (rn1 (mvt (wo1 s) (woE (wo1 s))) 40 6 (nI (nn t 3)) 0 40) 42 6 (nI (nn t 3)) 0 9) 44 6 (nI (nn t 3)) 0 9) 46 6 (nI (nn t 3)) 0 9) (mcC (mnO (mnO (mnO (mnO (mc3 (mbl t)) (155 + nn t 3) 0 0 40) (155 + nn t 3) 1 0 9) (155 + nn t 3) 2 0 9) (155 + nn t 3) 3 0 9) 3) := S4.cr (by rw [mcC_o (by decide)]) (by rw [mcC_o (by decide)]) (by rw [mcC_o (by decide)]) (by rw [mcC_o (by decide)]) (mcC_o (by decide))
  refine ⟨S9.yfin, fun z => ?_⟩
  have z1 := msg_5 S9.1 (by decide) z
  rw [mcC_o (by decide)] at z1
  obtain ⟨w3, v3, l3, u3⟩ := V4 z1
  obtain ⟨w2, v2, l2, u2⟩ := V3 w3
  obtain ⟨w1, v1, l1, u1⟩ := V2 w2
  obtain ⟨w0, v0, l0, u0⟩ := V1 w1
  have e7 : msg (mcC (mnO (mnO (mnO (mnO (mc3 (mbl t)) (155 + nn t 3) 0 0 40) (155 + nn t 3) 1 0 9) (155 + nn t 3) 2 0 9) (155 + nn t 3) 3 0 9) 3) 59 111 7 = nI (a + 1) := by
    rw [msg_k (by decide) (by decide) (by decide), mcC_o (by decide), mnO_f (by omega), mnS_7, mnO_f (by omega), mnS_7, mnO_f (by omega), mnS_7, mnO_f (by omega), mnS_7, mc3_7, mbl_k (by decide), h7, nI_s]
  refine ⟨DR_3 (v0 := mnV (mc3 (mbl t)) 0 40) (v1 := mnV (mnO (mc3 (mbl t)) (155 + nn t 3) 0 0 40) 0 9) (v2 := mnV (mnO (mnO (mc3 (mbl t)) (155 + nn t 3) 0 0 40) (155 + nn t 3) 1 0 9) 0 9) (v3 := mnV (mnO (mnO (mnO (mc3 (mbl t)) (155 + nn t 3) 0 0 40) (155 + nn t 3) 1 0 9) (155 + nn t 3) 2 0 9) 0 9) hD hne (by rw [e7, h7, nI_s]) (by rw [h7, i_nI (by omega)]; omega) ?_ ?_ ?_ ?_ ?_ ?_ ?_ ?_ ?_ ?_ ?_ ?_ ?_ ?_ ?_ ?_, ha, e7⟩
  · rw [rc3_29 (by decide), tkR_o (by decide), fX 29 (by decide) (by decide) (by decide) (by decide) (by decide)]
  · rw [msg_o (by decide), mcC_r z1, fY 114 (by decide) (by omega)]
  · intro q b1 b2 b3 y0 y1 y2 y3
    rw [rc3_o b3, tkR_o (by omega)]; exact fX q (by omega) y0 y1 y2 y3
  · intro q b1 b2 b3
    rw [msg_o b1, mcC_o b2]; exact fY q b1 b3
  · rw [rc3_o (by decide), tkR_o (by decide), gX0, v0]
  · rw [msg_o (by omega), mcC_o (by omega), gY0]
  · exact ⟨le9 l0 (show (0 : Int32).toInt = 0 from rfl) rfl, le9 u0 rfl (show (40 : Int32).toInt = 40 from rfl)⟩
  · rw [rc3_o (by decide), tkR_o (by decide), gX1, v1]
  · rw [msg_o (by omega), mcC_o (by omega), gY1]
  · exact ⟨le9 l1 (show (0 : Int32).toInt = 0 from rfl) rfl, le9 u1 rfl (show (9 : Int32).toInt = 9 from rfl)⟩
  · rw [rc3_o (by decide), tkR_o (by decide), gX2, v2]
  · rw [msg_o (by omega), mcC_o (by omega), gY2]
  · exact ⟨le9 l2 (show (0 : Int32).toInt = 0 from rfl) rfl, le9 u2 rfl (show (9 : Int32).toInt = 9 from rfl)⟩
  · rw [rc3_o (by decide), tkR_o (by decide), gX3, v3]
  · rw [msg_o (by omega), mcC_o (by omega), gY3]
  · exact ⟨le9 l3 (show (0 : Int32).toInt = 0 from rfl) rfl, le9 u3 rfl (show (9 : Int32).toInt = 9 from rfl)⟩
theorem cl_4 {s t : St} {a : Nat} (h : SY s t) (h5 : t 111 5 = 0) (hD : DR s t) (ha : a < 60) (h7 : t 111 7 = nI a) (hne : ¬ t 114 4 = 6) : CLK s t (rc3 (tkR (rc2 (mvt (wo1 s) (woE (wo1 s))) (nI 4)) 59) (nI 4)) (mcE (mbl t) mcB4 (fun u => mcC u 4)) a := by
  obtain ⟨ei, h0⟩ := cl_ix hD (k := 4) (by decide)
  have hw := hD.1
  have cn := hD.2.1
  have S0 := cl_beg h h5
  have hn : nn t 4 < 6 := by
    have w2 := hw; unfold rtW at w2; unfold nn
    by_cases z : (t 114 4).toInt < 6
    · omega
    · exact absurd (Int32.toInt_inj.mp (by rw [show (6 : Int32).toInt = 6 from rfl]; omega)) hne
  have eX : rc2 (mvt (wo1 s) (woE (wo1 s))) (nI 4) = (rn1 (mvt (wo1 s) (woE (wo1 s))) 48 6 (nI (nn t 4)) 1 9) := by
    unfold rc2; rw [ei]
    rfl
  have eN : nn (mc3 (mbl t)) 4 = nn t 4 := by unfold nn; rw [mc3_oo (by decide)]
  have eY : mcB4 (mc3 (mbl t)) = (mnO (mc3 (mbl t)) 118 (nn t 4) 1 9) := by unfold mcB4; rw [eN]
  rw [mcE_1 (by rw [mbl_k (by decide)]; exact h5), eX, eY]
  obtain ⟨S1, V1⟩ := S0.yn (row := 48) (n := 6) (o := 118) (k := (nn t 4)) (idx := nI (nn t 4)) (lo := 1) (hi := 9) (by decide) (by decide) (by decide) (by omega)
  have fX : ∀ q, q ≠ 1 → q ≠ 49 → (rn1 (mvt (wo1 s) (woE (wo1 s))) 48 6 (nI (nn t 4)) 1 9) q = s q := fun q z1 y0 => by rw [rn1_o z1 y0]; exact wo_oo z1
  have fY : ∀ q, q ≠ 111 → q ≠ 118 → (mnO (mc3 (mbl t)) 118 (nn t 4) 1 9) q = t q := fun q z1 z2 => by rw [mnO_o z1 z2]; exact mc3_oo z1
  have gX0 : (rn1 (mvt (wo1 s) (woE (wo1 s))) 48 6 (nI (nn t 4)) 1 9) 49 = upd (s 49) (nn t 4) (nuV (nu1 (mvt (wo1 s) (woE (wo1 s))))) := by
    rw [show (49 : Nat) = 48 + 1 from rfl, rn1_r (by omega) (by decide) (by decide)]
    rw [show (48 + 1 : Nat) = 49 from rfl, wo_oo (by decide)]
  have gY0 : (mnO (mc3 (mbl t)) 118 (nn t 4) 1 9) 118 = upd (t 118) (nn t 4) (mnV (mc3 (mbl t)) 1 9) := by rw [mnO_r (by decide), mc3_oo (by decide)]
  have S9 : SY (rn1 (mvt (wo1 s) (woE (wo1 s))) 48 6 (nI (nn t 4)) 1 9) (mcC (mnO (mc3 (mbl t)) 118 (nn t 4) 1 9) 4) := S1.cr (by rw [mcC_o (by decide)]) (by rw [mcC_o (by decide)]) (by rw [mcC_o (by decide)]) (by rw [mcC_o (by decide)]) (mcC_o (by decide))
  refine ⟨S9.yfin, fun z => ?_⟩
  have z1 := msg_5 S9.1 (by decide) z
  rw [mcC_o (by decide)] at z1
  obtain ⟨w0, v0, l0, u0⟩ := V1 z1
  have e7 : msg (mcC (mnO (mc3 (mbl t)) 118 (nn t 4) 1 9) 4) 59 111 7 = nI (a + 1) := by
    rw [msg_k (by decide) (by decide) (by decide), mcC_o (by decide), mnO_f (by omega), mnS_7, mc3_7, mbl_k (by decide), h7, nI_s]
  refine ⟨DR_4 (v0 := mnV (mc3 (mbl t)) 1 9) hD hne (by rw [e7, h7, nI_s]) (by rw [h7, i_nI (by omega)]; omega) ?_ ?_ ?_ ?_ ?_ ?_ ?_, ha, e7⟩
  · rw [rc3_29 (by decide), tkR_o (by decide), fX 29 (by decide) (by decide)]
  · rw [msg_o (by decide), mcC_r z1, fY 114 (by decide) (by omega)]
  · intro q b1 b2 b3 y0
    rw [rc3_o b3, tkR_o (by omega)]; exact fX q (by omega) y0
  · intro q b1 b2 b3
    rw [msg_o b1, mcC_o b2]; exact fY q b1 b3
  · rw [rc3_o (by decide), tkR_o (by decide), gX0, v0]
  · rw [msg_o (by omega), mcC_o (by omega), gY0]
  · exact ⟨le9 l0 (show (1 : Int32).toInt = 1 from rfl) rfl, le9 u0 rfl (show (9 : Int32).toInt = 9 from rfl)⟩
theorem cl_5 {s t : St} {a : Nat} (h : SY s t) (h5 : t 111 5 = 0) (hD : DR s t) (ha : a < 60) (h7 : t 111 7 = nI a) : CLK s t (rc3 (tkR (rc2 (mvt (wo1 s) (woE (wo1 s))) (nI 5)) 59) (nI 5)) (mcE (mbl t) mcB5 id) a := by
  have S0 := cl_beg h h5
  have eX : rc2 (mvt (wo1 s) (woE (wo1 s))) (nI 5) = rsi (mvt (wo1 s) (woE (wo1 s))) := rfl
  rw [mcE_1 (by rw [mbl_k (by decide)]; exact h5), eX]
  obtain ⟨S1, V1⟩ := S0.ynu (lo := 0) (hi := 5) (by decide) (by decide)
  have S2 : SY (rsi (mvt (wo1 s) (woE (wo1 s)))) (mcB5 (mc3 (mbl t))) := by
    have q : SY (rsi (mvt (wo1 s) (woE (wo1 s)))) (mnS (mc3 (mbl t)) 0 5) := by
      unfold rsi; exact S1.cl (by rw [up_o (by decide)]) (by rw [up_o (by decide)]) (by rw [up_o (by decide)]) (by rw [up_o (by decide)]) (up_o (by decide))
    unfold mcB5; split
    · exact q.cr (by rw [up_o (by decide)]) (by rw [up_o (by decide)]) (by rw [up_o (by decide)]) (by rw [up_o (by decide)]) (up_o (by decide))
    · exact q
  show CLK s t _ (msg (mcB5 (mc3 (mbl t))) 59) a
  refine ⟨S2.yfin, fun z => ?_⟩
  have z1 := msg_5 S2.1 (by decide) z
  have z2 : mnS (mc3 (mbl t)) 0 5 111 5 = 0 := by
    unfold mcB5 at z1
    by_cases y : mnS (mc3 (mbl t)) 0 5 111 5 = 0
    · exact y
    · rw [if_neg y] at z1; exact z1
  have eB : mcB5 (mc3 (mbl t)) = up (mnS (mc3 (mbl t)) 0 5) 114 5 (mnV (mc3 (mbl t)) 0 5) := by unfold mcB5; exact if_pos z2
  obtain ⟨v0, l0, u0⟩ := V1 z2
  have e7 : msg (mcB5 (mc3 (mbl t))) 59 111 7 = nI (a + 1) := by
    rw [msg_k (by decide) (by decide) (by decide), eB, up_o (by decide), mnS_7, mc3_7, mbl_k (by decide), h7, nI_s]
  have fX : ∀ q, q ≠ 1 → q ≠ 27 → rsi (mvt (wo1 s) (woE (wo1 s))) q = s q := fun q z1 z2 => by unfold rsi; rw [up_o z2, nuS_o z1]; exact wo_oo z1
  refine ⟨DR_5 hD (by rw [e7, h7, nI_s]) (by rw [h7, i_nI (by omega)]; omega) ?_ ?_ ?_ ?_ ?_ (v := mnV (mc3 (mbl t)) 0 5) ?_, ha, e7⟩
  · rw [rc3_29 (by decide), tkR_o (by decide), fX 29 (by decide) (by decide)]
  · rw [msg_o (by decide), eB, up_row, mnS_o (by decide), mc3_oo (by decide)]
  · intro q b1 b2 b3
    rw [rc3_o b3, tkR_o (by omega)]; exact fX q (by omega) (by omega)
  · intro q b1 b2
    rw [msg_o b1, eB, up_o b2, mnS_o b1, mc3_oo b1]
  · rw [rc3_o (by decide), tkR_o (by decide)]; unfold rsi; rw [up_rd]; exact v0
  · exact ⟨le9 l0 (show (0 : Int32).toInt = 0 from rfl) rfl, le9 u0 rfl (show (5 : Int32).toInt = 5 from rfl)⟩
