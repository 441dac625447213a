/-! ===== LAW ===== -/
def mlw0 (σ : St) (n : Int32) : St := up (mst (t0 σ) n) 111 24 0
def mlwF (s : St) : St := if s 111 5 = 0 ∧ s 111 4 < s 111 2 then wr s 1 (s 111 4) else s
def mlwG (σ : St) (n : Int32) : St := mlwF (mbl (msN 6 (mlw0 σ n)))
def mlwH (s : St) : St := up (up s 111 3 (-1)) 111 23 (s 111 24)
def mlwS (σ : St) (n : Int32) : St := if mlwG σ n 111 5 = 0 then lay (mlwH (mlwG σ n)) 327 167 2 (ct (mlwH (mlwG σ n) 111 23)) else up (mlwG σ n) 111 3 (mlwG σ n 111 6)
def mlwV (σ : St) (n : Int32) : Int32 := if mlwG σ n 111 5 = 0 then 1 else mlwG σ n 111 5 - 10
theorem mst_2 {t : St} {n : Int32} : mst t n 111 2 = n := by
  unfold mst; rw [mbl_k (by decide), up_k (by decide), up_k (by decide), up_k (by decide), up_k (by decide), up_k (by decide), up_rd]
theorem mst_8 {t : St} {n : Int32} : mst t n 111 8 = 0 := by unfold mst; rw [mbl_k (by decide), up_rd]
theorem mst_3 {t : St} {n : Int32} {k : Nat} (h : ¬ (k = 1 ∨ k = 2 ∨ k = 4 ∨ k = 5 ∨ k = 6 ∨ k = 7 ∨ k = 8)) : mst t n 111 k = t 111 k := by
  unfold mst; rw [mbl_k (by omega), up_k (by omega), up_k (by omega), up_k (by omega), up_k (by omega), up_k (by omega), up_k (by omega), up_k (by omega)]
theorem mst_o {t : St} {n : Int32} {o : Nat} (h : o ≠ 111) : mst t n o = t o := by
  unfold mst; rw [mbl_o h, up_o h, up_o h, up_o h, up_o h, up_o h, up_o h, up_o h]
theorem mlw0_L {σ : St} {n : Int32} (h0 : 0 ≤ n.toInt) (h1 : n.toInt ≤ 150) : pL (mlw0 σ n) := by
  have hp := mst_p (t := t0 σ) h0 (show n.toInt ≤ 600 by omega)
  unfold pL mlw0
  refine ⟨?_, by rw [up_k (by decide), mst_2]; exact h1, fun _ => ?_⟩
  · unfold pB at *; rw [up_k (by decide), up_k (by decide)]; exact hp
  · rw [up_rd, up_k (by decide)]; exact ⟨by decide, hp.1⟩
theorem mlw0_8 {σ : St} {n : Int32} : mlw0 σ n 111 8 = 0 := by unfold mlw0; rw [up_k (by decide), mst_8]
theorem mlwF_L {s : St} (h : pL s) : pL (mlwF s) := by
  unfold mlwF; split
  · refine ⟨wr_p h.1, by rw [wr_k (by decide) (by decide)]; exact h.2.1, fun z => absurd z (wr_5 (by decide))⟩
  · exact h
/-! ===== LOG ===== -/
def lg2 (t : St) (i : Nat) : St := it (fun k u => if u 111 5 = 0 ∧ u (499 + k) 0 = mnV t 0 59 then wr u 2 (t 111 4) else u) (mnS t 0 59) i
def lg3 (t : St) (i : Nat) : St := if lg2 t i 111 5 = 0 ∧ nI i = 12 then wr (lg2 t i) 3 (t 111 4) else lg2 t i
def lg5 (t : St) (i : Nat) : St := msg (mnS (lg3 t i) 0 1) 59
def lg6 (t : St) (i : Nat) : St := if lg5 t i 111 5 = 0 then up (up (lg5 t i) (499 + i) 0 (mnV t 0 59)) (499 + i) 1 (mnV (lg3 t i) 0 1) else lg5 t i
def mlgN (t : St) (i : Nat) : Nat := if lg5 t i 111 5 = 0 then i + 1 else i
def mlgR : Nat → St → Nat → St × Nat
  | 0, t, i => (t, i)
  | n + 1, t, i => if t 111 5 = 0 ∧ t 111 4 < t 111 2 then mlgR n (mbl (lg6 t i)) (mlgN t i) else (t, i)
def mlgF (σ : St) (n : Int32) : St × Nat := mlgR 101 (mst (t0 σ) n) 0
def mlgS (σ : St) (n : Int32) : St := if (mlgF σ n).1 111 5 = 0 then lay (up (up (mlgF σ n).1 111 3 (-1)) 111 37 (nI (mlgF σ n).2)) 499 487 2 (ct (nI (mlgF σ n).2)) else up (mlgF σ n).1 111 3 ((mlgF σ n).1 111 6)
def mlgV (σ : St) (n : Int32) : Int32 := if (mlgF σ n).1 111 5 = 0 then nI (mlgF σ n).2 else (mlgF σ n).1 111 5 - 10
theorem lg2_s {t : St} {i : Nat} : lg2 t (i + 1) = if lg2 t i 111 5 = 0 ∧ lg2 t i (499 + i) 0 = mnV t 0 59 then wr (lg2 t i) 2 (t 111 4) else lg2 t i := rfl
theorem okr_wr0 {g : Int} {t u : St} {k p : Int32} (h : okr g t u) (hk : ¬ k = 0) : okr g t (wr u k p) := okr.wk (okr.tr h (okr_wr h.1 hk 0)) (by omega)
theorem lg2_l {t : St} {i : Nat} (h : pB t) : okr 1 t (lg2 t i) := by
  induction i with
  | zero => exact okr_nu h
  | succ i ih =>
    rw [lg2_s]; split
    · exact okr_wr0 ih (by decide)
    · exact ih
theorem lg3_l {t : St} {i : Nat} (h : pB t) : okr 1 t (lg3 t i) := by
  unfold lg3; split
  · exact okr_wr0 (lg2_l h) (by decide)
  · exact lg2_l h
theorem lg5_l {t : St} {i : Nat} (h : pB t) : okr 1 t (lg5 t i) := by
  unfold lg5
  exact okr.wk (okr.tr (okr.tr (lg3_l h) (okr_nu (lg3_l h).1)) (okr_sg (okr_nu (lg3_l h).1).1 (by decide))) (by omega)
theorem lg6_l {t : St} {i : Nat} (h : pB t) : okr 1 t (lg6 t i) := by
  unfold lg6; split
  · exact okr_up (okr_up (lg5_l h) (by omega)) (by omega)
  · exact lg5_l h
theorem lg5_i {t : St} {i : Nat} (h : pB t) (h5 : lg5 t i 111 5 = 0) (hi : i ≤ 12) : i < 12 := by
  have h4 : okr 2 (lg3 t i) (lg5 t i) := by unfold lg5; exact okr.wk (okr.tr (okr_nu (lg3_l h).1) (okr_sg (okr_nu (lg3_l h).1).1 (by decide))) (by omega)
  have h3 := (h4.2.2 h5).1
  rcases Nat.lt_or_ge i 12 with z | z
  · exact z
  · have e : i = 12 := by omega
    unfold lg3 at h3
    by_cases h2 : lg2 t i 111 5 = 0
    · rw [if_pos ⟨h2, by rw [e]; rfl⟩] at h3; exact absurd h3 (wr_5 (by decide))
    · rw [if_neg (fun q : lg2 t i 111 5 = 0 ∧ nI i = 12 => h2 q.1)] at h3; exact absurd h3 h2
theorem mlgN_le {t : St} {i : Nat} (h : pB t) (hi : i ≤ 12) : mlgN t i ≤ 12 := by
  unfold mlgN; split
  · rename_i z; exact lg5_i h z hi
  · exact hi
theorem lg6_s {t : St} {i : Nat} (h : pB t) : okr 1 t (mbl (lg6 t i)) := okr.wk (okr.tr (lg6_l h) (okr_bl (lg6_l h).1)) (by omega)
theorem mlgR_stop {n i : Nat} {t : St} (h : ¬ (t 111 5 = 0 ∧ t 111 4 < t 111 2)) : mlgR n t i = (t, i) := by
  cases n with
  | zero => rfl
  | succ n => rw [mlgR, if_neg h]
theorem mlgR_go {n i : Nat} {t : St} (hp : pB t) (hn : t 111 5 = 0 → (t 111 2).toInt - (t 111 4).toInt < n) (h : t 111 5 = 0 ∧ t 111 4 < t 111 2) :
    mlgR n t i = mlgR (n - 1) (mbl (lg6 t i)) (mlgN t i) ∧ 0 < n ∧ pB (mbl (lg6 t i)) ∧ ((mbl (lg6 t i)) 111 5 = 0 → ((mbl (lg6 t i)) 111 2).toInt - ((mbl (lg6 t i)) 111 4).toInt < (n - 1 : Nat)) := by
  have h1 := hn h.1
  have h2 := hp.2.1
  have hq := lg6_s (i := i) hp
  cases n with
  | zero => omega
  | succ n => exact ⟨by rw [mlgR, if_pos h]; rfl, by omega, hq.1, fun z => by have := (hq.2.2 z).2; rw [hq.2.1]; omega⟩
theorem ct_nI {i : Nat} (h : i < 2147483648) : ct (nI i) = i := by unfold ct; rw [i_nI h]; exact Int.toNat_natCast i

set_option maxRecDepth 20000 in
set_option maxHeartbeats 600000 in
theorem c_Mo_law {l : Launch} {G : Gz} (hG : zI G) (σ : St) (n : Int32) (hv : 0 ≤ n ∧ n ≤ (up σ 111 0 0) 111 1) (hl : n ≤ 150) (ht : ((up σ 111 0 0) 111 1).toInt ≤ 600) : MI l G y_Mo_law prog_14_method_39_code 2 .int 71 [.ref (G.1 111), .int n] σ (mlwV σ n) (mlwS σ n) := by
  refine MI.of hG (by decide) (Nat.le_of_ble_eq_true rfl) (fun X hx hq => ?_)
  show J l G X 2 σ 0 [(0, .ref (G.1 111)), (1, .int n)] []
  have hn0 : 0 ≤ n.toInt := by have := hv.1; rw [i_le] at this; exact this
  have hn6 : n.toInt ≤ 600 := by have := hv.2; rw [i_le] at this; omega
  have hnl : n.toInt ≤ 150 := by have := hl; rw [i_le] at this; exact this
  refine j_aload_n hx d_Mo_law_0 rfl 0 rfl ?_
  refine j_iconst (v := 0) hx d_Mo_law_1 (by decide) ?_
  refine j_put hx ck_Mo 0 (by decide) t_1418 (by decide) (sh_111 _ _) rfl (Nat.le_of_ble_eq_true rfl) (sh_111 _ _) d_Mo_law_2 ?_
  refine j_aload_n hx d_Mo_law_5 rfl 0 rfl ?_
  refine j_iload_n hx d_Mo_law_6 rfl 1 rfl ?_
  refine j_iconst (v := 0) hx d_Mo_law_7 (by decide) ?_
  refine j_aload_n hx d_Mo_law_8 rfl 0 rfl ?_
  refine j_get hx ck_Mo 1 (by decide) t_1419 (by decide) (sh_111 _ _) rfl d_Mo_law_9 ?_
  refine j_callSi hx (c_Mo_in1 hG (up σ 111 0 0) n 0 ((up σ 111 0 0) 111 1) (by exact hv)) mo_Mo_in t_1582 t_1581 (by decide) rfl rfl (Nat.le_of_ble_eq_true rfl) d_Mo_law_12 ?_
  refine j_if_eq (tgt := 25) hx d_Mo_law_15 (by decide) (fun zc15 => absurd zc15 (by decide)) (fun _ => ?_)
  refine j_iload_n hx d_Mo_law_18 rfl 1 rfl ?_
  refine j_sipush (v := 150) hx d_Mo_law_19 (by decide) ?_
  refine j_icmp_le (tgt := 29) hx d_Mo_law_22 (by decide) (fun zc22 => ?_) (fun zc22 => ?_)
  · skip
    refine j_iconst (v := 0) hx d_Mo_law_29 (by decide) ?_
    refine j_iconst (v := 1) hx d_Mo_law_30 (by decide) ?_
    refine j_iconst (v := 1) hx d_Mo_law_31 (by decide) ?_
    refine j_callVi hx (c_Mo_bad0 hG (up σ 111 0 0) 0 1 1 (by rfl) (by exact up_rd)) mo_Mo_bad mv_Mo_bad t_1584 (by decide) rfl (by decide) (sh_111 _ _) rfl rfl (Nat.le_of_ble_eq_true rfl) d_Mo_law_32 ?_
    refine j_if_eq (tgt := 40) hx d_Mo_law_35 (by decide) (fun _ => ?_) (fun zc35 => absurd (by decide) zc35)
    refine j_aload_n hx d_Mo_law_40 rfl 0 rfl ?_
    refine j_iload_n hx d_Mo_law_41 rfl 1 rfl ?_
    refine j_callVv hx (c_Mo_starts hG (up σ 111 0 0) n (by exact hn0) (by exact hn6)) mo_Mo_starts mv_Mo_starts t_1588 (by decide) rfl (by decide) (sh_111 _ _) rfl rfl (Nat.le_of_ble_eq_true rfl) d_Mo_law_42 ?_
    refine j_aload_n hx d_Mo_law_45 rfl 0 rfl ?_
    refine j_iconst (v := 0) hx d_Mo_law_46 (by decide) ?_
    refine j_put hx ck_Mo 24 (by decide) t_1442 (by decide) (sh_111 _ _) rfl (Nat.le_of_ble_eq_true rfl) (sh_111 _ _) d_Mo_law_47 ?_
    obtain ⟨s9_1, eg_1⟩ : ∃ z : St, z = mlw0 σ n := ⟨_, rfl⟩
    refine J.to (σ' := s9_1) (by rw [eg_1]; first | done | rfl) rfl ?_
    have hL1 : pL s9_1 := by rw [eg_1]; exact mlw0_L hn0 hnl
    have ho1 : s9_1 111 8 = 0 := by rw [eg_1]; exact mlw0_8
    refine j_aload_n hx d_Mo_law_50 rfl 0 rfl ?_
    refine j_callVv hx (c_Mo_sumN hG 6 0 rfl (by decide) s9_1 hL1 ho1) mo_Mo_sum mv_Mo_sum t_1653 (by decide) rfl (by decide) (sh_111 _ _) rfl rfl (Nat.le_of_ble_eq_true rfl) d_Mo_law_51 ?_
    obtain ⟨s9_2, eg_2⟩ : ∃ z : St, z = msN 6 s9_1 := ⟨_, rfl⟩
    refine J.to (σ' := s9_2) (by rw [eg_2]; first | done | rfl) rfl ?_
    have hk2 : okl 0 0 s9_1 s9_2 := by rw [eg_2]; exact msN_f 6 0 rfl (by decide) s9_1 hL1 ho1
    have hL2 := okl.pL hk2 hL1 (by omega)
    refine j_aload_n hx d_Mo_law_54 rfl 0 rfl ?_
    refine j_callVv hx (c_Mo_blanks hG s9_2 (by exact hL2.1)) mo_Mo_blanks mv_Mo_blanks t_1592 (by decide) rfl (by decide) (sh_111 _ _) rfl rfl (Nat.le_of_ble_eq_true rfl) d_Mo_law_55 ?_
    obtain ⟨s9_3, eg_3⟩ : ∃ z : St, z = mbl s9_2 := ⟨_, rfl⟩
    refine J.to (σ' := s9_3) (by rw [eg_3]; first | done | rfl) rfl ?_
    have hL3 : pL s9_3 := by rw [eg_3]; exact okl.pL (mbl_l hL2.1) hL2 (by omega)
    refine j_aload_n hx d_Mo_law_58 rfl 0 rfl ?_
    refine j_get hx ck_Mo 5 (by decide) t_1423 (by decide) (sh_111 _ _) rfl d_Mo_law_59 ?_
    refine j_if_ne (tgt := 85) hx d_Mo_law_62 (by decide) (fun zc62 => ?_) (fun zc62 => ?_)
    · skip
      obtain ⟨s9_4, eg_4⟩ : ∃ z : St, z = mlwF s9_3 := ⟨_, rfl⟩
      refine J.to (σ' := s9_4) (by rw [eg_4]; unfold mlwF; first | exact (if_neg (fun z => zc62 z.1)).symm | exact (if_neg (fun z => i_lelt zc73 z.2)).symm | exact (if_pos ⟨zc62, i_nle zc73⟩).symm) rfl ?_
      have hL4 : pL s9_4 := by rw [eg_4]; exact mlwF_L hL3
      have hG4 : s9_4 = mlwG σ n := by rw [eg_4, eg_3, eg_2, eg_1]; rfl
      refine j_aload_n hx d_Mo_law_85 rfl 0 rfl ?_
      refine j_get hx ck_Mo 5 (by decide) t_1423 (by decide) (sh_111 _ _) rfl d_Mo_law_86 ?_
      refine j_if_eq (tgt := 97) hx d_Mo_law_89 (by decide) (fun zc89 => ?_) (fun zc89 => ?_)
      · skip
        refine j_aload_n hx d_Mo_law_97 rfl 0 rfl ?_
        refine j_iconst (v := (-1)) hx d_Mo_law_98 (by decide) ?_
        refine j_put hx ck_Mo 3 (by decide) t_1421 (by decide) (sh_111 _ _) rfl (Nat.le_of_ble_eq_true rfl) (sh_111 _ _) d_Mo_law_99 ?_
        refine j_aload_n hx d_Mo_law_102 rfl 0 rfl ?_
        refine j_aload_n hx d_Mo_law_103 rfl 0 rfl ?_
        refine j_get hx ck_Mo 24 (by decide) t_1442 (by decide) (sh_111 _ _) rfl d_Mo_law_104 ?_
        refine j_put hx ck_Mo 23 (by decide) t_1441 (by decide) (sh_111 _ _) rfl (Nat.le_of_ble_eq_true rfl) (sh_111 _ _) d_Mo_law_107 ?_
        obtain ⟨s9_5, eg_5⟩ : ∃ z : St, z = mlwH s9_4 := ⟨_, rfl⟩
        refine J.to (σ' := s9_5) (by rw [eg_5]; first | done | rfl) rfl ?_
        have hm5 : s9_5 111 23 = s9_4 111 24 := by rw [eg_5]; unfold mlwH; rw [up_rd]
        have hm6 := pL_m hL4 zc89
        have hm7 : ct (s9_5 111 23) ≤ 160 := by rw [hm5]; unfold ct; omega
        refine j_aload_n hx d_Mo_law_110 rfl 0 rfl ?_
        refine j_get hx ck_Mo 26 (by decide) t_1444 (by decide) (sh_111 _ _) rfl d_Mo_law_111 ?_
        refine j_aload_n hx d_Mo_law_114 rfl 0 rfl ?_
        refine j_get hx ck_Mo 25 (by decide) t_1443 (by decide) (sh_111 _ _) rfl d_Mo_law_115 ?_
        refine j_aload_n hx d_Mo_law_118 rfl 0 rfl ?_
        refine j_get hx ck_Mo 23 (by decide) t_1441 (by decide) (sh_111 _ _) rfl d_Mo_law_119 ?_
        refine j_callSv hx (c_Mo_lays hG ias_readLaw ias_law s9_5 (s9_5 111 23) (by exact hm7) (by exact hm7) (by rfl) (by decide)) mo_Mo_lays t_1416 t_1415 (by decide) rfl rfl (Nat.le_of_ble_eq_true rfl) d_Mo_law_122 ?_
        refine j_iconst (v := 1) hx d_Mo_law_125 (by decide) ?_
        exact j_iret hx hq rfl d_Mo_law_126 (by first | (unfold mlwV; rw [← hG4]; exact (if_pos zc89).symm) | fail) (by first | (unfold mlwS; rw [← hG4, ← eg_5]; exact (if_pos zc89).symm) | fail)
      · skip
        refine j_aload_n hx d_Mo_law_92 rfl 0 rfl ?_
        refine j_callVi hx (c_Mo_ends hG s9_4) mo_Mo_ends mv_Mo_ends t_1645 (by decide) rfl (by decide) (sh_111 _ _) rfl rfl (Nat.le_of_ble_eq_true rfl) d_Mo_law_93 ?_
        exact j_iret hx hq rfl d_Mo_law_96 (by first | (unfold mlwV; rw [← hG4]; exact (if_neg zc89).symm) | fail) (by first | (unfold mlwS; rw [← hG4]; exact (if_neg zc89).symm) | fail)
    · skip
      refine j_aload_n hx d_Mo_law_65 rfl 0 rfl ?_
      refine j_get hx ck_Mo 4 (by decide) t_1422 (by decide) (sh_111 _ _) rfl d_Mo_law_66 ?_
      refine j_aload_n hx d_Mo_law_69 rfl 0 rfl ?_
      refine j_get hx ck_Mo 2 (by decide) t_1420 (by decide) (sh_111 _ _) rfl d_Mo_law_70 ?_
      refine j_icmp_ge (tgt := 85) hx d_Mo_law_73 (by decide) (fun zc73 => ?_) (fun zc73 => ?_)
      · skip
        obtain ⟨s9_4, eg_4⟩ : ∃ z : St, z = mlwF s9_3 := ⟨_, rfl⟩
        refine J.to (σ' := s9_4) (by rw [eg_4]; unfold mlwF; first | exact (if_neg (fun z => zc62 z.1)).symm | exact (if_neg (fun z => i_lelt zc73 z.2)).symm | exact (if_pos ⟨zc62, i_nle zc73⟩).symm) rfl ?_
        have hL4 : pL s9_4 := by rw [eg_4]; exact mlwF_L hL3
        have hG4 : s9_4 = mlwG σ n := by rw [eg_4, eg_3, eg_2, eg_1]; rfl
        refine j_aload_n hx d_Mo_law_85 rfl 0 rfl ?_
        refine j_get hx ck_Mo 5 (by decide) t_1423 (by decide) (sh_111 _ _) rfl d_Mo_law_86 ?_
        refine j_if_eq (tgt := 97) hx d_Mo_law_89 (by decide) (fun zc89 => ?_) (fun zc89 => ?_)
        · skip
          refine j_aload_n hx d_Mo_law_97 rfl 0 rfl ?_
          refine j_iconst (v := (-1)) hx d_Mo_law_98 (by decide) ?_
          refine j_put hx ck_Mo 3 (by decide) t_1421 (by decide) (sh_111 _ _) rfl (Nat.le_of_ble_eq_true rfl) (sh_111 _ _) d_Mo_law_99 ?_
          refine j_aload_n hx d_Mo_law_102 rfl 0 rfl ?_
          refine j_aload_n hx d_Mo_law_103 rfl 0 rfl ?_
          refine j_get hx ck_Mo 24 (by decide) t_1442 (by decide) (sh_111 _ _) rfl d_Mo_law_104 ?_
          refine j_put hx ck_Mo 23 (by decide) t_1441 (by decide) (sh_111 _ _) rfl (Nat.le_of_ble_eq_true rfl) (sh_111 _ _) d_Mo_law_107 ?_
          obtain ⟨s9_5, eg_5⟩ : ∃ z : St, z = mlwH s9_4 := ⟨_, rfl⟩
          refine J.to (σ' := s9_5) (by rw [eg_5]; first | done | rfl) rfl ?_
          have hm5 : s9_5 111 23 = s9_4 111 24 := by rw [eg_5]; unfold mlwH; rw [up_rd]
          have hm6 := pL_m hL4 zc89
          have hm7 : ct (s9_5 111 23) ≤ 160 := by rw [hm5]; unfold ct; omega
          refine j_aload_n hx d_Mo_law_110 rfl 0 rfl ?_
          refine j_get hx ck_Mo 26 (by decide) t_1444 (by decide) (sh_111 _ _) rfl d_Mo_law_111 ?_
          refine j_aload_n hx d_Mo_law_114 rfl 0 rfl ?_
          refine j_get hx ck_Mo 25 (by decide) t_1443 (by decide) (sh_111 _ _) rfl d_Mo_law_115 ?_
          refine j_aload_n hx d_Mo_law_118 rfl 0 rfl ?_
          refine j_get hx ck_Mo 23 (by decide) t_1441 (by decide) (sh_111 _ _) rfl d_Mo_law_119 ?_
          refine j_callSv hx (c_Mo_lays hG ias_readLaw ias_law s9_5 (s9_5 111 23) (by exact hm7) (by exact hm7) (by rfl) (by decide)) mo_Mo_lays t_1416 t_1415 (by decide) rfl rfl (Nat.le_of_ble_eq_true rfl) d_Mo_law_122 ?_
          refine j_iconst (v := 1) hx d_Mo_law_125 (by decide) ?_
          exact j_iret hx hq rfl d_Mo_law_126 (by first | (unfold mlwV; rw [← hG4]; exact (if_pos zc89).symm) | fail) (by first | (unfold mlwS; rw [← hG4, ← eg_5]; exact (if_pos zc89).symm) | fail)
        · skip
          refine j_aload_n hx d_Mo_law_92 rfl 0 rfl ?_
          refine j_callVi hx (c_Mo_ends hG s9_4) mo_Mo_ends mv_Mo_ends t_1645 (by decide) rfl (by decide) (sh_111 _ _) rfl rfl (Nat.le_of_ble_eq_true rfl) d_Mo_law_93 ?_
          exact j_iret hx hq rfl d_Mo_law_96 (by first | (unfold mlwV; rw [← hG4]; exact (if_neg zc89).symm) | fail) (by first | (unfold mlwS; rw [← hG4]; exact (if_neg zc89).symm) | fail)
      · skip
        refine j_aload_n hx d_Mo_law_76 rfl 0 rfl ?_
        refine j_iconst (v := 1) hx d_Mo_law_77 (by decide) ?_
        refine j_aload_n hx d_Mo_law_78 rfl 0 rfl ?_
        refine j_get hx ck_Mo 4 (by decide) t_1422 (by decide) (sh_111 _ _) rfl d_Mo_law_79 ?_
        refine j_callVv hx (c_Mo_wrong hG s9_3 1 (s9_3 111 4)) mo_Mo_wrong mv_Mo_wrong t_1622 (by decide) rfl (by decide) (sh_111 _ _) rfl rfl (Nat.le_of_ble_eq_true rfl) d_Mo_law_82 ?_
        obtain ⟨s9_4, eg_4⟩ : ∃ z : St, z = mlwF s9_3 := ⟨_, rfl⟩
        refine J.to (σ' := s9_4) (by rw [eg_4]; unfold mlwF; first | exact (if_neg (fun z => zc62 z.1)).symm | exact (if_neg (fun z => i_lelt zc73 z.2)).symm | exact (if_pos ⟨zc62, i_nle zc73⟩).symm) rfl ?_
        have hL4 : pL s9_4 := by rw [eg_4]; exact mlwF_L hL3
        have hG4 : s9_4 = mlwG σ n := by rw [eg_4, eg_3, eg_2, eg_1]; rfl
        refine j_aload_n hx d_Mo_law_85 rfl 0 rfl ?_
        refine j_get hx ck_Mo 5 (by decide) t_1423 (by decide) (sh_111 _ _) rfl d_Mo_law_86 ?_
        refine j_if_eq (tgt := 97) hx d_Mo_law_89 (by decide) (fun zc89 => ?_) (fun zc89 => ?_)
        · skip
          refine j_aload_n hx d_Mo_law_97 rfl 0 rfl ?_
          refine j_iconst (v := (-1)) hx d_Mo_law_98 (by decide) ?_
          refine j_put hx ck_Mo 3 (by decide) t_1421 (by decide) (sh_111 _ _) rfl (Nat.le_of_ble_eq_true rfl) (sh_111 _ _) d_Mo_law_99 ?_
          refine j_aload_n hx d_Mo_law_102 rfl 0 rfl ?_
          refine j_aload_n hx d_Mo_law_103 rfl 0 rfl ?_
          refine j_get hx ck_Mo 24 (by decide) t_1442 (by decide) (sh_111 _ _) rfl d_Mo_law_104 ?_
          refine j_put hx ck_Mo 23 (by decide) t_1441 (by decide) (sh_111 _ _) rfl (Nat.le_of_ble_eq_true rfl) (sh_111 _ _) d_Mo_law_107 ?_
          obtain ⟨s9_5, eg_5⟩ : ∃ z : St, z = mlwH s9_4 := ⟨_, rfl⟩
          refine J.to (σ' := s9_5) (by rw [eg_5]; first | done | rfl) rfl ?_
          have hm5 : s9_5 111 23 = s9_4 111 24 := by rw [eg_5]; unfold mlwH; rw [up_rd]
          have hm6 := pL_m hL4 zc89
          have hm7 : ct (s9_5 111 23) ≤ 160 := by rw [hm5]; unfold ct; omega
          refine j_aload_n hx d_Mo_law_110 rfl 0 rfl ?_
          refine j_get hx ck_Mo 26 (by decide) t_1444 (by decide) (sh_111 _ _) rfl d_Mo_law_111 ?_
          refine j_aload_n hx d_Mo_law_114 rfl 0 rfl ?_
          refine j_get hx ck_Mo 25 (by decide) t_1443 (by decide) (sh_111 _ _) rfl d_Mo_law_115 ?_
          refine j_aload_n hx d_Mo_law_118 rfl 0 rfl ?_
          refine j_get hx ck_Mo 23 (by decide) t_1441 (by decide) (sh_111 _ _) rfl d_Mo_law_119 ?_
          refine j_callSv hx (c_Mo_lays hG ias_readLaw ias_law s9_5 (s9_5 111 23) (by exact hm7) (by exact hm7) (by rfl) (by decide)) mo_Mo_lays t_1416 t_1415 (by decide) rfl rfl (Nat.le_of_ble_eq_true rfl) d_Mo_law_122 ?_
          refine j_iconst (v := 1) hx d_Mo_law_125 (by decide) ?_
          exact j_iret hx hq rfl d_Mo_law_126 (by first | (unfold mlwV; rw [← hG4]; exact (if_pos zc89).symm) | fail) (by first | (unfold mlwS; rw [← hG4, ← eg_5]; exact (if_pos zc89).symm) | fail)
        · skip
          refine j_aload_n hx d_Mo_law_92 rfl 0 rfl ?_
          refine j_callVi hx (c_Mo_ends hG s9_4) mo_Mo_ends mv_Mo_ends t_1645 (by decide) rfl (by decide) (sh_111 _ _) rfl rfl (Nat.le_of_ble_eq_true rfl) d_Mo_law_93 ?_
          exact j_iret hx hq rfl d_Mo_law_96 (by first | (unfold mlwV; rw [← hG4]; exact (if_neg zc89).symm) | fail) (by first | (unfold mlwS; rw [← hG4]; exact (if_neg zc89).symm) | fail)
  · first | exact absurd hl zc22 | exact absurd zc22 hl | exact absurd zc22 (i_lelt hl) | exact absurd hl (i_lelt zc22) | exact absurd zc22 (i_nle hl) | exact absurd zc22 (i_nlt hl)

set_option maxRecDepth 20000 in
set_option maxHeartbeats 600000 in
theorem c_Mo_lawI {l : Launch} {G : Gz} (hG : zI G) (σ : St) (n : Int32) (hbad : ¬ ((0 ≤ n ∧ n ≤ (up σ 111 0 0) 111 1) ∧ n ≤ 150)) : MI l G y_Mo_law prog_14_method_39_code 2 .int 4 [.ref (G.1 111), .int n] σ 0 (mrf σ 1 1) := by
  refine MI.of hG (by decide) (Nat.le_of_ble_eq_true rfl) (fun X hx hq => ?_)
  show J l G X 2 σ 0 [(0, .ref (G.1 111)), (1, .int n)] []
  refine j_aload_n hx d_Mo_law_0 rfl 0 rfl ?_
  refine j_iconst (v := 0) hx d_Mo_law_1 (by decide) ?_
  refine j_put hx ck_Mo 0 (by decide) t_1418 (by decide) (sh_111 _ _) rfl (Nat.le_of_ble_eq_true rfl) (sh_111 _ _) d_Mo_law_2 ?_
  refine j_aload_n hx d_Mo_law_5 rfl 0 rfl ?_
  refine j_iload_n hx d_Mo_law_6 rfl 1 rfl ?_
  refine j_iconst (v := 0) hx d_Mo_law_7 (by decide) ?_
  refine j_aload_n hx d_Mo_law_8 rfl 0 rfl ?_
  refine j_get hx ck_Mo 1 (by decide) t_1419 (by decide) (sh_111 _ _) rfl d_Mo_law_9 ?_
  by_cases hn12 : 0 ≤ n ∧ n ≤ ((up σ 111 0 0) 111 1)
  · skip
    refine j_callSi hx (c_Mo_in1 hG (up σ 111 0 0) n 0 ((up σ 111 0 0) 111 1) (by exact hn12)) mo_Mo_in t_1582 t_1581 (by decide) rfl rfl (Nat.le_of_ble_eq_true rfl) d_Mo_law_12 ?_
    refine j_if_eq (tgt := 25) hx d_Mo_law_15 (by decide) (fun zc15 => absurd zc15 (by decide)) (fun _ => ?_)
    refine j_iload_n hx d_Mo_law_18 rfl 1 rfl ?_
    refine j_sipush (v := 150) hx d_Mo_law_19 (by decide) ?_
    refine j_icmp_le (tgt := 29) hx d_Mo_law_22 (by decide) (fun zc22 => ?_) (fun zc22 => ?_)
    · exact absurd ⟨hn12, zc22⟩ hbad
    · skip
      refine j_iconst (v := 1) hx d_Mo_law_25 (by decide) ?_
      refine j_goto (tgt := 30) hx d_Mo_law_26 (by decide) ?_
      refine j_iconst (v := 1) hx d_Mo_law_30 (by decide) ?_
      refine j_iconst (v := 1) hx d_Mo_law_31 (by decide) ?_
      refine j_callVi hx (c_Mo_bad1 hG (up σ 111 0 0) 1 1 1 (by decide) (by exact up_rd) (by decide) (by decide)) mo_Mo_bad mv_Mo_bad t_1584 (by decide) rfl (by decide) (sh_111 _ _) rfl rfl (Nat.le_of_ble_eq_true rfl) d_Mo_law_32 ?_
      refine j_if_eq (tgt := 40) hx d_Mo_law_35 (by decide) (fun zc35 => absurd zc35 (by decide)) (fun _ => ?_)
      refine j_iconst (v := 0) hx d_Mo_law_38 (by decide) ?_
      exact j_iret hx hq rfl d_Mo_law_39 (by first | (rfl) | fail) (by first | (rfl) | fail)
  refine j_callSi hx (c_Mo_in0 hG (up σ 111 0 0) n 0 ((up σ 111 0 0) 111 1) (by exact hn12)) mo_Mo_in t_1582 t_1581 (by decide) rfl rfl (Nat.le_of_ble_eq_true rfl) d_Mo_law_12 ?_
  refine j_if_eq (tgt := 25) hx d_Mo_law_15 (by decide) (fun _ => ?_) (fun zc15 => absurd (by decide) zc15)
  refine j_iconst (v := 1) hx d_Mo_law_25 (by decide) ?_
  refine j_goto (tgt := 30) hx d_Mo_law_26 (by decide) ?_
  refine j_iconst (v := 1) hx d_Mo_law_30 (by decide) ?_
  refine j_iconst (v := 1) hx d_Mo_law_31 (by decide) ?_
  refine j_callVi hx (c_Mo_bad1 hG (up σ 111 0 0) 1 1 1 (by decide) (by exact up_rd) (by decide) (by decide)) mo_Mo_bad mv_Mo_bad t_1584 (by decide) rfl (by decide) (sh_111 _ _) rfl rfl (Nat.le_of_ble_eq_true rfl) d_Mo_law_32 ?_
  refine j_if_eq (tgt := 40) hx d_Mo_law_35 (by decide) (fun zc35 => absurd zc35 (by decide)) (fun _ => ?_)
  refine j_iconst (v := 0) hx d_Mo_law_38 (by decide) ?_
  exact j_iret hx hq rfl d_Mo_law_39 (by first | (rfl) | fail) (by first | (rfl) | fail)

set_option maxRecDepth 20000 in
set_option maxHeartbeats 600000 in
theorem c_Mo_log {l : Launch} {G : Gz} (hG : zI G) (σ : St) (n : Int32) (hv : 0 ≤ n ∧ n ≤ (up σ 111 0 0) 111 1) (hl : n ≤ 100) (ht : ((up σ 111 0 0) 111 1).toInt ≤ 600) : MI l G y_Mo_log prog_14_method_44_code 6 .int 9 [.ref (G.1 111), .int n] σ (mlgV σ n) (mlgS σ n) := by
  refine MI.of hG (by decide) (Nat.le_of_ble_eq_true rfl) (fun X hx hq => ?_)
  show J l G X 6 σ 0 [(0, .ref (G.1 111)), (1, .int n)] []
  have hn0 : 0 ≤ n.toInt := by have := hv.1; rw [i_le] at this; exact this
  have hn6 : n.toInt ≤ 600 := by have := hv.2; rw [i_le] at this; omega
  have hnl : n.toInt ≤ 100 := by have := hl; rw [i_le] at this; exact this
  refine j_aload_n hx d_Mo_log_0 rfl 0 rfl ?_
  refine j_iconst (v := 0) hx d_Mo_log_1 (by decide) ?_
  refine j_put hx ck_Mo 0 (by decide) t_1418 (by decide) (sh_111 _ _) rfl (Nat.le_of_ble_eq_true rfl) (sh_111 _ _) d_Mo_log_2 ?_
  refine j_aload_n hx d_Mo_log_5 rfl 0 rfl ?_
  refine j_iload_n hx d_Mo_log_6 rfl 1 rfl ?_
  refine j_iconst (v := 0) hx d_Mo_log_7 (by decide) ?_
  refine j_aload_n hx d_Mo_log_8 rfl 0 rfl ?_
  refine j_get hx ck_Mo 1 (by decide) t_1419 (by decide) (sh_111 _ _) rfl d_Mo_log_9 ?_
  refine j_callSi hx (c_Mo_in1 hG (up σ 111 0 0) n 0 ((up σ 111 0 0) 111 1) (by exact hv)) mo_Mo_in t_1582 t_1581 (by decide) rfl rfl (Nat.le_of_ble_eq_true rfl) d_Mo_log_12 ?_
  refine j_if_eq (tgt := 24) hx d_Mo_log_15 (by decide) (fun zc15 => absurd zc15 (by decide)) (fun _ => ?_)
  refine j_iload_n hx d_Mo_log_18 rfl 1 rfl ?_
  refine j_bipush (v := 100) hx d_Mo_log_19 (by decide) ?_
  refine j_icmp_le (tgt := 28) hx d_Mo_log_21 (by decide) (fun zc21 => ?_) (fun zc21 => ?_)
  · skip
    refine j_iconst (v := 0) hx d_Mo_log_28 (by decide) ?_
    refine j_iconst (v := 1) hx d_Mo_log_29 (by decide) ?_
    refine j_iconst (v := 1) hx d_Mo_log_30 (by decide) ?_
    refine j_callVi hx (c_Mo_bad0 hG (up σ 111 0 0) 0 1 1 (by rfl) (by exact up_rd)) mo_Mo_bad mv_Mo_bad t_1584 (by decide) rfl (by decide) (sh_111 _ _) rfl rfl (Nat.le_of_ble_eq_true rfl) d_Mo_log_31 ?_
    refine j_if_eq (tgt := 39) hx d_Mo_log_34 (by decide) (fun _ => ?_) (fun zc34 => absurd (by decide) zc34)
    refine j_aload_n hx d_Mo_log_39 rfl 0 rfl ?_
    refine j_iload_n hx d_Mo_log_40 rfl 1 rfl ?_
    refine j_callVv hx (c_Mo_starts hG (up σ 111 0 0) n (by exact hn0) (by exact hn6)) mo_Mo_starts mv_Mo_starts t_1588 (by decide) rfl (by decide) (sh_111 _ _) rfl rfl (Nat.le_of_ble_eq_true rfl) d_Mo_log_41 ?_
    refine j_iconst (v := 0) hx d_Mo_log_44 (by decide) ?_
    refine j_istore_n hx [(2, .int 0), (0, .ref (G.1 111)), (1, .int n)] d_Mo_log_45 rfl (by decide) rfl ?_
    obtain ⟨s9_1, eg_1⟩ : ∃ z : St, z = mst (t0 σ) n := ⟨_, rfl⟩
    refine J.to (σ' := s9_1) (by rw [eg_1]; first | done | rfl) rfl ?_
    have hp1 : pB s9_1 := by rw [eg_1]; exact mst_p hn0 hn6
    have hz1 : s9_1 111 5 = 0 → (s9_1 111 2).toInt - (s9_1 111 4).toInt < (101 : Nat) := fun _ => by have h1 := hp1.1; have e2 : s9_1 111 2 = n := (by rw [eg_1]; exact mst_2); rw [e2]; omega
    have hl46 : ∀ (N9 : Nat) (m i : Nat) (t : St), (pB t) → (i ≤ 12) → (t 111 5 = 0 → (t 111 2).toInt - (t 111 4).toInt < m) → (mlgR m t i = mlgF σ n) → m = N9 → J l G X 6 t 46 [(0, .ref (G.1 111)), (1, .int n), (2, .int (nI i))] [] := by
      intro N9
      induction N9 using Nat.strongRecOn with
      | _ N9 ih46 =>
        intro m i t hp9 hi12 hf9 hr9 hm46
        refine j_aload_n hx d_Mo_log_46 rfl 0 rfl ?_
        refine j_get hx ck_Mo 5 (by decide) t_1423 (by decide) (sh_111 _ _) rfl d_Mo_log_47 ?_
        refine j_if_ne (tgt := 190) hx d_Mo_log_50 (by decide) (fun zc50 => ?_) (fun zc50 => ?_)
        · skip
          refine j_aload_n hx d_Mo_log_190 rfl 0 rfl ?_
          refine j_get hx ck_Mo 5 (by decide) t_1423 (by decide) (sh_111 _ _) rfl d_Mo_log_191 ?_
          refine j_if_eq (tgt := 202) hx d_Mo_log_194 (by decide) (fun zc194 => ?_) (fun zc194 => ?_)
          · skip
            refine j_aload_n hx d_Mo_log_202 rfl 0 rfl ?_
            refine j_iconst (v := (-1)) hx d_Mo_log_203 (by decide) ?_
            refine j_put hx ck_Mo 3 (by decide) t_1421 (by decide) (sh_111 _ _) rfl (Nat.le_of_ble_eq_true rfl) (sh_111 _ _) d_Mo_log_204 ?_
            refine j_aload_n hx d_Mo_log_207 rfl 0 rfl ?_
            refine j_iload_n hx d_Mo_log_208 rfl 2 rfl ?_
            refine j_put hx ck_Mo 37 (by decide) t_1455 (by decide) (sh_111 _ _) rfl (Nat.le_of_ble_eq_true rfl) (sh_111 _ _) d_Mo_log_209 ?_
            refine j_aload_n hx d_Mo_log_212 rfl 0 rfl ?_
            refine j_get hx ck_Mo 28 (by decide) t_1446 (by decide) (sh_111 _ _) rfl d_Mo_log_213 ?_
            refine j_aload_n hx d_Mo_log_216 rfl 0 rfl ?_
            refine j_get hx ck_Mo 27 (by decide) t_1445 (by decide) (sh_111 _ _) rfl d_Mo_log_217 ?_
            refine j_iload_n hx d_Mo_log_220 rfl 2 rfl ?_
            refine j_callSv hx (c_Mo_lays hG ias_readLog ias_log (up (up t 111 3 ((-1))) 111 37 (nI i)) (nI i) (by rw [ct_nI (show i < 2147483648 by omega)]; exact hi12) (by rw [ct_nI (show i < 2147483648 by omega)]; exact hi12) (by rfl) (by decide)) mo_Mo_lays t_1416 t_1415 (by decide) rfl rfl (Nat.le_of_ble_eq_true rfl) d_Mo_log_221 ?_
            refine j_iload_n hx d_Mo_log_224 rfl 2 rfl ?_
            exact j_iret hx hq rfl d_Mo_log_225 (by first | (have e9 := (mlgR_stop (fun z => by first | exact zc50 z.1 | exact i_lelt zc61 z.2)).symm.trans hr9; unfold mlgV; rw [← e9]; exact (if_pos zc194).symm) | fail) (by first | (have e9 := (mlgR_stop (fun z => by first | exact zc50 z.1 | exact i_lelt zc61 z.2)).symm.trans hr9; unfold mlgS; rw [← e9]; exact (if_pos zc194).symm) | fail)
          · skip
            refine j_aload_n hx d_Mo_log_197 rfl 0 rfl ?_
            refine j_callVi hx (c_Mo_ends hG t) mo_Mo_ends mv_Mo_ends t_1645 (by decide) rfl (by decide) (sh_111 _ _) rfl rfl (Nat.le_of_ble_eq_true rfl) d_Mo_log_198 ?_
            exact j_iret hx hq rfl d_Mo_log_201 (by first | (have e9 := (mlgR_stop (fun z => by first | exact zc50 z.1 | exact i_lelt zc61 z.2)).symm.trans hr9; unfold mlgV; rw [← e9]; exact (if_neg zc194).symm) | fail) (by first | (have e9 := (mlgR_stop (fun z => by first | exact zc50 z.1 | exact i_lelt zc61 z.2)).symm.trans hr9; unfold mlgS; rw [← e9]; exact (if_neg zc194).symm) | fail)
        · skip
          refine j_aload_n hx d_Mo_log_53 rfl 0 rfl ?_
          refine j_get hx ck_Mo 4 (by decide) t_1422 (by decide) (sh_111 _ _) rfl d_Mo_log_54 ?_
          refine j_aload_n hx d_Mo_log_57 rfl 0 rfl ?_
          refine j_get hx ck_Mo 2 (by decide) t_1420 (by decide) (sh_111 _ _) rfl d_Mo_log_58 ?_
          refine j_icmp_ge (tgt := 190) hx d_Mo_log_61 (by decide) (fun zc61 => ?_) (fun zc61 => ?_)
          · skip
            refine j_aload_n hx d_Mo_log_190 rfl 0 rfl ?_
            refine j_get hx ck_Mo 5 (by decide) t_1423 (by decide) (sh_111 _ _) rfl d_Mo_log_191 ?_
            refine j_if_eq (tgt := 202) hx d_Mo_log_194 (by decide) (fun zc194 => ?_) (fun zc194 => ?_)
            · skip
              refine j_aload_n hx d_Mo_log_202 rfl 0 rfl ?_
              refine j_iconst (v := (-1)) hx d_Mo_log_203 (by decide) ?_
              refine j_put hx ck_Mo 3 (by decide) t_1421 (by decide) (sh_111 _ _) rfl (Nat.le_of_ble_eq_true rfl) (sh_111 _ _) d_Mo_log_204 ?_
              refine j_aload_n hx d_Mo_log_207 rfl 0 rfl ?_
              refine j_iload_n hx d_Mo_log_208 rfl 2 rfl ?_
              refine j_put hx ck_Mo 37 (by decide) t_1455 (by decide) (sh_111 _ _) rfl (Nat.le_of_ble_eq_true rfl) (sh_111 _ _) d_Mo_log_209 ?_
              refine j_aload_n hx d_Mo_log_212 rfl 0 rfl ?_
              refine j_get hx ck_Mo 28 (by decide) t_1446 (by decide) (sh_111 _ _) rfl d_Mo_log_213 ?_
              refine j_aload_n hx d_Mo_log_216 rfl 0 rfl ?_
              refine j_get hx ck_Mo 27 (by decide) t_1445 (by decide) (sh_111 _ _) rfl d_Mo_log_217 ?_
              refine j_iload_n hx d_Mo_log_220 rfl 2 rfl ?_
              refine j_callSv hx (c_Mo_lays hG ias_readLog ias_log (up (up t 111 3 ((-1))) 111 37 (nI i)) (nI i) (by rw [ct_nI (show i < 2147483648 by omega)]; exact hi12) (by rw [ct_nI (show i < 2147483648 by omega)]; exact hi12) (by rfl) (by decide)) mo_Mo_lays t_1416 t_1415 (by decide) rfl rfl (Nat.le_of_ble_eq_true rfl) d_Mo_log_221 ?_
              refine j_iload_n hx d_Mo_log_224 rfl 2 rfl ?_
              exact j_iret hx hq rfl d_Mo_log_225 (by first | (have e9 := (mlgR_stop (fun z => by first | exact zc50 z.1 | exact i_lelt zc61 z.2)).symm.trans hr9; unfold mlgV; rw [← e9]; exact (if_pos zc194).symm) | fail) (by first | (have e9 := (mlgR_stop (fun z => by first | exact zc50 z.1 | exact i_lelt zc61 z.2)).symm.trans hr9; unfold mlgS; rw [← e9]; exact (if_pos zc194).symm) | fail)
            · skip
              refine j_aload_n hx d_Mo_log_197 rfl 0 rfl ?_
              refine j_callVi hx (c_Mo_ends hG t) mo_Mo_ends mv_Mo_ends t_1645 (by decide) rfl (by decide) (sh_111 _ _) rfl rfl (Nat.le_of_ble_eq_true rfl) d_Mo_log_198 ?_
              exact j_iret hx hq rfl d_Mo_log_201 (by first | (have e9 := (mlgR_stop (fun z => by first | exact zc50 z.1 | exact i_lelt zc61 z.2)).symm.trans hr9; unfold mlgV; rw [← e9]; exact (if_neg zc194).symm) | fail) (by first | (have e9 := (mlgR_stop (fun z => by first | exact zc50 z.1 | exact i_lelt zc61 z.2)).symm.trans hr9; unfold mlgS; rw [← e9]; exact (if_neg zc194).symm) | fail)
          · skip
            have HGO := mlgR_go (i := i) hp9 hf9 ⟨zc50, i_nle zc61⟩
            refine j_aload_n hx d_Mo_log_64 rfl 0 rfl ?_
            refine j_get hx ck_Mo 4 (by decide) t_1422 (by decide) (sh_111 _ _) rfl d_Mo_log_65 ?_
            refine j_istore_n hx [(3, .int (t 111 4)), (0, .ref (G.1 111)), (1, .int n), (2, .int (nI i))] d_Mo_log_68 rfl (by decide) rfl ?_
            refine j_aload_n hx d_Mo_log_69 rfl 1 rfl ?_
            refine j_iconst (v := 0) hx d_Mo_log_70 (by decide) ?_
            refine j_bipush (v := 59) hx d_Mo_log_71 (by decide) ?_
            refine j_callVi hx (c_Mo_number hG t 0 59 (by exact hp9)) mo_Mo_number mv_Mo_number t_1633 (by decide) rfl (by decide) (sh_111 _ _) rfl rfl (Nat.le_of_ble_eq_true rfl) d_Mo_log_73 ?_
            refine j_istore hx [(4, .int (mnV t 0 59)), (3, .int (t 111 4)), (0, .ref (G.1 111)), (1, .int n), (2, .int (nI i))] d_Mo_log_76 (by decide) rfl ?_
            refine j_iconst (v := 0) hx d_Mo_log_78 (by decide) ?_
            refine j_istore hx [(5, .int 0), (4, .int (mnV t 0 59)), (3, .int (t 111 4)), (0, .ref (G.1 111)), (1, .int n), (2, .int (nI i))] d_Mo_log_79 (by decide) rfl ?_
            have hl81 : ∀ (N9 : Nat) (k : Nat), (k ≤ i) → i - k = N9 → J l G X 6 (lg2 t k) 81 [(0, .ref (G.1 111)), (1, .int n), (2, .int (nI i)), (3, .int (t 111 4)), (4, .int (mnV t 0 59)), (5, .int (nI k))] [] := by
              intro N9
              induction N9 using Nat.strongRecOn with
              | _ N9 ih81 =>
                intro k hi_k hm81
                refine j_iload hx d_Mo_log_81 5 rfl ?_
                refine j_iload_n hx d_Mo_log_83 rfl 2 rfl ?_
                refine j_icmp_ge (tgt := 120) hx d_Mo_log_84 (by decide) (fun zc84 => ?_) (fun zc84 => ?_)
                · skip
                  obtain rfl := nt_end (n := i) hi_k (by omega) zc84
                  obtain ⟨s9_2, eg_2⟩ : ∃ z : St, z = lg2 t i := ⟨_, rfl⟩
                  refine J.to (σ' := s9_2) (by rw [eg_2]; first | done | rfl) rfl ?_
                  have hp2 : pB s9_2 := by rw [eg_2]; exact (lg2_l hp9).1
                  refine j_aload_n hx d_Mo_log_120 rfl 0 rfl ?_
                  refine j_get hx ck_Mo 5 (by decide) t_1423 (by decide) (sh_111 _ _) rfl d_Mo_log_121 ?_
                  refine j_if_ne (tgt := 139) hx d_Mo_log_124 (by decide) (fun zc124 => ?_) (fun zc124 => ?_)
                  · skip
                    obtain ⟨s9_3, eg_3⟩ : ∃ z : St, z = lg3 t i := ⟨_, rfl⟩
                    refine J.to (σ' := s9_3) (by rw [eg_3]; unfold lg3; rw [← eg_2]; first | exact (if_neg (fun z => zc124 z.1)).symm | exact (if_neg (fun z => zc130 z.2)).symm | exact (if_pos ⟨zc124, zc130⟩).symm) rfl ?_
                    have hp3 : pB s9_3 := by rw [eg_3]; exact (lg3_l hp9).1
                    refine j_aload_n hx d_Mo_log_139 rfl 0 rfl ?_
                    refine j_iconst (v := 0) hx d_Mo_log_140 (by decide) ?_
                    refine j_iconst (v := 1) hx d_Mo_log_141 (by decide) ?_
                    refine j_callVi hx (c_Mo_number hG s9_3 0 1 (by exact hp3)) mo_Mo_number mv_Mo_number t_1633 (by decide) rfl (by decide) (sh_111 _ _) rfl rfl (Nat.le_of_ble_eq_true rfl) d_Mo_log_142 ?_
                    refine j_istore hx [(5, .int (mnV s9_3 0 1)), (0, .ref (G.1 111)), (1, .int n), (2, .int (nI i)), (3, .int (t 111 4)), (4, .int (mnV t 0 59))] d_Mo_log_145 (by decide) rfl ?_
                    refine j_aload_n hx d_Mo_log_147 rfl 1 rfl ?_
                    refine j_bipush (v := 59) hx d_Mo_log_148 (by decide) ?_
                    refine j_callVv hx (c_Mo_sign hG (mnS s9_3 0 1) 59 (by exact mnS_p hp3)) mo_Mo_sign mv_Mo_sign t_1641 (by decide) rfl (by decide) (sh_111 _ _) rfl rfl (Nat.le_of_ble_eq_true rfl) d_Mo_log_150 ?_
                    obtain ⟨s9_4, eg_4⟩ : ∃ z : St, z = lg5 t i := ⟨_, rfl⟩
                    refine J.to (σ' := s9_4) (by rw [eg_4]; rw [eg_3]; rfl) rfl ?_
                    refine j_aload_n hx d_Mo_log_153 rfl 1 rfl ?_
                    refine j_get hx ck_Mo 5 (by decide) t_1423 (by decide) (sh_111 _ _) rfl d_Mo_log_154 ?_
                    refine j_if_ne (tgt := 183) hx d_Mo_log_157 (by decide) (fun zc157 => ?_) (fun zc157 => ?_)
                    · skip
                      obtain ⟨s9_5, eg_5⟩ : ∃ z : St, z = lg6 t i := ⟨_, rfl⟩
                      refine J.to (σ' := s9_5) (by rw [eg_5]; unfold lg6; first | (rw [← eg_4, if_pos zc157, eg_3]; done) | (rw [← eg_4, if_neg zc157]; done)) rfl ?_
                      refine j_aload_n hx d_Mo_log_183 rfl 1 rfl ?_
                      refine j_callVv hx (c_Mo_blanks hG s9_5 (by rw [eg_5]; exact (lg6_l hp9).1)) mo_Mo_blanks mv_Mo_blanks t_1592 (by decide) rfl (by decide) (sh_111 _ _) rfl rfl (Nat.le_of_ble_eq_true rfl) d_Mo_log_184 ?_
                      refine j_goto (tgt := 46) hx d_Mo_log_187 (by decide) ?_
                      refine J.lsub (ls' := [(0, .ref (G.1 111)), (1, .int n), (2, .int (nI i))]) [1, 2, 3] rfl ?_
                      refine J.to ?_ ?_ (ih46 _ ?_ (m - 1) (mlgN t i) (mbl (lg6 t i)) HGO.2.2.1 (mlgN_le hp9 hi12) HGO.2.2.2 (HGO.1.symm.trans hr9) rfl)
                      · first | (rw [eg_5]) | fail
                      · first | (rw [eg_4] at zc157; unfold mlgN; first | (rw [if_pos zc157]; simp only [nI_s]; done) | (rw [if_neg zc157]; done)) | fail
                      · first | (have h8 := HGO.2.1; omega) | fail
                    · skip
                      have hi9 : i < 12 := lg5_i hp9 (by rw [← eg_4]; exact zc157) hi12
                      refine j_aload_n hx d_Mo_log_160 rfl 1 rfl ?_
                      refine j_get hx ck_Mo 28 (by decide) t_1446 (by decide) (sh_111 _ _) rfl d_Mo_log_161 ?_
                      refine j_iload_n hx d_Mo_log_164 rfl 3 rfl ?_
                      have hz165_1 : zin (nI i) 12 i := by first | exact ⟨rfl, by decide⟩ | exact zin_nI (by omega) (by first | decide | omega) | exact zin_of (by omega) (by omega)
                      refine j_aaldk hx ias_readLog.1.1 (ias_readLog.2.1 _ _) hz165_1 d_Mo_log_165 ?_
                      refine j_iconst (v := 0) hx d_Mo_log_166 (by decide) ?_
                      refine j_iload hx d_Mo_log_167 5 rfl ?_
                      have hz169_2 : zin (0) 2 0 := by first | exact ⟨rfl, by decide⟩ | exact zin_nI (by omega) (by first | decide | omega) | exact zin_of (by omega) (by omega)
                      refine j_iastk hx (ias_readLog.2.2 _ hz165_1.2) hz169_2 d_Mo_log_169 ?_
                      refine j_aload_n hx d_Mo_log_170 rfl 1 rfl ?_
                      refine j_get hx ck_Mo 28 (by decide) t_1446 (by decide) (sh_111 _ _) rfl d_Mo_log_171 ?_
                      refine j_iload_n hx d_Mo_log_174 rfl 3 rfl ?_
                      have hz175_3 : zin (nI i) 12 i := by first | exact ⟨rfl, by decide⟩ | exact zin_nI (by omega) (by first | decide | omega) | exact zin_of (by omega) (by omega)
                      refine j_aaldk hx ias_readLog.1.1 (ias_readLog.2.1 _ _) hz175_3 d_Mo_log_175 ?_
                      refine j_iconst (v := 1) hx d_Mo_log_176 (by decide) ?_
                      refine j_iload hx d_Mo_log_177 0 rfl ?_
                      have hz179_4 : zin (1) 2 1 := by first | exact ⟨rfl, by decide⟩ | exact zin_nI (by omega) (by first | decide | omega) | exact zin_of (by omega) (by omega)
                      refine j_iastk hx (ias_readLog.2.2 _ hz175_3.2) hz179_4 d_Mo_log_179 ?_
                      refine j_iinc hx [(2, .int ((nI i) + 1)), (5, .int (mnV s9_3 0 1)), (0, .ref (G.1 111)), (1, .int n), (3, .int (t 111 4)), (4, .int (mnV t 0 59))] d_Mo_log_180 3 rfl rfl (by decide) rfl ?_
                      obtain ⟨s9_5, eg_5⟩ : ∃ z : St, z = lg6 t i := ⟨_, rfl⟩
                      refine J.to (σ' := s9_5) (by rw [eg_5]; unfold lg6; first | (rw [← eg_4, if_pos zc157, eg_3]; done) | (rw [← eg_4, if_neg zc157]; done)) rfl ?_
                      refine j_aload_n hx d_Mo_log_183 rfl 2 rfl ?_
                      refine j_callVv hx (c_Mo_blanks hG s9_5 (by rw [eg_5]; exact (lg6_l hp9).1)) mo_Mo_blanks mv_Mo_blanks t_1592 (by decide) rfl (by decide) (sh_111 _ _) rfl rfl (Nat.le_of_ble_eq_true rfl) d_Mo_log_184 ?_
                      refine j_goto (tgt := 46) hx d_Mo_log_187 (by decide) ?_
                      refine J.lsub (ls' := [(0, .ref (G.1 111)), (1, .int n), (2, .int ((nI i) + 1))]) [2, 3, 0] rfl ?_
                      refine J.to ?_ ?_ (ih46 _ ?_ (m - 1) (mlgN t i) (mbl (lg6 t i)) HGO.2.2.1 (mlgN_le hp9 hi12) HGO.2.2.2 (HGO.1.symm.trans hr9) rfl)
                      · first | (rw [eg_5]) | fail
                      · first | (rw [eg_4] at zc157; unfold mlgN; first | (rw [if_pos zc157]; simp only [nI_s]; done) | (rw [if_neg zc157]; done)) | fail
                      · first | (have h8 := HGO.2.1; omega) | fail
                  · skip
                    refine j_iload_n hx d_Mo_log_127 rfl 2 rfl ?_
                    refine j_bipush (v := 12) hx d_Mo_log_128 (by decide) ?_
                    refine j_icmp_ne (tgt := 139) hx d_Mo_log_130 (by decide) (fun zc130 => ?_) (fun zc130 => ?_)
                    · skip
                      obtain ⟨s9_3, eg_3⟩ : ∃ z : St, z = lg3 t i := ⟨_, rfl⟩
                      refine J.to (σ' := s9_3) (by rw [eg_3]; unfold lg3; rw [← eg_2]; first | exact (if_neg (fun z => zc124 z.1)).symm | exact (if_neg (fun z => zc130 z.2)).symm | exact (if_pos ⟨zc124, zc130⟩).symm) rfl ?_
                      have hp3 : pB s9_3 := by rw [eg_3]; exact (lg3_l hp9).1
                      refine j_aload_n hx d_Mo_log_139 rfl 0 rfl ?_
                      refine j_iconst (v := 0) hx d_Mo_log_140 (by decide) ?_
                      refine j_iconst (v := 1) hx d_Mo_log_141 (by decide) ?_
                      refine j_callVi hx (c_Mo_number hG s9_3 0 1 (by exact hp3)) mo_Mo_number mv_Mo_number t_1633 (by decide) rfl (by decide) (sh_111 _ _) rfl rfl (Nat.le_of_ble_eq_true rfl) d_Mo_log_142 ?_
                      refine j_istore hx [(5, .int (mnV s9_3 0 1)), (0, .ref (G.1 111)), (1, .int n), (2, .int (nI i)), (3, .int (t 111 4)), (4, .int (mnV t 0 59))] d_Mo_log_145 (by decide) rfl ?_
                      refine j_aload_n hx d_Mo_log_147 rfl 1 rfl ?_
                      refine j_bipush (v := 59) hx d_Mo_log_148 (by decide) ?_
                      refine j_callVv hx (c_Mo_sign hG (mnS s9_3 0 1) 59 (by exact mnS_p hp3)) mo_Mo_sign mv_Mo_sign t_1641 (by decide) rfl (by decide) (sh_111 _ _) rfl rfl (Nat.le_of_ble_eq_true rfl) d_Mo_log_150 ?_
                      obtain ⟨s9_4, eg_4⟩ : ∃ z : St, z = lg5 t i := ⟨_, rfl⟩
                      refine J.to (σ' := s9_4) (by rw [eg_4]; rw [eg_3]; rfl) rfl ?_
                      refine j_aload_n hx d_Mo_log_153 rfl 1 rfl ?_
                      refine j_get hx ck_Mo 5 (by decide) t_1423 (by decide) (sh_111 _ _) rfl d_Mo_log_154 ?_
                      refine j_if_ne (tgt := 183) hx d_Mo_log_157 (by decide) (fun zc157 => ?_) (fun zc157 => ?_)
                      · skip
                        obtain ⟨s9_5, eg_5⟩ : ∃ z : St, z = lg6 t i := ⟨_, rfl⟩
                        refine J.to (σ' := s9_5) (by rw [eg_5]; unfold lg6; first | (rw [← eg_4, if_pos zc157, eg_3]; done) | (rw [← eg_4, if_neg zc157]; done)) rfl ?_
                        refine j_aload_n hx d_Mo_log_183 rfl 1 rfl ?_
                        refine j_callVv hx (c_Mo_blanks hG s9_5 (by rw [eg_5]; exact (lg6_l hp9).1)) mo_Mo_blanks mv_Mo_blanks t_1592 (by decide) rfl (by decide) (sh_111 _ _) rfl rfl (Nat.le_of_ble_eq_true rfl) d_Mo_log_184 ?_
                        refine j_goto (tgt := 46) hx d_Mo_log_187 (by decide) ?_
                        refine J.lsub (ls' := [(0, .ref (G.1 111)), (1, .int n), (2, .int (nI i))]) [1, 2, 3] rfl ?_
                        refine J.to ?_ ?_ (ih46 _ ?_ (m - 1) (mlgN t i) (mbl (lg6 t i)) HGO.2.2.1 (mlgN_le hp9 hi12) HGO.2.2.2 (HGO.1.symm.trans hr9) rfl)
                        · first | (rw [eg_5]) | fail
                        · first | (rw [eg_4] at zc157; unfold mlgN; first | (rw [if_pos zc157]; simp only [nI_s]; done) | (rw [if_neg zc157]; done)) | fail
                        · first | (have h8 := HGO.2.1; omega) | fail
                      · skip
                        have hi9 : i < 12 := lg5_i hp9 (by rw [← eg_4]; exact zc157) hi12
                        refine j_aload_n hx d_Mo_log_160 rfl 1 rfl ?_
                        refine j_get hx ck_Mo 28 (by decide) t_1446 (by decide) (sh_111 _ _) rfl d_Mo_log_161 ?_
                        refine j_iload_n hx d_Mo_log_164 rfl 3 rfl ?_
                        have hz165_5 : zin (nI i) 12 i := by first | exact ⟨rfl, by decide⟩ | exact zin_nI (by omega) (by first | decide | omega) | exact zin_of (by omega) (by omega)
                        refine j_aaldk hx ias_readLog.1.1 (ias_readLog.2.1 _ _) hz165_5 d_Mo_log_165 ?_
                        refine j_iconst (v := 0) hx d_Mo_log_166 (by decide) ?_
                        refine j_iload hx d_Mo_log_167 5 rfl ?_
                        have hz169_6 : zin (0) 2 0 := by first | exact ⟨rfl, by decide⟩ | exact zin_nI (by omega) (by first | decide | omega) | exact zin_of (by omega) (by omega)
                        refine j_iastk hx (ias_readLog.2.2 _ hz165_5.2) hz169_6 d_Mo_log_169 ?_
                        refine j_aload_n hx d_Mo_log_170 rfl 1 rfl ?_
                        refine j_get hx ck_Mo 28 (by decide) t_1446 (by decide) (sh_111 _ _) rfl d_Mo_log_171 ?_
                        refine j_iload_n hx d_Mo_log_174 rfl 3 rfl ?_
                        have hz175_7 : zin (nI i) 12 i := by first | exact ⟨rfl, by decide⟩ | exact zin_nI (by omega) (by first | decide | omega) | exact zin_of (by omega) (by omega)
                        refine j_aaldk hx ias_readLog.1.1 (ias_readLog.2.1 _ _) hz175_7 d_Mo_log_175 ?_
                        refine j_iconst (v := 1) hx d_Mo_log_176 (by decide) ?_
                        refine j_iload hx d_Mo_log_177 0 rfl ?_
                        have hz179_8 : zin (1) 2 1 := by first | exact ⟨rfl, by decide⟩ | exact zin_nI (by omega) (by first | decide | omega) | exact zin_of (by omega) (by omega)
                        refine j_iastk hx (ias_readLog.2.2 _ hz175_7.2) hz179_8 d_Mo_log_179 ?_
                        refine j_iinc hx [(2, .int ((nI i) + 1)), (5, .int (mnV s9_3 0 1)), (0, .ref (G.1 111)), (1, .int n), (3, .int (t 111 4)), (4, .int (mnV t 0 59))] d_Mo_log_180 3 rfl rfl (by decide) rfl ?_
                        obtain ⟨s9_5, eg_5⟩ : ∃ z : St, z = lg6 t i := ⟨_, rfl⟩
                        refine J.to (σ' := s9_5) (by rw [eg_5]; unfold lg6; first | (rw [← eg_4, if_pos zc157, eg_3]; done) | (rw [← eg_4, if_neg zc157]; done)) rfl ?_
                        refine j_aload_n hx d_Mo_log_183 rfl 2 rfl ?_
                        refine j_callVv hx (c_Mo_blanks hG s9_5 (by rw [eg_5]; exact (lg6_l hp9).1)) mo_Mo_blanks mv_Mo_blanks t_1592 (by decide) rfl (by decide) (sh_111 _ _) rfl rfl (Nat.le_of_ble_eq_true rfl) d_Mo_log_184 ?_
                        refine j_goto (tgt := 46) hx d_Mo_log_187 (by decide) ?_
                        refine J.lsub (ls' := [(0, .ref (G.1 111)), (1, .int n), (2, .int ((nI i) + 1))]) [2, 3, 0] rfl ?_
                        refine J.to ?_ ?_ (ih46 _ ?_ (m - 1) (mlgN t i) (mbl (lg6 t i)) HGO.2.2.1 (mlgN_le hp9 hi12) HGO.2.2.2 (HGO.1.symm.trans hr9) rfl)
                        · first | (rw [eg_5]) | fail
                        · first | (rw [eg_4] at zc157; unfold mlgN; first | (rw [if_pos zc157]; simp only [nI_s]; done) | (rw [if_neg zc157]; done)) | fail
                        · first | (have h8 := HGO.2.1; omega) | fail
                    · skip
                      refine j_aload_n hx d_Mo_log_133 rfl 0 rfl ?_
                      refine j_iconst (v := 3) hx d_Mo_log_134 (by decide) ?_
                      refine j_iload_n hx d_Mo_log_135 rfl 3 rfl ?_
                      refine j_callVv hx (c_Mo_wrong hG s9_2 3 (t 111 4)) mo_Mo_wrong mv_Mo_wrong t_1622 (by decide) rfl (by decide) (sh_111 _ _) rfl rfl (Nat.le_of_ble_eq_true rfl) d_Mo_log_136 ?_
                      obtain ⟨s9_3, eg_3⟩ : ∃ z : St, z = lg3 t i := ⟨_, rfl⟩
                      refine J.to (σ' := s9_3) (by rw [eg_3]; unfold lg3; rw [← eg_2]; first | exact (if_neg (fun z => zc124 z.1)).symm | exact (if_neg (fun z => zc130 z.2)).symm | exact (if_pos ⟨zc124, zc130⟩).symm) rfl ?_
                      have hp3 : pB s9_3 := by rw [eg_3]; exact (lg3_l hp9).1
                      refine j_aload_n hx d_Mo_log_139 rfl 0 rfl ?_
                      refine j_iconst (v := 0) hx d_Mo_log_140 (by decide) ?_
                      refine j_iconst (v := 1) hx d_Mo_log_141 (by decide) ?_
                      refine j_callVi hx (c_Mo_number hG s9_3 0 1 (by exact hp3)) mo_Mo_number mv_Mo_number t_1633 (by decide) rfl (by decide) (sh_111 _ _) rfl rfl (Nat.le_of_ble_eq_true rfl) d_Mo_log_142 ?_
                      refine j_istore hx [(5, .int (mnV s9_3 0 1)), (0, .ref (G.1 111)), (1, .int n), (2, .int (nI i)), (3, .int (t 111 4)), (4, .int (mnV t 0 59))] d_Mo_log_145 (by decide) rfl ?_
                      refine j_aload_n hx d_Mo_log_147 rfl 1 rfl ?_
                      refine j_bipush (v := 59) hx d_Mo_log_148 (by decide) ?_
                      refine j_callVv hx (c_Mo_sign hG (mnS s9_3 0 1) 59 (by exact mnS_p hp3)) mo_Mo_sign mv_Mo_sign t_1641 (by decide) rfl (by decide) (sh_111 _ _) rfl rfl (Nat.le_of_ble_eq_true rfl) d_Mo_log_150 ?_
                      obtain ⟨s9_4, eg_4⟩ : ∃ z : St, z = lg5 t i := ⟨_, rfl⟩
                      refine J.to (σ' := s9_4) (by rw [eg_4]; rw [eg_3]; rfl) rfl ?_
                      refine j_aload_n hx d_Mo_log_153 rfl 1 rfl ?_
                      refine j_get hx ck_Mo 5 (by decide) t_1423 (by decide) (sh_111 _ _) rfl d_Mo_log_154 ?_
                      refine j_if_ne (tgt := 183) hx d_Mo_log_157 (by decide) (fun zc157 => ?_) (fun zc157 => ?_)
                      · skip
                        obtain ⟨s9_5, eg_5⟩ : ∃ z : St, z = lg6 t i := ⟨_, rfl⟩
                        refine J.to (σ' := s9_5) (by rw [eg_5]; unfold lg6; first | (rw [← eg_4, if_pos zc157, eg_3]; done) | (rw [← eg_4, if_neg zc157]; done)) rfl ?_
                        refine j_aload_n hx d_Mo_log_183 rfl 1 rfl ?_
                        refine j_callVv hx (c_Mo_blanks hG s9_5 (by rw [eg_5]; exact (lg6_l hp9).1)) mo_Mo_blanks mv_Mo_blanks t_1592 (by decide) rfl (by decide) (sh_111 _ _) rfl rfl (Nat.le_of_ble_eq_true rfl) d_Mo_log_184 ?_
                        refine j_goto (tgt := 46) hx d_Mo_log_187 (by decide) ?_
                        refine J.lsub (ls' := [(0, .ref (G.1 111)), (1, .int n), (2, .int (nI i))]) [1, 2, 3] rfl ?_
                        refine J.to ?_ ?_ (ih46 _ ?_ (m - 1) (mlgN t i) (mbl (lg6 t i)) HGO.2.2.1 (mlgN_le hp9 hi12) HGO.2.2.2 (HGO.1.symm.trans hr9) rfl)
                        · first | (rw [eg_5]) | fail
                        · first | (rw [eg_4] at zc157; unfold mlgN; first | (rw [if_pos zc157]; simp only [nI_s]; done) | (rw [if_neg zc157]; done)) | fail
                        · first | (have h8 := HGO.2.1; omega) | fail
                      · skip
                        have hi9 : i < 12 := lg5_i hp9 (by rw [← eg_4]; exact zc157) hi12
                        refine j_aload_n hx d_Mo_log_160 rfl 1 rfl ?_
                        refine j_get hx ck_Mo 28 (by decide) t_1446 (by decide) (sh_111 _ _) rfl d_Mo_log_161 ?_
                        refine j_iload_n hx d_Mo_log_164 rfl 3 rfl ?_
                        have hz165_9 : zin (nI i) 12 i := by first | exact ⟨rfl, by decide⟩ | exact zin_nI (by omega) (by first | decide | omega) | exact zin_of (by omega) (by omega)
                        refine j_aaldk hx ias_readLog.1.1 (ias_readLog.2.1 _ _) hz165_9 d_Mo_log_165 ?_
                        refine j_iconst (v := 0) hx d_Mo_log_166 (by decide) ?_
                        refine j_iload hx d_Mo_log_167 5 rfl ?_
                        have hz169_10 : zin (0) 2 0 := by first | exact ⟨rfl, by decide⟩ | exact zin_nI (by omega) (by first | decide | omega) | exact zin_of (by omega) (by omega)
                        refine j_iastk hx (ias_readLog.2.2 _ hz165_9.2) hz169_10 d_Mo_log_169 ?_
                        refine j_aload_n hx d_Mo_log_170 rfl 1 rfl ?_
                        refine j_get hx ck_Mo 28 (by decide) t_1446 (by decide) (sh_111 _ _) rfl d_Mo_log_171 ?_
                        refine j_iload_n hx d_Mo_log_174 rfl 3 rfl ?_
                        have hz175_11 : zin (nI i) 12 i := by first | exact ⟨rfl, by decide⟩ | exact zin_nI (by omega) (by first | decide | omega) | exact zin_of (by omega) (by omega)
                        refine j_aaldk hx ias_readLog.1.1 (ias_readLog.2.1 _ _) hz175_11 d_Mo_log_175 ?_
                        refine j_iconst (v := 1) hx d_Mo_log_176 (by decide) ?_
                        refine j_iload hx d_Mo_log_177 0 rfl ?_
                        have hz179_12 : zin (1) 2 1 := by first | exact ⟨rfl, by decide⟩ | exact zin_nI (by omega) (by first | decide | omega) | exact zin_of (by omega) (by omega)
                        refine j_iastk hx (ias_readLog.2.2 _ hz175_11.2) hz179_12 d_Mo_log_179 ?_
                        refine j_iinc hx [(2, .int ((nI i) + 1)), (5, .int (mnV s9_3 0 1)), (0, .ref (G.1 111)), (1, .int n), (3, .int (t 111 4)), (4, .int (mnV t 0 59))] d_Mo_log_180 3 rfl rfl (by decide) rfl ?_
                        obtain ⟨s9_5, eg_5⟩ : ∃ z : St, z = lg6 t i := ⟨_, rfl⟩
                        refine J.to (σ' := s9_5) (by rw [eg_5]; unfold lg6; first | (rw [← eg_4, if_pos zc157, eg_3]; done) | (rw [← eg_4, if_neg zc157]; done)) rfl ?_
                        refine j_aload_n hx d_Mo_log_183 rfl 2 rfl ?_
                        refine j_callVv hx (c_Mo_blanks hG s9_5 (by rw [eg_5]; exact (lg6_l hp9).1)) mo_Mo_blanks mv_Mo_blanks t_1592 (by decide) rfl (by decide) (sh_111 _ _) rfl rfl (Nat.le_of_ble_eq_true rfl) d_Mo_log_184 ?_
                        refine j_goto (tgt := 46) hx d_Mo_log_187 (by decide) ?_
                        refine J.lsub (ls' := [(0, .ref (G.1 111)), (1, .int n), (2, .int ((nI i) + 1))]) [2, 3, 0] rfl ?_
                        refine J.to ?_ ?_ (ih46 _ ?_ (m - 1) (mlgN t i) (mbl (lg6 t i)) HGO.2.2.1 (mlgN_le hp9 hi12) HGO.2.2.2 (HGO.1.symm.trans hr9) rfl)
                        · first | (rw [eg_5]) | fail
                        · first | (rw [eg_4] at zc157; unfold mlgN; first | (rw [if_pos zc157]; simp only [nI_s]; done) | (rw [if_neg zc157]; done)) | fail
                        · first | (have h8 := HGO.2.1; omega) | fail
                · skip
                  have hlt81 := nt_go (n := i) hi_k (by omega) zc84
                  refine j_aload_n hx d_Mo_log_87 rfl 0 rfl ?_
                  refine j_get hx ck_Mo 5 (by decide) t_1423 (by decide) (sh_111 _ _) rfl d_Mo_log_88 ?_
                  refine j_if_ne (tgt := 114) hx d_Mo_log_91 (by decide) (fun zc91 => ?_) (fun zc91 => ?_)
                  · skip
                    refine j_iinc hx [(5, .int ((nI k) + 1)), (0, .ref (G.1 111)), (1, .int n), (2, .int (nI i)), (3, .int (t 111 4)), (4, .int (mnV t 0 59))] d_Mo_log_114 5 rfl rfl (by decide) rfl ?_
                    refine j_goto (tgt := 81) hx d_Mo_log_117 (by decide) ?_
                    refine J.lsub (ls' := [(0, .ref (G.1 111)), (1, .int n), (2, .int (nI i)), (3, .int (t 111 4)), (4, .int (mnV t 0 59)), (5, .int ((nI k) + 1))]) [1, 2, 3, 4, 5, 0] rfl ?_
                    refine J.to ?_ ?_ (ih81 _ ?_ (k + 1) hlt81 rfl)
                    · first | (rw [lg2_s]; first | exact (if_neg (fun z => zc91 z.1)).symm | exact (if_neg (fun z => zc105 z.2)).symm | exact (if_pos ⟨zc91, zc105⟩).symm) | fail
                    · first | (simp only [nI_s]) | fail
                    · first | (omega) | fail
                  · skip
                    refine j_aload_n hx d_Mo_log_94 rfl 0 rfl ?_
                    refine j_get hx ck_Mo 28 (by decide) t_1446 (by decide) (sh_111 _ _) rfl d_Mo_log_95 ?_
                    refine j_iload hx d_Mo_log_98 5 rfl ?_
                    have hz100_13 : zin (nI k) 12 k := by first | exact ⟨rfl, by decide⟩ | exact zin_nI (by omega) (by first | decide | omega) | exact zin_of (by omega) (by omega)
                    refine j_aaldk hx ias_readLog.1.1 (ias_readLog.2.1 _ _) hz100_13 d_Mo_log_100 ?_
                    refine j_iconst (v := 0) hx d_Mo_log_101 (by decide) ?_
                    have hz102_14 : zin (0) 2 0 := by first | exact ⟨rfl, by decide⟩ | exact zin_nI (by omega) (by first | decide | omega) | exact zin_of (by omega) (by omega)
                    refine j_ialdk hx (ias_readLog.2.2 _ hz100_13.2) hz102_14 d_Mo_log_102 ?_
                    refine j_iload hx d_Mo_log_103 4 rfl ?_
                    refine j_icmp_ne (tgt := 114) hx d_Mo_log_105 (by decide) (fun zc105 => ?_) (fun zc105 => ?_)
                    · skip
                      refine j_iinc hx [(5, .int ((nI k) + 1)), (0, .ref (G.1 111)), (1, .int n), (2, .int (nI i)), (3, .int (t 111 4)), (4, .int (mnV t 0 59))] d_Mo_log_114 5 rfl rfl (by decide) rfl ?_
                      refine j_goto (tgt := 81) hx d_Mo_log_117 (by decide) ?_
                      refine J.lsub (ls' := [(0, .ref (G.1 111)), (1, .int n), (2, .int (nI i)), (3, .int (t 111 4)), (4, .int (mnV t 0 59)), (5, .int ((nI k) + 1))]) [1, 2, 3, 4, 5, 0] rfl ?_
                      refine J.to ?_ ?_ (ih81 _ ?_ (k + 1) hlt81 rfl)
                      · first | (rw [lg2_s]; first | exact (if_neg (fun z => zc91 z.1)).symm | exact (if_neg (fun z => zc105 z.2)).symm | exact (if_pos ⟨zc91, zc105⟩).symm) | fail
                      · first | (simp only [nI_s]) | fail
                      · first | (omega) | fail
                    · skip
                      refine j_aload_n hx d_Mo_log_108 rfl 0 rfl ?_
                      refine j_iconst (v := 2) hx d_Mo_log_109 (by decide) ?_
                      refine j_iload_n hx d_Mo_log_110 rfl 3 rfl ?_
                      refine j_callVv hx (c_Mo_wrong hG (lg2 t k) 2 (t 111 4)) mo_Mo_wrong mv_Mo_wrong t_1622 (by decide) rfl (by decide) (sh_111 _ _) rfl rfl (Nat.le_of_ble_eq_true rfl) d_Mo_log_111 ?_
                      refine j_iinc hx [(5, .int ((nI k) + 1)), (0, .ref (G.1 111)), (1, .int n), (2, .int (nI i)), (3, .int (t 111 4)), (4, .int (mnV t 0 59))] d_Mo_log_114 5 rfl rfl (by decide) rfl ?_
                      refine j_goto (tgt := 81) hx d_Mo_log_117 (by decide) ?_
                      refine J.lsub (ls' := [(0, .ref (G.1 111)), (1, .int n), (2, .int (nI i)), (3, .int (t 111 4)), (4, .int (mnV t 0 59)), (5, .int ((nI k) + 1))]) [1, 2, 3, 4, 5, 0] rfl ?_
                      refine J.to ?_ ?_ (ih81 _ ?_ (k + 1) hlt81 rfl)
                      · first | (rw [lg2_s]; first | exact (if_neg (fun z => zc91 z.1)).symm | exact (if_neg (fun z => zc105 z.2)).symm | exact (if_pos ⟨zc91, zc105⟩).symm) | fail
                      · first | (simp only [nI_s]) | fail
                      · first | (omega) | fail
            refine J.lsub (ls' := [(0, .ref (G.1 111)), (1, .int n), (2, .int (nI i)), (3, .int (t 111 4)), (4, .int (mnV t 0 59)), (5, .int 0)]) [3, 4, 5, 2, 1, 0] rfl ?_
            refine J.to ?_ ?_ (hl81 _ 0 (Nat.zero_le _) rfl)
            · first | (rfl) | fail
            · first | (rfl) | fail
    refine J.lsub (ls' := [(0, .ref (G.1 111)), (1, .int n), (2, .int 0)]) [1, 2, 0] rfl ?_
    refine J.to ?_ ?_ (hl46 _ 101 0 s9_1 hp1 (by decide) hz1 (by rw [eg_1]; rfl) rfl)
    · first | (rfl) | fail
    · first | (rfl) | fail
  · first | exact absurd hl zc21 | exact absurd zc21 hl | exact absurd zc21 (i_lelt hl) | exact absurd hl (i_lelt zc21) | exact absurd zc21 (i_nle hl) | exact absurd zc21 (i_nlt hl)

set_option maxRecDepth 20000 in
set_option maxHeartbeats 600000 in
theorem c_Mo_logI {l : Launch} {G : Gz} (hG : zI G) (σ : St) (n : Int32) (hbad : ¬ ((0 ≤ n ∧ n ≤ (up σ 111 0 0) 111 1) ∧ n ≤ 100)) : MI l G y_Mo_log prog_14_method_44_code 6 .int 4 [.ref (G.1 111), .int n] σ 0 (mrf σ 1 1) := by
  refine MI.of hG (by decide) (Nat.le_of_ble_eq_true rfl) (fun X hx hq => ?_)
  show J l G X 6 σ 0 [(0, .ref (G.1 111)), (1, .int n)] []
  refine j_aload_n hx d_Mo_log_0 rfl 0 rfl ?_
  refine j_iconst (v := 0) hx d_Mo_log_1 (by decide) ?_
  refine j_put hx ck_Mo 0 (by decide) t_1418 (by decide) (sh_111 _ _) rfl (Nat.le_of_ble_eq_true rfl) (sh_111 _ _) d_Mo_log_2 ?_
  refine j_aload_n hx d_Mo_log_5 rfl 0 rfl ?_
  refine j_iload_n hx d_Mo_log_6 rfl 1 rfl ?_
  refine j_iconst (v := 0) hx d_Mo_log_7 (by decide) ?_
  refine j_aload_n hx d_Mo_log_8 rfl 0 rfl ?_
  refine j_get hx ck_Mo 1 (by decide) t_1419 (by decide) (sh_111 _ _) rfl d_Mo_log_9 ?_
  by_cases hn12 : 0 ≤ n ∧ n ≤ ((up σ 111 0 0) 111 1)
  · skip
    refine j_callSi hx (c_Mo_in1 hG (up σ 111 0 0) n 0 ((up σ 111 0 0) 111 1) (by exact hn12)) mo_Mo_in t_1582 t_1581 (by decide) rfl rfl (Nat.le_of_ble_eq_true rfl) d_Mo_log_12 ?_
    refine j_if_eq (tgt := 24) hx d_Mo_log_15 (by decide) (fun zc15 => absurd zc15 (by decide)) (fun _ => ?_)
    refine j_iload_n hx d_Mo_log_18 rfl 1 rfl ?_
    refine j_bipush (v := 100) hx d_Mo_log_19 (by decide) ?_
    refine j_icmp_le (tgt := 28) hx d_Mo_log_21 (by decide) (fun zc21 => ?_) (fun zc21 => ?_)
    · exact absurd ⟨hn12, zc21⟩ hbad
    · skip
      refine j_iconst (v := 1) hx d_Mo_log_24 (by decide) ?_
      refine j_goto (tgt := 29) hx d_Mo_log_25 (by decide) ?_
      refine j_iconst (v := 1) hx d_Mo_log_29 (by decide) ?_
      refine j_iconst (v := 1) hx d_Mo_log_30 (by decide) ?_
      refine j_callVi hx (c_Mo_bad1 hG (up σ 111 0 0) 1 1 1 (by decide) (by exact up_rd) (by decide) (by decide)) mo_Mo_bad mv_Mo_bad t_1584 (by decide) rfl (by decide) (sh_111 _ _) rfl rfl (Nat.le_of_ble_eq_true rfl) d_Mo_log_31 ?_
      refine j_if_eq (tgt := 39) hx d_Mo_log_34 (by decide) (fun zc34 => absurd zc34 (by decide)) (fun _ => ?_)
      refine j_iconst (v := 0) hx d_Mo_log_37 (by decide) ?_
      exact j_iret hx hq rfl d_Mo_log_38 (by first | (rfl) | fail) (by first | (rfl) | fail)
  refine j_callSi hx (c_Mo_in0 hG (up σ 111 0 0) n 0 ((up σ 111 0 0) 111 1) (by exact hn12)) mo_Mo_in t_1582 t_1581 (by decide) rfl rfl (Nat.le_of_ble_eq_true rfl) d_Mo_log_12 ?_
  refine j_if_eq (tgt := 24) hx d_Mo_log_15 (by decide) (fun _ => ?_) (fun zc15 => absurd (by decide) zc15)
  refine j_iconst (v := 1) hx d_Mo_log_24 (by decide) ?_
  refine j_goto (tgt := 29) hx d_Mo_log_25 (by decide) ?_
  refine j_iconst (v := 1) hx d_Mo_log_29 (by decide) ?_
  refine j_iconst (v := 1) hx d_Mo_log_30 (by decide) ?_
  refine j_callVi hx (c_Mo_bad1 hG (up σ 111 0 0) 1 1 1 (by decide) (by exact up_rd) (by decide) (by decide)) mo_Mo_bad mv_Mo_bad t_1584 (by decide) rfl (by decide) (sh_111 _ _) rfl rfl (Nat.le_of_ble_eq_true rfl) d_Mo_log_31 ?_
  refine j_if_eq (tgt := 39) hx d_Mo_log_34 (by decide) (fun zc34 => absurd zc34 (by decide)) (fun _ => ?_)
  refine j_iconst (v := 0) hx d_Mo_log_37 (by decide) ?_
  exact j_iret hx hq rfl d_Mo_log_38 (by first | (rfl) | fail) (by first | (rfl) | fail)

