/-! ===== WORK ===== -/
/-- the reader's fields alone have changed -/
def fk (t u : St) : Prop := ∀ k, ¬ (k = 4 ∨ k = 5 ∨ k = 6 ∨ k = 8 ∨ k = 24 ∨ k = 32) → u 111 k = t 111 k
theorem fk.rf {t : St} : fk t t := fun _ _ => rfl
theorem fk.tr {t u v : St} (h : fk t u) (h2 : fk u v) : fk t v := fun k hk => (h2 k hk).trans (h k hk)
theorem fk_up {t u : St} (h : fk t u) {o k : Nat} {x : Int32} (hk : o ≠ 111 ∨ (k = 4 ∨ k = 5 ∨ k = 6 ∨ k = 8 ∨ k = 24 ∨ k = 32)) : fk t (up u o k x) := fun j hj => by
  rcases hk with z | z
  · rw [up_o (Ne.symm z)]; exact h j hj
  · by_cases ho : o = 111
    · subst ho; rw [up_k (by omega)]; exact h j hj
    · rw [up_o (Ne.symm ho)]; exact h j hj
theorem fk_bl {t u : St} (h : fk t u) : fk t (mbl u) := fk_up h (Or.inr (Or.inl rfl))
theorem fk_bz {t u : St} (h : fk t u) : fk t (mbz u) := by unfold mbz; split; exact fk_bl h; exact h
theorem fk_sk {t u : St} (h : fk t u) : fk t (msk u) := fk_up h (Or.inr (Or.inl rfl))
theorem fk_wr {t u : St} {k p : Int32} (h : fk t u) : fk t (wr u k p) := fun j hj => by rw [wr_k (by omega) (by omega)]; exact h j hj
theorem fk_sg {t u : St} {c : Int32} (h : fk t u) : fk t (msg u c) := fun j hj => by rw [msg_k (by omega) (by omega) (by omega)]; exact h j hj
theorem fk_nu {t u : St} {lo hi : Int32} (h : fk t u) : fk t (mnS u lo hi) := fun j hj => by rw [mnS_k (by omega) (by omega) (by omega)]; exact h j hj
theorem fk_nO {t u : St} {o k : Nat} {lo hi : Int32} (h : fk t u) (ho : o ≠ 111) : fk t (mnO u o k lo hi) := by unfold mnO; exact fk_up (fk_nu h) (Or.inl ho)
theorem fk_op {t u : St} (h : fk t u) : fk t (mop u) := by
  unfold mop; split
  · exact fk_wr h
  · split
    · exact fk_up h (by omega)
    · exact h
theorem fk_c8 {t u : St} (h : fk t u) : fk t (mcl8 u) := fk_up h (by omega)
theorem fk_w2 {t u : St} {k : Int32} (h : fk t u) : fk t (wq2 u k) := by unfold wq2; exact fk_up (fk_up (fk_sk h) (by omega)) (by omega)
theorem fk_R {c : St → Bool} {rec : St → St} (hr : ∀ u, fk u (rec u)) : ∀ (m : Nat) (t u : St), fk t u → fk t (wqR c rec m u) := by
  intro m
  induction m with
  | zero => intro t u h; exact h
  | succ m ih =>
    intro t u h
    rw [wqR]; split
    · exact ih _ _ (fk_bl (h.tr (hr u)))
    · exact h
theorem fk_B {rec : St → St} (hr : ∀ u, fk u (rec u)) {t u : St} {k : Int32} {o : Nat} (h : fk t u) (ho : o ≠ 111) : fk t (wqB rec u k o) := by
  unfold wqB
  split
  · exact fk_nO h ho
  · split
    · exact fk_nO (fk_nO h ho) ho
    · split
      · exact fk_nO h ho
      · split
        · unfold wq6; exact fk_c8 (fk_sg (fk_R hr _ _ _ (fk_bl (fk_sg (fk_nO h ho)))))
        · exact h
theorem fk_G {rec : St → St} (hr : ∀ u, fk u (rec u)) {t u : St} {k : Int32} (h : fk t u) : fk t (wqG rec u k) := by
  unfold wqG wqE; exact fk_sg (fk_up (fk_B hr (fk_w2 h) (by omega)) (by omega))
theorem fk_F {rec : St → St} (hr : ∀ u, fk u (rec u)) (t : St) : fk t (wqF rec t) := by
  unfold wqF
  split
  · exact fk_wr (fk_bz fk.rf)
  · split
    · split
      · exact fk_op (fk_bz fk.rf)
      · exact fk_G hr (fk_op (fk_bz fk.rf))
    · exact fk_G hr (fk_bz fk.rf)
theorem fk_N : ∀ (n : Nat) (t : St), fk t (wqN n t) := by
  intro n
  induction n with
  | zero => exact fk_F (fun u => fk.rf)
  | succ n ih => exact fk_F ih
def wk0 (σ : St) (n : Int32) : St := up (mst (t0 σ) n) 111 32 0
def wkF (σ : St) (n : Int32) : St := wqR wqc2 (wqN 6) 151 (wk0 σ n)
def wkG (t : St) (w : Nat) : St := up (up (up (up (fl (up t 111 3 (-1)) (591 + w) 31 (t 122)) 111 38 (nI (w + 1))) 111 46 0) 111 47 0) 111 39 0
def wkS (σ : St) (n : Int32) (w : Nat) : St := if wkF σ n 111 5 = 0 then mgN 6 0 (sN (wkF σ n)) (wkG (wkF σ n) w) else up (wkF σ n) 111 3 (wkF σ n 111 6)
def wkV (σ : St) (n : Int32) (w : Nat) : Int32 := if wkF σ n 111 5 = 0 then mgN 6 0 (sN (wkF σ n)) (wkG (wkF σ n) w) 111 47 else wkF σ n 111 5 - 10
theorem wk0_W {σ : St} {n : Int32} (h0 : 0 ≤ n.toInt) (h1 : n.toInt ≤ 150) (h2 : 0 ≤ ((t0 σ) 115 2).toInt ∧ ((t0 σ) 115 2).toInt ≤ 3) (h3 : 0 ≤ ((t0 σ) 115 3).toInt ∧ ((t0 σ) 115 3).toInt ≤ 6) (hst : ∀ s, s < 80 → 0 ≤ ((t0 σ) (511 + s) 1).toInt) : pW (wk0 σ n) := by
  have hp := mst_p (t := t0 σ) h0 (show n.toInt ≤ 600 by omega)
  unfold pW wk0
  refine ⟨?_, by rw [up_k (by decide), mst_2]; exact h1, fun _ => ?_, ?_, fun s hs => ?_⟩
  · unfold pB at *; rw [up_k (by decide), up_k (by decide)]; exact hp
  · rw [up_rd, up_k (by decide)]; exact ⟨by decide, hp.1⟩
  · rw [up_o (by decide), mst_o (by decide)]; exact ⟨h2, h3⟩
  · rw [up_o (by omega), mst_o (by omega)]; exact hst s hs
theorem wk0_8 {σ : St} {n : Int32} : wk0 σ n 111 8 = 0 := by unfold wk0; rw [up_k (by decide), mst_8]
theorem wk_facts {σ : St} {n : Int32} {w : Nat} (h0 : 0 ≤ n.toInt) (h1 : n.toInt ≤ 150) (hw : mW (t0 σ)) (hr : rW (t0 σ) 122) (h2 : 0 ≤ ((t0 σ) 115 2).toInt ∧ ((t0 σ) 115 2).toInt ≤ 3) (h3 : 0 ≤ ((t0 σ) 115 3).toInt ∧ ((t0 σ) 115 3).toInt ≤ 6) (hst : ∀ s, s < 80 → 0 ≤ ((t0 σ) (511 + s) 1).toInt) (h38 : (t0 σ) 111 38 = nI w) (hw16 : w < 16) (h5 : wkF σ n 111 5 = 0) :
    wkF σ n 111 38 = nI w ∧ 0 ≤ (wkF σ n 111 32).toInt ∧ sN (wkF σ n) ≤ 80 ∧ gok (wkG (wkF σ n) w) 6 0 (sN (wkF σ n)) ∧ mW (wkG (wkF σ n) w) ∧ rW (wkG (wkF σ n) w) 122 ∧ wkG (wkF σ n) w 111 32 = wkF σ n 111 32 := by
  have hW := wk0_W h0 h1 h2 h3 hst
  obtain ⟨q1, q2⟩ := wqR_q (c := wqc2) (wqN_q 6 0 rfl (by decide)) 151 (wk0 σ n) hW wk0_8
  have hF : fk (wk0 σ n) (wkF σ n) := fk_R (fk_N 6) 151 _ _ fk.rf
  have hO : ∀ o, o ≠ 111 → (o < 511 ∨ 591 ≤ o) → wkF σ n o = (t0 σ) o := fun o p q => by
    have := q1.2.2.2.1 o p q
    unfold wkF; rw [this]; unfold wk0; rw [up_o p, mst_o p]
  have hK : ∀ k, ¬ (k = 1 ∨ k = 2 ∨ k = 4 ∨ k = 5 ∨ k = 6 ∨ k = 7 ∨ k = 8 ∨ k = 24 ∨ k = 32) → wkF σ n 111 k = (t0 σ) 111 k := fun k hk => by
    rw [hF k (by omega)]; unfold wk0; rw [up_k (by omega), mst_3 (by omega)]
  have hW2 : pW (wkF σ n) := okq.pW q1 hW (by omega)
  have hs := hW2.2.2.1 h5
  have hb := hW2.1.2.1
  have hc := hW2.2.1
  have eK : ∀ k, ¬ (k = 3 ∨ k = 38 ∨ k = 46 ∨ k = 47 ∨ k = 39) → wkG (wkF σ n) w 111 k = wkF σ n 111 k := fun k hk => by
    unfold wkG; rw [up_k (by omega), up_k (by omega), up_k (by omega), up_k (by omega), fl_o (by omega), up_k (by omega)]
  have eO : ∀ o, o ≠ 111 → o < 591 → wkG (wkF σ n) w o = wkF σ n o := fun o p q => by
    unfold wkG; rw [up_o p, up_o p, up_o p, up_o p, fl_o (by omega), up_o p]
  refine ⟨by rw [hK 38 (by decide)]; exact h38, hs.1, by unfold sN; omega, ?_, ?_, ?_, eK 32 (by decide)⟩
  · have g := q2 h5
    have e0 : sN (wk0 σ n) = 0 := by unfold sN wk0; rw [up_rd]; rfl
    rw [e0] at g
    exact gok_fr _ _ _ (fun j _ hj => eO _ (by omega) (by have : sN (wkF σ n) ≤ 80 := (by unfold sN; omega); have hj' : j < sN (wkF σ n) := hj; omega)) g
  · refine mW_eq ?_ (fun o p q => ?_) ?_ ?_ hw
    · rw [eO 115 (by decide) (by decide), hO 115 (by decide) (by decide)]
    · rw [eO o (by omega) (by omega), hO o (by omega) (by omega)]
    · rw [eK 23 (by decide), hK 23 (by decide)]
    · rw [eK 37 (by decide), hK 37 (by decide)]
  · unfold rW at *; rw [eO 122 (by decide) (by decide), hO 122 (by decide) (by decide)]; exact hr

set_option maxRecDepth 20000 in
set_option maxHeartbeats 600000 in
theorem c_Mo_work {l : Launch} {G : Gz} (hG : zI G) (σ : St) (n : Int32) (w : Nat) (hv : 0 ≤ n ∧ n ≤ (up σ 111 0 0) 111 1) (hl : n ≤ 150) (ht : ((up σ 111 0 0) 111 1).toInt ≤ 600) (hw : mW (up σ 111 0 0)) (hr : rW (up σ 111 0 0) 122) (h2 : 0 ≤ ((up σ 111 0 0) 115 2).toInt ∧ ((up σ 111 0 0) 115 2).toInt ≤ 3) (h3 : 0 ≤ ((up σ 111 0 0) 115 3).toInt ∧ ((up σ 111 0 0) 115 3).toInt ≤ 6) (hst : ∀ s, s < 80 → 0 ≤ ((up σ 111 0 0) (511 + s) 1).toInt) (h38 : (up σ 111 0 0) 111 38 = nI w) (hw16 : w < 16) : MI l G y_Mo_work prog_14_method_60_code 2 .int 57 [.ref (G.1 111), .int n] σ (wkV σ n w) (wkS σ n w) := by
  refine MI.of hG (by decide) (Nat.le_of_ble_eq_true rfl) (fun X hx hq => ?_)
  show J l G X 2 σ 0 [(0, .ref (G.1 111)), (1, .int n)] []
  have hn0 : 0 ≤ n.toInt := by have := hv.1; rw [i_le] at this; exact this
  have hn6 : n.toInt ≤ 600 := by have := hv.2; rw [i_le] at this; omega
  have hnl : n.toInt ≤ 150 := by have := hl; rw [i_le] at this; exact this
  refine j_aload_n hx d_Mo_work_0 rfl 0 rfl ?_
  refine j_iconst (v := 0) hx d_Mo_work_1 (by decide) ?_
  refine j_put hx ck_Mo 0 (by decide) t_1418 (by decide) (sh_111 _ _) rfl (Nat.le_of_ble_eq_true rfl) (sh_111 _ _) d_Mo_work_2 ?_
  refine j_aload_n hx d_Mo_work_5 rfl 0 rfl ?_
  refine j_iload_n hx d_Mo_work_6 rfl 1 rfl ?_
  refine j_iconst (v := 0) hx d_Mo_work_7 (by decide) ?_
  refine j_aload_n hx d_Mo_work_8 rfl 0 rfl ?_
  refine j_get hx ck_Mo 1 (by decide) t_1419 (by decide) (sh_111 _ _) rfl d_Mo_work_9 ?_
  refine j_callSi hx (c_Mo_in1 hG (up σ 111 0 0) n 0 ((up σ 111 0 0) 111 1) (by exact hv)) mo_Mo_in t_1582 t_1581 (by decide) rfl rfl (Nat.le_of_ble_eq_true rfl) d_Mo_work_12 ?_
  refine j_if_eq (tgt := 25) hx d_Mo_work_15 (by decide) (fun zc15 => absurd zc15 (by decide)) (fun _ => ?_)
  refine j_iload_n hx d_Mo_work_18 rfl 1 rfl ?_
  refine j_sipush (v := 150) hx d_Mo_work_19 (by decide) ?_
  refine j_icmp_le (tgt := 29) hx d_Mo_work_22 (by decide) (fun zc22 => ?_) (fun zc22 => ?_)
  · skip
    refine j_iconst (v := 0) hx d_Mo_work_29 (by decide) ?_
    refine j_iconst (v := 1) hx d_Mo_work_30 (by decide) ?_
    refine j_iconst (v := 1) hx d_Mo_work_31 (by decide) ?_
    refine j_callVi hx (c_Mo_bad0 hG (up σ 111 0 0) 0 1 1 (by rfl) (by exact up_rd)) mo_Mo_bad mv_Mo_bad t_1584 (by decide) rfl (by decide) (sh_111 _ _) rfl rfl (Nat.le_of_ble_eq_true rfl) d_Mo_work_32 ?_
    refine j_if_eq (tgt := 40) hx d_Mo_work_35 (by decide) (fun _ => ?_) (fun zc35 => absurd (by decide) zc35)
    refine j_aload_n hx d_Mo_work_40 rfl 0 rfl ?_
    refine j_get hx ck_Mo 38 (by decide) t_1456 (by decide) (sh_111 _ _) rfl d_Mo_work_41 ?_
    refine j_bipush (v := 16) hx d_Mo_work_44 (by decide) ?_
    refine j_icmp_ne (tgt := 62) hx d_Mo_work_46 (by decide) (fun zc46 => ?_) (fun zc46 => ?_)
    · skip
      refine j_aload_n hx d_Mo_work_62 rfl 0 rfl ?_
      refine j_iload_n hx d_Mo_work_63 rfl 1 rfl ?_
      refine j_callVv hx (c_Mo_starts hG (up σ 111 0 0) n (by exact hn0) (by exact hn6)) mo_Mo_starts mv_Mo_starts t_1588 (by decide) rfl (by decide) (sh_111 _ _) rfl rfl (Nat.le_of_ble_eq_true rfl) d_Mo_work_64 ?_
      refine j_aload_n hx d_Mo_work_67 rfl 0 rfl ?_
      refine j_iconst (v := 0) hx d_Mo_work_68 (by decide) ?_
      refine j_put hx ck_Mo 32 (by decide) t_1450 (by decide) (sh_111 _ _) rfl (Nat.le_of_ble_eq_true rfl) (sh_111 _ _) d_Mo_work_69 ?_
      obtain ⟨s9_1, eg_1⟩ : ∃ z : St, z = wk0 σ n := ⟨_, rfl⟩
      refine J.to (σ' := s9_1) (by rw [eg_1]; first | done | rfl) rfl ?_
      have hW1 : pW s9_1 := by rw [eg_1]; exact wk0_W hn0 hnl h2 h3 hst
      have ho1 : s9_1 111 8 = 0 := by rw [eg_1]; exact wk0_8
      have hz1 : s9_1 111 5 = 0 → (s9_1 111 2).toInt - (s9_1 111 4).toInt < (151 : Nat) := fun _ => by have h1 := hW1.1.1; have h2 := hW1.2.1; omega
      have hl72 : ∀ (N9 : Nat) (m : Nat) (t : St), (pW t) → (t 111 8 = 0) → (t 111 5 = 0 → (t 111 2).toInt - (t 111 4).toInt < m) → (wqR wqc2 (wqN 6) m t = wkF σ n) → m = N9 → J l G X 2 t 72 [(0, .ref (G.1 111)), (1, .int n)] [] := by
        intro N9
        induction N9 using Nat.strongRecOn with
        | _ N9 ih72 =>
          intro m t hW9 ho9 hf9 hr9 hm72
          refine j_aload_n hx d_Mo_work_72 rfl 0 rfl ?_
          refine j_get hx ck_Mo 5 (by decide) t_1423 (by decide) (sh_111 _ _) rfl d_Mo_work_73 ?_
          refine j_if_ne (tgt := 101) hx d_Mo_work_76 (by decide) (fun zc76 => ?_) (fun zc76 => ?_)
          · skip
            have e9 : t = wkF σ n := (wqR_stop (c := wqc2) (fun z => by first | exact zc76 z.1 | exact i_lelt zc87 (of_decide_eq_true z.2))).symm.trans hr9
            refine j_aload_n hx d_Mo_work_101 rfl 0 rfl ?_
            refine j_get hx ck_Mo 5 (by decide) t_1423 (by decide) (sh_111 _ _) rfl d_Mo_work_102 ?_
            refine j_if_eq (tgt := 113) hx d_Mo_work_105 (by decide) (fun zc105 => ?_) (fun zc105 => ?_)
            · skip
              have W := wk_facts (w := w) hn0 hnl hw hr h2 h3 hst h38 hw16 (by rw [← e9]; exact zc105)
              rw [← e9] at W
              refine j_aload_n hx d_Mo_work_113 rfl 0 rfl ?_
              refine j_iconst (v := (-1)) hx d_Mo_work_114 (by decide) ?_
              refine j_put hx ck_Mo 3 (by decide) t_1421 (by decide) (sh_111 _ _) rfl (Nat.le_of_ble_eq_true rfl) (sh_111 _ _) d_Mo_work_115 ?_
              obtain ⟨s9_2, eg_2⟩ : ∃ z : St, z = up t 111 3 (-1) := ⟨_, rfl⟩
              refine J.to (σ' := s9_2) (by rw [eg_2]; first | done | rfl) rfl ?_
              refine j_aload_n hx d_Mo_work_118 rfl 0 rfl ?_
              refine j_get hx ck_Mo 33 (by decide) t_1451 (by decide) (sh_111 _ _) rfl d_Mo_work_119 ?_
              refine j_aload_n hx d_Mo_work_122 rfl 0 rfl ?_
              refine j_get hx ck_Mo 35 (by decide) t_1453 (by decide) (sh_111 _ _) rfl d_Mo_work_123 ?_
              refine j_aload_n hx d_Mo_work_126 rfl 0 rfl ?_
              refine j_get hx ck_Mo 38 (by decide) t_1456 (by decide) (sh_111 _ _) rfl d_Mo_work_127 ?_
              have hz130_1 : zin (s9_2 111 38) 16 w := by rw [eg_2, up_k (by decide), W.1]; exact zin_nI hw16 (by decide)
              refine j_aaldk hx ias_before.1.1 (ias_before.2.1 _ _) hz130_1 d_Mo_work_130 ?_
              refine j_callSv hx (c_Mo_copies hG ia_122 (ias_before.2.2 _ hz130_1.2) s9_2 (by omega)) mo_Mo_copies t_1710 t_1709 (by decide) rfl rfl (Nat.le_of_ble_eq_true rfl) d_Mo_work_131 ?_
              refine j_aload_n hx d_Mo_work_134 rfl 0 rfl ?_
              refine j_dup hx d_Mo_work_135 rfl ?_
              refine j_get hx ck_Mo 38 (by decide) t_1456 (by decide) (sh_111 _ _) rfl d_Mo_work_136 ?_
              refine j_iconst (v := 1) hx d_Mo_work_139 (by decide) ?_
              refine j_iadd hx d_Mo_work_140 ?_
              refine j_put hx ck_Mo 38 (by decide) t_1456 (by decide) (sh_111 _ _) rfl (Nat.le_of_ble_eq_true rfl) (sh_111 _ _) d_Mo_work_141 ?_
              refine j_aload_n hx d_Mo_work_144 rfl 0 rfl ?_
              refine j_iconst (v := 0) hx d_Mo_work_145 (by decide) ?_
              refine j_put hx ck_Mo 46 (by decide) t_1464 (by decide) (sh_111 _ _) rfl (Nat.le_of_ble_eq_true rfl) (sh_111 _ _) d_Mo_work_146 ?_
              refine j_aload_n hx d_Mo_work_149 rfl 0 rfl ?_
              refine j_iconst (v := 0) hx d_Mo_work_150 (by decide) ?_
              refine j_put hx ck_Mo 47 (by decide) t_1465 (by decide) (sh_111 _ _) rfl (Nat.le_of_ble_eq_true rfl) (sh_111 _ _) d_Mo_work_151 ?_
              refine j_aload_n hx d_Mo_work_154 rfl 0 rfl ?_
              refine j_iconst (v := 0) hx d_Mo_work_155 (by decide) ?_
              refine j_put hx ck_Mo 39 (by decide) t_1457 (by decide) (sh_111 _ _) rfl (Nat.le_of_ble_eq_true rfl) (sh_111 _ _) d_Mo_work_156 ?_
              obtain ⟨s9_3, eg_3⟩ : ∃ z : St, z = wkG t w := ⟨_, rfl⟩
              refine J.to (σ' := s9_3) (by rw [eg_3]; have q1 : s9_2 122 = t 122 := (by rw [eg_2]; exact up_o (by decide)); have q2 : (fl s9_2 (591 + w) 31 (s9_2 122)) 111 38 + 1 = nI (w + 1) := (by rw [fl_o (by omega), eg_2, up_k (by decide), W.1, nI_s]); rw [q2, q1, eg_2]; rfl) rfl ?_
              rw [← eg_3] at W
              have hsi : s9_3 111 32 = nI (sN t) := by rw [W.2.2.2.2.2.2]; exact (nI_bk W.2.1).symm
              refine j_aload_n hx d_Mo_work_159 rfl 0 rfl ?_
              refine j_iconst (v := 0) hx d_Mo_work_160 (by decide) ?_
              refine j_aload_n hx d_Mo_work_161 rfl 0 rfl ?_
              refine j_get hx ck_Mo 32 (by decide) t_1450 (by decide) (sh_111 _ _) rfl d_Mo_work_162 ?_
              refine j_callVv hx (show MV l G y_Mo_goes prog_14_method_59_code 5 56 [.ref (G.1 111), .int 0, .int (s9_3 111 32)] s9_3 (mgN 6 0 (sN t) s9_3) from by rw [hsi]; exact c_Mo_goesN hG 6 0 (sN t) s9_3 (Nat.zero_le _) W.2.2.1 W.2.2.2.1 W.2.2.2.2.1 W.2.2.2.2.2.1) mo_Mo_goes mv_Mo_goes t_1712 (by decide) rfl (by decide) (sh_111 _ _) rfl rfl (Nat.le_of_ble_eq_true rfl) d_Mo_work_165 ?_
              refine j_aload_n hx d_Mo_work_168 rfl 0 rfl ?_
              refine j_get hx ck_Mo 47 (by decide) t_1465 (by decide) (sh_111 _ _) rfl d_Mo_work_169 ?_
              exact j_iret hx hq rfl d_Mo_work_172 (by first | (unfold wkV; rw [← e9, ← eg_3]; exact (if_pos zc105).symm) | fail) (by first | (unfold wkS; rw [← e9, ← eg_3]; exact (if_pos zc105).symm) | fail)
            · skip
              refine j_aload_n hx d_Mo_work_108 rfl 0 rfl ?_
              refine j_callVi hx (c_Mo_ends hG t) mo_Mo_ends mv_Mo_ends t_1645 (by decide) rfl (by decide) (sh_111 _ _) rfl rfl (Nat.le_of_ble_eq_true rfl) d_Mo_work_109 ?_
              exact j_iret hx hq rfl d_Mo_work_112 (by first | (unfold wkV; rw [← e9]; exact (if_neg zc105).symm) | fail) (by first | (unfold wkS; rw [← e9]; exact (if_neg zc105).symm) | fail)
          · skip
            refine j_aload_n hx d_Mo_work_79 rfl 0 rfl ?_
            refine j_get hx ck_Mo 4 (by decide) t_1422 (by decide) (sh_111 _ _) rfl d_Mo_work_80 ?_
            refine j_aload_n hx d_Mo_work_83 rfl 0 rfl ?_
            refine j_get hx ck_Mo 2 (by decide) t_1420 (by decide) (sh_111 _ _) rfl d_Mo_work_84 ?_
            refine j_icmp_ge (tgt := 101) hx d_Mo_work_87 (by decide) (fun zc87 => ?_) (fun zc87 => ?_)
            · skip
              have e9 : t = wkF σ n := (wqR_stop (c := wqc2) (fun z => by first | exact zc76 z.1 | exact i_lelt zc87 (of_decide_eq_true z.2))).symm.trans hr9
              refine j_aload_n hx d_Mo_work_101 rfl 0 rfl ?_
              refine j_get hx ck_Mo 5 (by decide) t_1423 (by decide) (sh_111 _ _) rfl d_Mo_work_102 ?_
              refine j_if_eq (tgt := 113) hx d_Mo_work_105 (by decide) (fun zc105 => ?_) (fun zc105 => ?_)
              · skip
                have W := wk_facts (w := w) hn0 hnl hw hr h2 h3 hst h38 hw16 (by rw [← e9]; exact zc105)
                rw [← e9] at W
                refine j_aload_n hx d_Mo_work_113 rfl 0 rfl ?_
                refine j_iconst (v := (-1)) hx d_Mo_work_114 (by decide) ?_
                refine j_put hx ck_Mo 3 (by decide) t_1421 (by decide) (sh_111 _ _) rfl (Nat.le_of_ble_eq_true rfl) (sh_111 _ _) d_Mo_work_115 ?_
                obtain ⟨s9_2, eg_2⟩ : ∃ z : St, z = up t 111 3 (-1) := ⟨_, rfl⟩
                refine J.to (σ' := s9_2) (by rw [eg_2]; first | done | rfl) rfl ?_
                refine j_aload_n hx d_Mo_work_118 rfl 0 rfl ?_
                refine j_get hx ck_Mo 33 (by decide) t_1451 (by decide) (sh_111 _ _) rfl d_Mo_work_119 ?_
                refine j_aload_n hx d_Mo_work_122 rfl 0 rfl ?_
                refine j_get hx ck_Mo 35 (by decide) t_1453 (by decide) (sh_111 _ _) rfl d_Mo_work_123 ?_
                refine j_aload_n hx d_Mo_work_126 rfl 0 rfl ?_
                refine j_get hx ck_Mo 38 (by decide) t_1456 (by decide) (sh_111 _ _) rfl d_Mo_work_127 ?_
                have hz130_2 : zin (s9_2 111 38) 16 w := by rw [eg_2, up_k (by decide), W.1]; exact zin_nI hw16 (by decide)
                refine j_aaldk hx ias_before.1.1 (ias_before.2.1 _ _) hz130_2 d_Mo_work_130 ?_
                refine j_callSv hx (c_Mo_copies hG ia_122 (ias_before.2.2 _ hz130_2.2) s9_2 (by omega)) mo_Mo_copies t_1710 t_1709 (by decide) rfl rfl (Nat.le_of_ble_eq_true rfl) d_Mo_work_131 ?_
                refine j_aload_n hx d_Mo_work_134 rfl 0 rfl ?_
                refine j_dup hx d_Mo_work_135 rfl ?_
                refine j_get hx ck_Mo 38 (by decide) t_1456 (by decide) (sh_111 _ _) rfl d_Mo_work_136 ?_
                refine j_iconst (v := 1) hx d_Mo_work_139 (by decide) ?_
                refine j_iadd hx d_Mo_work_140 ?_
                refine j_put hx ck_Mo 38 (by decide) t_1456 (by decide) (sh_111 _ _) rfl (Nat.le_of_ble_eq_true rfl) (sh_111 _ _) d_Mo_work_141 ?_
                refine j_aload_n hx d_Mo_work_144 rfl 0 rfl ?_
                refine j_iconst (v := 0) hx d_Mo_work_145 (by decide) ?_
                refine j_put hx ck_Mo 46 (by decide) t_1464 (by decide) (sh_111 _ _) rfl (Nat.le_of_ble_eq_true rfl) (sh_111 _ _) d_Mo_work_146 ?_
                refine j_aload_n hx d_Mo_work_149 rfl 0 rfl ?_
                refine j_iconst (v := 0) hx d_Mo_work_150 (by decide) ?_
                refine j_put hx ck_Mo 47 (by decide) t_1465 (by decide) (sh_111 _ _) rfl (Nat.le_of_ble_eq_true rfl) (sh_111 _ _) d_Mo_work_151 ?_
                refine j_aload_n hx d_Mo_work_154 rfl 0 rfl ?_
                refine j_iconst (v := 0) hx d_Mo_work_155 (by decide) ?_
                refine j_put hx ck_Mo 39 (by decide) t_1457 (by decide) (sh_111 _ _) rfl (Nat.le_of_ble_eq_true rfl) (sh_111 _ _) d_Mo_work_156 ?_
                obtain ⟨s9_3, eg_3⟩ : ∃ z : St, z = wkG t w := ⟨_, rfl⟩
                refine J.to (σ' := s9_3) (by rw [eg_3]; have q1 : s9_2 122 = t 122 := (by rw [eg_2]; exact up_o (by decide)); have q2 : (fl s9_2 (591 + w) 31 (s9_2 122)) 111 38 + 1 = nI (w + 1) := (by rw [fl_o (by omega), eg_2, up_k (by decide), W.1, nI_s]); rw [q2, q1, eg_2]; rfl) rfl ?_
                rw [← eg_3] at W
                have hsi : s9_3 111 32 = nI (sN t) := by rw [W.2.2.2.2.2.2]; exact (nI_bk W.2.1).symm
                refine j_aload_n hx d_Mo_work_159 rfl 0 rfl ?_
                refine j_iconst (v := 0) hx d_Mo_work_160 (by decide) ?_
                refine j_aload_n hx d_Mo_work_161 rfl 0 rfl ?_
                refine j_get hx ck_Mo 32 (by decide) t_1450 (by decide) (sh_111 _ _) rfl d_Mo_work_162 ?_
                refine j_callVv hx (show MV l G y_Mo_goes prog_14_method_59_code 5 56 [.ref (G.1 111), .int 0, .int (s9_3 111 32)] s9_3 (mgN 6 0 (sN t) s9_3) from by rw [hsi]; exact c_Mo_goesN hG 6 0 (sN t) s9_3 (Nat.zero_le _) W.2.2.1 W.2.2.2.1 W.2.2.2.2.1 W.2.2.2.2.2.1) mo_Mo_goes mv_Mo_goes t_1712 (by decide) rfl (by decide) (sh_111 _ _) rfl rfl (Nat.le_of_ble_eq_true rfl) d_Mo_work_165 ?_
                refine j_aload_n hx d_Mo_work_168 rfl 0 rfl ?_
                refine j_get hx ck_Mo 47 (by decide) t_1465 (by decide) (sh_111 _ _) rfl d_Mo_work_169 ?_
                exact j_iret hx hq rfl d_Mo_work_172 (by first | (unfold wkV; rw [← e9, ← eg_3]; exact (if_pos zc105).symm) | fail) (by first | (unfold wkS; rw [← e9, ← eg_3]; exact (if_pos zc105).symm) | fail)
              · skip
                refine j_aload_n hx d_Mo_work_108 rfl 0 rfl ?_
                refine j_callVi hx (c_Mo_ends hG t) mo_Mo_ends mv_Mo_ends t_1645 (by decide) rfl (by decide) (sh_111 _ _) rfl rfl (Nat.le_of_ble_eq_true rfl) d_Mo_work_109 ?_
                exact j_iret hx hq rfl d_Mo_work_112 (by first | (unfold wkV; rw [← e9]; exact (if_neg zc105).symm) | fail) (by first | (unfold wkS; rw [← e9]; exact (if_neg zc105).symm) | fail)
            · skip
              have HGO := wqR_go (c := wqc2) (wqN_q 6 0 rfl (by decide)) hW9 ho9 hf9 ⟨zc76, decide_eq_true (i_nle zc87)⟩
              have hpr : pB (wqN 6 t) := ((wqN_q 6 0 rfl (by decide)) t hW9 ho9).1.1
              refine j_aload_n hx d_Mo_work_90 rfl 0 rfl ?_
              refine j_callVv hx (c_Mo_readsN hG 6 0 rfl (by decide) t hW9 ho9) mo_Mo_readsStep mv_Mo_readsStep t_1701 (by decide) rfl (by decide) (sh_111 _ _) rfl rfl (Nat.le_of_ble_eq_true rfl) d_Mo_work_91 ?_
              refine j_aload_n hx d_Mo_work_94 rfl 0 rfl ?_
              refine j_callVv hx (c_Mo_blanks hG (wqN 6 t) (by exact hpr)) mo_Mo_blanks mv_Mo_blanks t_1592 (by decide) rfl (by decide) (sh_111 _ _) rfl rfl (Nat.le_of_ble_eq_true rfl) d_Mo_work_95 ?_
              refine j_goto (tgt := 72) hx d_Mo_work_98 (by decide) ?_
              refine J.lsub (ls' := [(0, .ref (G.1 111)), (1, .int n)]) [0, 1] rfl ?_
              refine J.to ?_ ?_ (ih72 _ ?_ (m - 1) (mbl (wqN 6 t)) HGO.2.2.1 HGO.2.2.2.1 HGO.2.2.2.2 (HGO.1.symm.trans hr9) rfl)
              · first | (rfl) | fail
              · first | (rfl) | fail
              · first | (have h8 := HGO.2.1; omega) | fail
      refine J.lsub (ls' := [(0, .ref (G.1 111)), (1, .int n)]) [0, 1] rfl ?_
      refine J.to ?_ ?_ (hl72 _ 151 s9_1 hW1 ho1 hz1 (by rw [eg_1]; rfl) rfl)
      · first | (rfl) | fail
      · first | (rfl) | fail
    · exact absurd (show nI w = nI 16 from h38.symm.trans zc46) (by rw [znI_eq (by omega) (by omega)]; omega)
  · first | exact absurd hl zc22 | exact absurd zc22 hl | exact absurd zc22 (i_lelt hl) | exact absurd hl (i_lelt zc22) | exact absurd zc22 (i_nle hl) | exact absurd zc22 (i_nlt hl)

set_option maxRecDepth 20000 in
set_option maxHeartbeats 600000 in
theorem c_Mo_workF {l : Launch} {G : Gz} (hG : zI G) (σ : St) (n : Int32) (hv : 0 ≤ n ∧ n ≤ (up σ 111 0 0) 111 1) (hl : n ≤ 150) (ht : ((up σ 111 0 0) 111 1).toInt ≤ 600) (h38 : (up σ 111 0 0) 111 38 = 16) : MI l G y_Mo_work prog_14_method_60_code 2 .int 4 [.ref (G.1 111), .int n] σ (-20) (up (up (up σ 111 0 0) 111 1 0) 111 3 (-1)) := by
  refine MI.of hG (by decide) (Nat.le_of_ble_eq_true rfl) (fun X hx hq => ?_)
  show J l G X 2 σ 0 [(0, .ref (G.1 111)), (1, .int n)] []
  have hn0 : 0 ≤ n.toInt := by have := hv.1; rw [i_le] at this; exact this
  have hn6 : n.toInt ≤ 600 := by have := hv.2; rw [i_le] at this; omega
  have hnl : n.toInt ≤ 150 := by have := hl; rw [i_le] at this; exact this
  refine j_aload_n hx d_Mo_work_0 rfl 0 rfl ?_
  refine j_iconst (v := 0) hx d_Mo_work_1 (by decide) ?_
  refine j_put hx ck_Mo 0 (by decide) t_1418 (by decide) (sh_111 _ _) rfl (Nat.le_of_ble_eq_true rfl) (sh_111 _ _) d_Mo_work_2 ?_
  refine j_aload_n hx d_Mo_work_5 rfl 0 rfl ?_
  refine j_iload_n hx d_Mo_work_6 rfl 1 rfl ?_
  refine j_iconst (v := 0) hx d_Mo_work_7 (by decide) ?_
  refine j_aload_n hx d_Mo_work_8 rfl 0 rfl ?_
  refine j_get hx ck_Mo 1 (by decide) t_1419 (by decide) (sh_111 _ _) rfl d_Mo_work_9 ?_
  refine j_callSi hx (c_Mo_in1 hG (up σ 111 0 0) n 0 ((up σ 111 0 0) 111 1) (by exact hv)) mo_Mo_in t_1582 t_1581 (by decide) rfl rfl (Nat.le_of_ble_eq_true rfl) d_Mo_work_12 ?_
  refine j_if_eq (tgt := 25) hx d_Mo_work_15 (by decide) (fun zc15 => absurd zc15 (by decide)) (fun _ => ?_)
  refine j_iload_n hx d_Mo_work_18 rfl 1 rfl ?_
  refine j_sipush (v := 150) hx d_Mo_work_19 (by decide) ?_
  refine j_icmp_le (tgt := 29) hx d_Mo_work_22 (by decide) (fun zc22 => ?_) (fun zc22 => ?_)
  · skip
    refine j_iconst (v := 0) hx d_Mo_work_29 (by decide) ?_
    refine j_iconst (v := 1) hx d_Mo_work_30 (by decide) ?_
    refine j_iconst (v := 1) hx d_Mo_work_31 (by decide) ?_
    refine j_callVi hx (c_Mo_bad0 hG (up σ 111 0 0) 0 1 1 (by rfl) (by exact up_rd)) mo_Mo_bad mv_Mo_bad t_1584 (by decide) rfl (by decide) (sh_111 _ _) rfl rfl (Nat.le_of_ble_eq_true rfl) d_Mo_work_32 ?_
    refine j_if_eq (tgt := 40) hx d_Mo_work_35 (by decide) (fun _ => ?_) (fun zc35 => absurd (by decide) zc35)
    refine j_aload_n hx d_Mo_work_40 rfl 0 rfl ?_
    refine j_get hx ck_Mo 38 (by decide) t_1456 (by decide) (sh_111 _ _) rfl d_Mo_work_41 ?_
    refine j_bipush (v := 16) hx d_Mo_work_44 (by decide) ?_
    refine j_icmp_ne (tgt := 62) hx d_Mo_work_46 (by decide) (fun zc46 => ?_) (fun zc46 => ?_)
    · exact absurd h38 zc46
    · skip
      refine j_aload_n hx d_Mo_work_49 rfl 0 rfl ?_
      refine j_iconst (v := 0) hx d_Mo_work_50 (by decide) ?_
      refine j_put hx ck_Mo 1 (by decide) t_1419 (by decide) (sh_111 _ _) rfl (Nat.le_of_ble_eq_true rfl) (sh_111 _ _) d_Mo_work_51 ?_
      refine j_aload_n hx d_Mo_work_54 rfl 0 rfl ?_
      refine j_iconst (v := (-1)) hx d_Mo_work_55 (by decide) ?_
      refine j_put hx ck_Mo 3 (by decide) t_1421 (by decide) (sh_111 _ _) rfl (Nat.le_of_ble_eq_true rfl) (sh_111 _ _) d_Mo_work_56 ?_
      refine j_bipush (v := (-20)) hx d_Mo_work_59 (by decide) ?_
      exact j_iret hx hq rfl d_Mo_work_61 (by first | (rfl) | fail) (by first | (rfl) | fail)
  · first | exact absurd hl zc22 | exact absurd zc22 hl | exact absurd zc22 (i_lelt hl) | exact absurd hl (i_lelt zc22) | exact absurd zc22 (i_nle hl) | exact absurd zc22 (i_nlt hl)

set_option maxRecDepth 20000 in
set_option maxHeartbeats 600000 in
theorem c_Mo_workI {l : Launch} {G : Gz} (hG : zI G) (σ : St) (n : Int32) (hbad : ¬ ((0 ≤ n ∧ n ≤ (up σ 111 0 0) 111 1) ∧ n ≤ 150)) : MI l G y_Mo_work prog_14_method_60_code 2 .int 4 [.ref (G.1 111), .int n] σ 0 (mrf σ 1 1) := by
  refine MI.of hG (by decide) (Nat.le_of_ble_eq_true rfl) (fun X hx hq => ?_)
  show J l G X 2 σ 0 [(0, .ref (G.1 111)), (1, .int n)] []
  refine j_aload_n hx d_Mo_work_0 rfl 0 rfl ?_
  refine j_iconst (v := 0) hx d_Mo_work_1 (by decide) ?_
  refine j_put hx ck_Mo 0 (by decide) t_1418 (by decide) (sh_111 _ _) rfl (Nat.le_of_ble_eq_true rfl) (sh_111 _ _) d_Mo_work_2 ?_
  refine j_aload_n hx d_Mo_work_5 rfl 0 rfl ?_
  refine j_iload_n hx d_Mo_work_6 rfl 1 rfl ?_
  refine j_iconst (v := 0) hx d_Mo_work_7 (by decide) ?_
  refine j_aload_n hx d_Mo_work_8 rfl 0 rfl ?_
  refine j_get hx ck_Mo 1 (by decide) t_1419 (by decide) (sh_111 _ _) rfl d_Mo_work_9 ?_
  by_cases hn12 : 0 ≤ n ∧ n ≤ ((up σ 111 0 0) 111 1)
  · skip
    refine j_callSi hx (c_Mo_in1 hG (up σ 111 0 0) n 0 ((up σ 111 0 0) 111 1) (by exact hn12)) mo_Mo_in t_1582 t_1581 (by decide) rfl rfl (Nat.le_of_ble_eq_true rfl) d_Mo_work_12 ?_
    refine j_if_eq (tgt := 25) hx d_Mo_work_15 (by decide) (fun zc15 => absurd zc15 (by decide)) (fun _ => ?_)
    refine j_iload_n hx d_Mo_work_18 rfl 1 rfl ?_
    refine j_sipush (v := 150) hx d_Mo_work_19 (by decide) ?_
    refine j_icmp_le (tgt := 29) hx d_Mo_work_22 (by decide) (fun zc22 => ?_) (fun zc22 => ?_)
    · exact absurd ⟨hn12, zc22⟩ hbad
    · skip
      refine j_iconst (v := 1) hx d_Mo_work_25 (by decide) ?_
      refine j_goto (tgt := 30) hx d_Mo_work_26 (by decide) ?_
      refine j_iconst (v := 1) hx d_Mo_work_30 (by decide) ?_
      refine j_iconst (v := 1) hx d_Mo_work_31 (by decide) ?_
      refine j_callVi hx (c_Mo_bad1 hG (up σ 111 0 0) 1 1 1 (by decide) (by exact up_rd) (by decide) (by decide)) mo_Mo_bad mv_Mo_bad t_1584 (by decide) rfl (by decide) (sh_111 _ _) rfl rfl (Nat.le_of_ble_eq_true rfl) d_Mo_work_32 ?_
      refine j_if_eq (tgt := 40) hx d_Mo_work_35 (by decide) (fun zc35 => absurd zc35 (by decide)) (fun _ => ?_)
      refine j_iconst (v := 0) hx d_Mo_work_38 (by decide) ?_
      exact j_iret hx hq rfl d_Mo_work_39 (by first | (rfl) | fail) (by first | (rfl) | fail)
  refine j_callSi hx (c_Mo_in0 hG (up σ 111 0 0) n 0 ((up σ 111 0 0) 111 1) (by exact hn12)) mo_Mo_in t_1582 t_1581 (by decide) rfl rfl (Nat.le_of_ble_eq_true rfl) d_Mo_work_12 ?_
  refine j_if_eq (tgt := 25) hx d_Mo_work_15 (by decide) (fun _ => ?_) (fun zc15 => absurd (by decide) zc15)
  refine j_iconst (v := 1) hx d_Mo_work_25 (by decide) ?_
  refine j_goto (tgt := 30) hx d_Mo_work_26 (by decide) ?_
  refine j_iconst (v := 1) hx d_Mo_work_30 (by decide) ?_
  refine j_iconst (v := 1) hx d_Mo_work_31 (by decide) ?_
  refine j_callVi hx (c_Mo_bad1 hG (up σ 111 0 0) 1 1 1 (by decide) (by exact up_rd) (by decide) (by decide)) mo_Mo_bad mv_Mo_bad t_1584 (by decide) rfl (by decide) (sh_111 _ _) rfl rfl (Nat.le_of_ble_eq_true rfl) d_Mo_work_32 ?_
  refine j_if_eq (tgt := 40) hx d_Mo_work_35 (by decide) (fun zc35 => absurd zc35 (by decide)) (fun _ => ?_)
  refine j_iconst (v := 0) hx d_Mo_work_38 (by decide) ?_
  exact j_iret hx hq rfl d_Mo_work_39 (by first | (rfl) | fail) (by first | (rfl) | fail)

