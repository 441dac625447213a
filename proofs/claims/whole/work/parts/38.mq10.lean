/-- t' comes from t by reading: g bytes further at least, if it went well -/
def okr (g : Int) (t t' : St) : Prop := pB t' ∧ t' 111 2 = t 111 2 ∧ (t' 111 5 = 0 → t 111 5 = 0 ∧ (t 111 4).toInt + g ≤ (t' 111 4).toInt)
theorem okr.rf {t : St} (h : pB t) : okr 0 t t := ⟨h, rfl, fun z => ⟨z, by omega⟩⟩
theorem okr.tr {g g' : Int} {t u v : St} (h : okr g t u) (h2 : okr g' u v) : okr (g + g') t v := ⟨h2.1, h2.2.1.trans h.2.1, fun z => ⟨(h.2.2 (h2.2.2 z).1).1, by have := (h2.2.2 z).2; have := (h.2.2 (h2.2.2 z).1).2; omega⟩⟩
theorem okr.wk {g g' : Int} {t u : St} (h : okr g t u) (hg : g' ≤ g) : okr g' t u := ⟨h.1, h.2.1, fun z => ⟨(h.2.2 z).1, by have := (h.2.2 z).2; omega⟩⟩
theorem okr_bl {t : St} (h : pB t) : okr 0 t (mbl t) := ⟨(mbl_p h).1, mbl_k (by decide), fun z => ⟨by rw [mbl_k (by decide)] at z; exact z, by have := (mbl_p h).2; rw [i_le] at this; omega⟩⟩
theorem okr_bz {t : St} (h : pB t) : okr 0 t (mbz t) := by
  unfold mbz; split
  · exact okr_bl h
  · exact okr.rf h
theorem okr_wr {t : St} {k p : Int32} (h : pB t) (hk : ¬ k = 0) (g : Int) : okr g t (wr t k p) := ⟨wr_p h, wr_k (by decide) (by decide), fun z => absurd z (wr_5 hk)⟩
theorem okr_sk {t : St} (h : pB t) : okr 0 t (msk t) := ⟨msk_p h, by unfold msk; exact up_k (by decide), fun z => ⟨by unfold msk at z; rw [up_k (by decide)] at z; exact z, by unfold msk; rw [up_rd]; have := (run_p (P := isA (t 112)) h).2; omega⟩⟩
theorem okr_at {t : St} {c : Int32} (h : pB t) (hc : mbt (t 111 2) (t 112) (t 111 4) = c) (h0 : 0 ≤ c) : okr 1 t (at1 t) := ⟨(at1_p h hc h0).1, by unfold at1; exact up_k (by decide), fun z => ⟨by unfold at1 at z; rw [up_k (by decide)] at z; exact z, by have := (at1_p h hc h0).2; omega⟩⟩
theorem okr_sg {t : St} {c : Int32} (h : pB t) (h0 : 0 ≤ c) : okr 1 t (msg t c) := by
  unfold msg; split
  · split
    · rename_i z
      exact ((okr_bl h).tr (okr_at (mbl_p h).1 z h0)).wk (by omega)
    · exact ((okr_bl h).tr (okr_wr (mbl_p h).1 (by decide) 1)).wk (by omega)
  · rename_i z
    exact ⟨h, rfl, fun q => absurd q z⟩
theorem okr_nu {t : St} {lo hi : Int32} (h : pB t) : okr 1 t (mnS t lo hi) := by
  unfold mnS
  split
  · have h1 := mn1_p h
    have hn2 : okr 1 t (mn2 t) := by
      refine ⟨mn2_p h, ?_, fun z => ?_⟩
      · unfold mn2; rw [up_k (by decide), mn1_k (by decide) (by decide), mbl_k (by decide)]
      · have e5 : mn2 t 111 5 = mn1 t 111 5 := by unfold mn2; exact up_k (by decide)
        rw [e5] at z
        unfold mn1 at z
        split at z
        · exact absurd z (wr_5 (by decide))
        · rename_i hd
          have e1 : mn1 t = mbl t := by unfold mn1; exact if_neg hd
          have hb := (mbl_p h).1
          have hdd := (mbtD hb.1 hb.2.2).mp (b2_nz hd)
          have hs := i_s1 hdd.1
          have hlt := hdd.1; rw [i_lt] at hlt
          obtain ⟨L, q1, q2, -, -⟩ := rn_run (P := isD (mbl t 112)) _ (mbl t 111 4 + 1) rfl (show (mbl t 111 4 + 1).toInt ≤ (mbl t 111 2).toInt by omega)
          refine ⟨by rw [mbl_k (by decide)] at z; exact z, ?_⟩
          unfold mn2; rw [e1, up_rd, rn_go hdd.1 hdd.2]
          have := (mbl_p h).2; rw [i_le] at this
          omega
    unfold mn3
    split
    · exact (hn2.tr (okr_wr hn2.1 (by decide) 0)).wk (by omega)
    · exact hn2
  · rename_i z; exact ⟨h, rfl, fun q => absurd q z⟩
theorem okr_up {g : Int} {t u : St} (h : okr g t u) {o k : Nat} {v : Int32} (ho : o ≠ 111) : okr g t (up u o k v) := by
  obtain ⟨a, b, c⟩ := h
  have e : (up u o k v) 111 = u 111 := up_o (Ne.symm ho)
  exact ⟨by unfold pB at *; rw [e]; exact a, by rw [e]; exact b, by rw [e]; exact c⟩
theorem okr_uf {g : Int} {t u : St} (h : okr g t u) {k : Nat} {v : Int32} (h2 : k ≠ 2) (h4 : k ≠ 4) (h5 : k ≠ 5) : okr g t (up u 111 k v) := by
  obtain ⟨a, b, c⟩ := h
  have e : ∀ f, f ≠ k → (up u 111 k v) 111 f = u 111 f := fun f hf => up_k hf
  exact ⟨by unfold pB at *; rw [e 4 (Ne.symm h4), e 2 (Ne.symm h2)]; exact a, by rw [e 2 (Ne.symm h2)]; exact b, by rw [e 5 (Ne.symm h5), e 4 (Ne.symm h4)]; exact c⟩
theorem okr_nO {g : Int} {t u : St} (h : okr g t u) {o k : Nat} {lo hi : Int32} (ho : o ≠ 111) : okr (g + 1) t (mnO u o k lo hi) := by
  unfold mnO; exact okr_up (h.tr (okr_nu h.1)) ho
theorem okr_c3 {t : St} (h : pB t) : okr 0 t (mc3 t) := by unfold mc3; exact okr_uf (okr_sk h) (by decide) (by decide) (by decide)
theorem okr_cA {t : St} {j : Nat} {m : Int32} (h : pB t) : okr 0 t (mcA t j m) := by
  unfold mcA; split
  · exact ((okr_bz h).tr (okr_wr (mbz_p h) (by decide) 0)).wk (by omega)
  · exact okr_bz h
theorem okr_cA5 {t : St} (h : pB t) : okr 0 t (mcA5 t) := by
  unfold mcA5; split
  · exact ((okr_bz h).tr (okr_wr (mbz_p h) (by decide) 0)).wk (by omega)
  · exact okr_bz h
theorem okr_cE {t : St} {B C : St → St} (h : pB t) (hB : ∀ u, pB u → okr 0 u (C (B u))) : okr 1 t (mcE t B C) := by
  unfold mcE
  split
  · exact (((okr_c3 h).tr (hB _ (mc3_p h))).tr (okr_sg (hB _ (mc3_p h)).1 (by decide))).wk (by omega)
  · rename_i z; exact ⟨h, rfl, fun q => absurd q z⟩
theorem okr_cC {g : Int} {t u : St} (h : okr g t u) {k : Nat} : okr g t (mcC u k) := by unfold mcC; exact okr_up h (by decide)
theorem okr_B2 {q k : Nat} {u : St} (hq : 111 < q) (h : pB u) : okr 0 u (mcC (mcB2 q k u) k) := by
  unfold mcB2
  exact (okr_cC (okr_nO (okr_nO (okr.rf h) (by omega)) (by omega))).wk (by omega)
theorem okr_cAE {t : St} {j : Nat} {m : Int32} {B C : St → St} (h : pB t) (hB : ∀ u, pB u → okr 0 u (C (B u))) : okr 1 t (mcE (mcA t j m) B C) :=
  okr.wk (okr.tr (okr_cA h) (okr_cE (mcA_p h) hB)) (by omega)
theorem okr_B0 {u : St} (h : pB u) : okr 0 u (mcC (mcB0 u) 0) := by
  unfold mcB0; exact okr.wk (okr_cC (okr_nO (okr.rf h) (by decide))) (by omega)
theorem okr_B3 {u : St} (h : pB u) : okr 0 u (mcC (mcB3 u) 3) := by
  unfold mcB3; exact okr.wk (okr_cC (okr_nO (okr_nO (okr_nO (okr_nO (okr.rf h) (by omega)) (by omega)) (by omega)) (by omega))) (by omega)
theorem okr_B4 {u : St} (h : pB u) : okr 0 u (mcC (mcB4 u) 4) := by
  unfold mcB4; exact okr.wk (okr_cC (okr_nO (okr.rf h) (by decide))) (by omega)
theorem okr_B5 {u : St} (h : pB u) : okr 0 u (mcB5 u) := by
  unfold mcB5; split
  · exact okr.wk (okr_up (okr_nu h) (by decide)) (by omega)
  · exact okr.wk (okr_nu h) (by omega)
theorem okr_cl {t : St} (h : pB t) : okr 1 t (mclS t) := by
  unfold mclS
  split
  · exact okr.wk (okr.tr (okr.tr (okr_bz h) (okr_wr (mbz_p h) (by decide) 0)) (okr_cE (wr_p (mbz_p h)) (fun u hu => okr.rf hu))) (by omega)
  · split
    · exact okr_cAE h (fun u hu => okr_B0 hu)
    · split
      · exact okr_cAE h (fun u hu => okr_B2 (by decide) hu)
      · split
        · exact okr_cAE h (fun u hu => okr_B2 (by decide) hu)
        · split
          · exact okr_cAE h (fun u hu => okr_B3 hu)
          · split
            · exact okr_cAE h (fun u hu => okr_B4 hu)
            · exact okr.wk (okr.tr (okr_cA5 h) (okr_cE (mcA5_p h) (fun u hu => okr_B5 hu))) (by omega)
theorem rtW_set {f : Nat → Int32} {k : Nat} {v : Int32} (h : rtW f) (hv : 0 ≤ v.toInt) (hk : v.toInt ≤ (if k = 0 then (12 : Int) else if k = 1 then 6 else if k = 2 then 3 else 6)) : rtW (upd f k v) := by
  unfold rtW upd at *
  obtain ⟨a, b, c, d, e⟩ := h
  refine ⟨?_, ?_, ?_, ?_, ?_⟩
  · by_cases q : 0 = k
    · subst q; simp at hk; simp; omega
    · simp [q]; exact a
  · by_cases q : 1 = k
    · subst q; simp at hk; simp; omega
    · simp [q]; exact b
  · by_cases q : 2 = k
    · subst q; simp at hk; simp; omega
    · simp [q]; exact c
  · by_cases q : 3 = k
    · subst q; simp at hk; simp; omega
    · simp [q]; exact d
  · by_cases q : 4 = k
    · subst q; simp at hk; simp; omega
    · simp [q]; exact e
theorem up_rw {t : St} {k : Nat} {v : Int32} : (up t 114 k v) 114 = upd (t 114) k v := by unfold up; simp
theorem msg_o {t : St} {c : Int32} {o : Nat} (h : o ≠ 111) : msg t c o = t o := by
  unfold msg at1; split
  · split
    · rw [up_o h, mbl_o h]
    · rw [wr_o h, mbl_o h]
  · rfl
theorem rtW_C {t : St} {k : Nat} {m : Int32} {M : Int} (h : rtW (t 114)) (hk : 0 ≤ (t 114 k).toInt ∧ (t 114 k).toInt ≤ M) (hm : m.toInt = M) (hM : M = (if k = 0 then (12 : Int) else if k = 1 then 6 else if k = 2 then 3 else 6)) (hM2 : M ≤ 12) (hne : ¬ t 114 k = m) : rtW ((mcC t k) 114) := by
  have : (t 114 k).toInt ≠ m.toInt := fun z => hne (Int32.toInt_inj.mp z)
  unfold mcC
  rw [up_rw]
  split
  · have e : (t 114 k + 1).toInt = (t 114 k).toInt + 1 := i_add rfl rfl (by omega) (by omega)
    exact rtW_set h (by omega) (by rw [← hM]; omega)
  · rw [Int32.add_zero]; exact rtW_set h (by omega) (by rw [← hM]; omega)
theorem mcE_rt {t : St} {B C : St → St} (h : rtW (t 114)) (hB : t 111 5 = 0 → ∀ u : St, u 114 = t 114 → rtW ((C (B u)) 114)) : rtW ((mcE t B C) 114) := by
  unfold mcE; split
  · rename_i z; rw [msg_o (by decide)]; exact hB z _ (mc3_o (by decide))
  · exact h
theorem mcl_rt {t : St} (h : rtW (t 114)) : rtW ((mclS t) 114) := by
  have hA : ∀ j m, (mcA t j m) 114 = t 114 := fun j m => mcA_o (by decide)
  unfold mclS
  split
  · exact mcE_rt (by rw [wr_o (by decide), mbz_o (by decide)]; exact h) (fun z => absurd z (wr_5 (by decide)))
  · split
    · refine mcE_rt (by rw [hA]; exact h) (fun z u e => ?_)
      have hne := (mcA_f z).1
      have e2 : (mcB0 u) 114 = t 114 := by unfold mcB0; rw [mnO_o (by decide) (by decide), e, hA]
      exact rtW_C (m := 12) (M := 12) (by rw [e2]; exact h) (by rw [e2]; exact h.1) rfl rfl (by decide) (by rw [e2]; exact hne)
    · split
      · refine mcE_rt (by rw [hA]; exact h) (fun z u e => ?_)
        have hne := (mcA_f z).1
        have e2 : (mcB2 137 1 u) 114 = t 114 := by unfold mcB2; rw [mnO_o (by decide) (by omega), mnO_o (by decide) (by omega), e, hA]
        exact rtW_C (m := 6) (M := 6) (by rw [e2]; exact h) (by rw [e2]; exact h.2.1) rfl rfl (by decide) (by rw [e2]; exact hne)
      · split
        · refine mcE_rt (by rw [hA]; exact h) (fun z u e => ?_)
          have hne := (mcA_f z).1
          have e2 : (mcB2 149 2 u) 114 = t 114 := by unfold mcB2; rw [mnO_o (by decide) (by omega), mnO_o (by decide) (by omega), e, hA]
          exact rtW_C (m := 3) (M := 3) (by rw [e2]; exact h) (by rw [e2]; exact h.2.2.1) rfl rfl (by decide) (by rw [e2]; exact hne)
        · split
          · refine mcE_rt (by rw [hA]; exact h) (fun z u e => ?_)
            have hne := (mcA_f z).1
            have e2 : (mcB3 u) 114 = t 114 := by unfold mcB3; rw [mnO_o (by decide) (by omega), mnO_o (by decide) (by omega), mnO_o (by decide) (by omega), mnO_o (by decide) (by omega), e, hA]
            exact rtW_C (m := 6) (M := 6) (by rw [e2]; exact h) (by rw [e2]; exact h.2.2.2.1) rfl rfl (by decide) (by rw [e2]; exact hne)
          · split
            · refine mcE_rt (by rw [hA]; exact h) (fun z u e => ?_)
              have hne := (mcA_f z).1
              have e2 : (mcB4 u) 114 = t 114 := by unfold mcB4; rw [mnO_o (by decide) (by decide), e, hA]
              exact rtW_C (m := 6) (M := 6) (by rw [e2]; exact h) (by rw [e2]; exact h.2.2.2.2) rfl rfl (by decide) (by rw [e2]; exact hne)
            · have e5 : (mcA5 t) 114 = t 114 := by
                unfold mcA5; split
                · rw [wr_o (by decide), mbz_o (by decide)]
                · exact mbz_o (by decide)
              refine mcE_rt (by rw [e5]; exact h) (fun z u e => ?_)
              show rtW ((mcB5 u) 114)
              unfold mcB5; split
              · rw [up_rw, mnS_o (by decide), e, e5]
                unfold rtW upd at *; simpa using h
              · rw [mnS_o (by decide), e, e5]; exact h
/-! the coast's text -/
def mcoR : Nat → St → St
  | 0, t => t
  | n + 1, t => if t 111 5 = 0 ∧ t 111 4 < t 111 2 then mcoR n (mbl (mclS t)) else t
theorem mcoR_stop {n : Nat} {t : St} (h : ¬ (t 111 5 = 0 ∧ t 111 4 < t 111 2)) : mcoR n t = t := by
  cases n with
  | zero => rfl
  | succ n => rw [mcoR, if_neg h]
theorem mcoR_go {n : Nat} {t : St} (hn : t 111 5 = 0 → (t 111 2).toInt - (t 111 4).toInt ≤ n) (h : t 111 5 = 0 ∧ t 111 4 < t 111 2) : mcoR n t = mcoR (n - 1) (mbl (mclS t)) ∧ 0 < n := by
  have h1 := hn h.1
  have h2 := h.2; rw [i_lt] at h2
  cases n with
  | zero => omega
  | succ n => exact ⟨by rw [mcoR, if_pos h]; rfl, by omega⟩
def mco0 (t : St) (n : Int32) : St := mtn (mst (t0 t) n)
def mcoF (t : St) (n : Int32) : St := mcoR 601 (mco0 t n)
def mcoS (t : St) (n : Int32) : St := if mcoF t n 111 5 = 0 then baS (up (mcoF t n) 111 3 (-1)) else up (mcoF t n) 111 3 (mcoF t n 111 6)
def mcoV (t : St) (n : Int32) : Int32 := if mcoF t n 111 5 = 0 then baS (up (mcoF t n) 111 3 (-1)) 115 3 else mcoF t n 111 5 - 10
theorem mtn_o {t : St} {o : Nat} (h : o ≠ 114) : mtn t o = t o := by unfold mtn; rw [up_o h, fl_o h]
theorem mtn_rt {t : St} : rtW ((mtn t) 114) := by
  unfold mtn; rw [up_rw]
  unfold rtW upd fl; simp
theorem mco0_p {t : St} {n : Int32} (h0 : 0 ≤ n.toInt) (h1 : n.toInt ≤ 600) : pB (mco0 t n) := by
  have := mst_p (t := t0 t) h0 h1
  unfold mco0 pB; rw [mtn_o (by decide)]; exact this
theorem rtW_B {t : St} (h : rtW (t 114)) : rtB t := by
  obtain ⟨a, b, c, d, e⟩ := h
  unfold rtB ct
  omega
theorem ok_step {t : St} (h : pB t) : okr 1 t (mbl (mclS t)) := ((okr_cl h).tr (okr_bl (okr_cl h).1)).wk (by omega)

set_option maxRecDepth 20000 in
set_option maxHeartbeats 600000 in
theorem c_Mo_coast {l : Launch} {G : Gz} (hG : zI G) (σ : St) (n : Int32) (ht : ((up σ 111 0 0) 111 1).toInt ≤ 600) (hv12 : 0 ≤ n ∧ n ≤ ((up σ 111 0 0) 111 1)) : MI l G y_Mo_coast prog_14_method_28_code 2 .int 12 [.ref (G.1 111), .int n] σ (mcoV σ n) (mcoS σ n) := by
  refine MI.of hG (by decide) (Nat.le_of_ble_eq_true rfl) (fun X hx hq => ?_)
  show J l G X 2 σ 0 [(0, .ref (G.1 111)), (1, .int n)] []
  have hn0 : 0 ≤ n.toInt := by have := hv12.1; rw [i_le] at this; exact this
  have hn6 : n.toInt ≤ 600 := by have := hv12.2; rw [i_le] at this; omega
  refine j_aload_n hx d_Mo_coast_0 rfl 0 rfl ?_
  refine j_iconst (v := 0) hx d_Mo_coast_1 (by decide) ?_
  refine j_put hx ck_Mo 0 (by decide) t_1418 (by decide) (sh_111 _ _) rfl (Nat.le_of_ble_eq_true rfl) (sh_111 _ _) d_Mo_coast_2 ?_
  refine j_aload_n hx d_Mo_coast_5 rfl 0 rfl ?_
  refine j_iload_n hx d_Mo_coast_6 rfl 1 rfl ?_
  refine j_iconst (v := 0) hx d_Mo_coast_7 (by decide) ?_
  refine j_aload_n hx d_Mo_coast_8 rfl 0 rfl ?_
  refine j_get hx ck_Mo 1 (by decide) t_1419 (by decide) (sh_111 _ _) rfl d_Mo_coast_9 ?_
  refine j_callSi hx (c_Mo_in1 hG (up σ 111 0 0) n 0 ((up σ 111 0 0) 111 1) (by exact hv12)) mo_Mo_in t_1582 t_1581 (by decide) rfl rfl (Nat.le_of_ble_eq_true rfl) d_Mo_coast_12 ?_
  refine j_if_ne (tgt := 22) hx d_Mo_coast_15 (by decide) (fun _ => ?_) (fun zc15 => absurd zc15 (by decide))
  refine j_iconst (v := 0) hx d_Mo_coast_22 (by decide) ?_
  refine j_iconst (v := 1) hx d_Mo_coast_23 (by decide) ?_
  refine j_iconst (v := 1) hx d_Mo_coast_24 (by decide) ?_
  refine j_callVi hx (c_Mo_bad0 hG (up σ 111 0 0) 0 1 1 (by rfl) (by exact up_rd)) mo_Mo_bad mv_Mo_bad t_1584 (by decide) rfl (by decide) (sh_111 _ _) rfl rfl (Nat.le_of_ble_eq_true rfl) d_Mo_coast_25 ?_
  refine j_if_eq (tgt := 33) hx d_Mo_coast_28 (by decide) (fun _ => ?_) (fun zc28 => absurd (by decide) zc28)
  refine j_aload_n hx d_Mo_coast_33 rfl 0 rfl ?_
  refine j_iload_n hx d_Mo_coast_34 rfl 1 rfl ?_
  refine j_callVv hx (c_Mo_starts hG (up σ 111 0 0) n (by exact hn0) (by exact hn6)) mo_Mo_starts mv_Mo_starts t_1588 (by decide) rfl (by decide) (sh_111 _ _) rfl rfl (Nat.le_of_ble_eq_true rfl) d_Mo_coast_35 ?_
  refine j_aload_n hx d_Mo_coast_38 rfl 0 rfl ?_
  refine j_callVv hx (c_Mo_tellsNothing hG (mst (up σ 111 0 0) n)) mo_Mo_tellsNothing mv_Mo_tellsNothing t_1407 (by decide) rfl (by decide) (sh_111 _ _) rfl rfl (Nat.le_of_ble_eq_true rfl) d_Mo_coast_39 ?_
  obtain ⟨s9_1, eg_1⟩ : ∃ z : St, z = mco0 σ n := ⟨_, rfl⟩
  refine J.to (σ' := s9_1) (by rw [eg_1]; first | done | rfl) rfl ?_
  have hp1 : pB s9_1 := by rw [eg_1]; exact mco0_p hn0 hn6
  have hT1 : rtW (s9_1 114) := by rw [eg_1]; exact mtn_rt
  have hz1 : s9_1 111 5 = 0 → (s9_1 111 2).toInt - (s9_1 111 4).toInt ≤ (601 : Nat) := fun _ => by have := hp1.1; have := hp1.2.2; omega
  have hl42 : ∀ (N9 : Nat) (m : Nat) (t : St), (pB t) → (rtW (t 114)) → (t 111 5 = 0 → (t 111 2).toInt - (t 111 4).toInt ≤ m) → (mcoR m t = mcoF σ n) → m = N9 → J l G X 2 t 42 [(0, .ref (G.1 111)), (1, .int n)] [] := by
    intro N9
    induction N9 using Nat.strongRecOn with
    | _ N9 ih42 =>
      intro m t hp9 hT9 hf9 hr9 hm42
      refine j_aload_n hx d_Mo_coast_42 rfl 0 rfl ?_
      refine j_get hx ck_Mo 5 (by decide) t_1423 (by decide) (sh_111 _ _) rfl d_Mo_coast_43 ?_
      refine j_if_ne (tgt := 71) hx d_Mo_coast_46 (by decide) (fun zc46 => ?_) (fun zc46 => ?_)
      · skip
        have e9 : t = mcoF σ n := (mcoR_stop (fun z => by first | exact zc46 z.1 | exact i_lelt zc57 z.2)).symm.trans hr9
        refine j_aload_n hx d_Mo_coast_71 rfl 0 rfl ?_
        refine j_get hx ck_Mo 5 (by decide) t_1423 (by decide) (sh_111 _ _) rfl d_Mo_coast_72 ?_
        refine j_if_eq (tgt := 83) hx d_Mo_coast_75 (by decide) (fun zc75 => ?_) (fun zc75 => ?_)
        · skip
          refine j_aload_n hx d_Mo_coast_83 rfl 0 rfl ?_
          refine j_iconst (v := (-1)) hx d_Mo_coast_84 (by decide) ?_
          refine j_put hx ck_Mo 3 (by decide) t_1421 (by decide) (sh_111 _ _) rfl (Nat.le_of_ble_eq_true rfl) (sh_111 _ _) d_Mo_coast_85 ?_
          obtain ⟨s9_2, eg_2⟩ : ∃ z : St, z = up t 111 3 (-1) := ⟨_, rfl⟩
          refine J.to (σ' := s9_2) (by rw [eg_2]; first | done | rfl) rfl ?_
          refine j_aload_n hx d_Mo_coast_88 rfl 0 rfl ?_
          refine j_callVv hx (c_Mo_beginsAnew hG s9_2 (by rw [eg_2]; exact rtW_B (by rw [up_o (by decide)]; exact hT9))) mo_Mo_beginsAnew mv_Mo_beginsAnew t_1411 (by decide) rfl (by decide) (sh_111 _ _) rfl rfl (Nat.le_of_ble_eq_true rfl) d_Mo_coast_89 ?_
          refine j_aload_n hx d_Mo_coast_92 rfl 0 rfl ?_
          refine j_get hx ck_Mo 12 (by decide) t_1430 (by decide) (sh_111 _ _) rfl d_Mo_coast_93 ?_
          refine j_iconst (v := 3) hx d_Mo_coast_96 (by decide) ?_
          have hz97_1 : zin (3) 6 3 := by first | exact ⟨rfl, by decide⟩ | exact zin_nI (by omega) (by first | decide | omega) | exact zin_of (by omega) (by omega)
          refine j_ialdk hx ia_115 hz97_1 d_Mo_coast_97 ?_
          exact j_iret hx hq rfl d_Mo_coast_98 (by first | (unfold mcoV; rw [← e9, eg_2]; exact (if_pos zc75).symm) | fail) (by first | (unfold mcoS; rw [← e9, eg_2]; exact (if_pos zc75).symm) | fail)
        · skip
          refine j_aload_n hx d_Mo_coast_78 rfl 0 rfl ?_
          refine j_callVi hx (c_Mo_ends hG t) mo_Mo_ends mv_Mo_ends t_1645 (by decide) rfl (by decide) (sh_111 _ _) rfl rfl (Nat.le_of_ble_eq_true rfl) d_Mo_coast_79 ?_
          exact j_iret hx hq rfl d_Mo_coast_82 (by first | (unfold mcoV; rw [← e9]; exact (if_neg zc75).symm) | fail) (by first | (unfold mcoS; rw [← e9]; exact (if_neg zc75).symm) | fail)
      · skip
        refine j_aload_n hx d_Mo_coast_49 rfl 0 rfl ?_
        refine j_get hx ck_Mo 4 (by decide) t_1422 (by decide) (sh_111 _ _) rfl d_Mo_coast_50 ?_
        refine j_aload_n hx d_Mo_coast_53 rfl 0 rfl ?_
        refine j_get hx ck_Mo 2 (by decide) t_1420 (by decide) (sh_111 _ _) rfl d_Mo_coast_54 ?_
        refine j_icmp_ge (tgt := 71) hx d_Mo_coast_57 (by decide) (fun zc57 => ?_) (fun zc57 => ?_)
        · skip
          have e9 : t = mcoF σ n := (mcoR_stop (fun z => by first | exact zc46 z.1 | exact i_lelt zc57 z.2)).symm.trans hr9
          refine j_aload_n hx d_Mo_coast_71 rfl 0 rfl ?_
          refine j_get hx ck_Mo 5 (by decide) t_1423 (by decide) (sh_111 _ _) rfl d_Mo_coast_72 ?_
          refine j_if_eq (tgt := 83) hx d_Mo_coast_75 (by decide) (fun zc75 => ?_) (fun zc75 => ?_)
          · skip
            refine j_aload_n hx d_Mo_coast_83 rfl 0 rfl ?_
            refine j_iconst (v := (-1)) hx d_Mo_coast_84 (by decide) ?_
            refine j_put hx ck_Mo 3 (by decide) t_1421 (by decide) (sh_111 _ _) rfl (Nat.le_of_ble_eq_true rfl) (sh_111 _ _) d_Mo_coast_85 ?_
            obtain ⟨s9_2, eg_2⟩ : ∃ z : St, z = up t 111 3 (-1) := ⟨_, rfl⟩
            refine J.to (σ' := s9_2) (by rw [eg_2]; first | done | rfl) rfl ?_
            refine j_aload_n hx d_Mo_coast_88 rfl 0 rfl ?_
            refine j_callVv hx (c_Mo_beginsAnew hG s9_2 (by rw [eg_2]; exact rtW_B (by rw [up_o (by decide)]; exact hT9))) mo_Mo_beginsAnew mv_Mo_beginsAnew t_1411 (by decide) rfl (by decide) (sh_111 _ _) rfl rfl (Nat.le_of_ble_eq_true rfl) d_Mo_coast_89 ?_
            refine j_aload_n hx d_Mo_coast_92 rfl 0 rfl ?_
            refine j_get hx ck_Mo 12 (by decide) t_1430 (by decide) (sh_111 _ _) rfl d_Mo_coast_93 ?_
            refine j_iconst (v := 3) hx d_Mo_coast_96 (by decide) ?_
            have hz97_2 : zin (3) 6 3 := by first | exact ⟨rfl, by decide⟩ | exact zin_nI (by omega) (by first | decide | omega) | exact zin_of (by omega) (by omega)
            refine j_ialdk hx ia_115 hz97_2 d_Mo_coast_97 ?_
            exact j_iret hx hq rfl d_Mo_coast_98 (by first | (unfold mcoV; rw [← e9, eg_2]; exact (if_pos zc75).symm) | fail) (by first | (unfold mcoS; rw [← e9, eg_2]; exact (if_pos zc75).symm) | fail)
          · skip
            refine j_aload_n hx d_Mo_coast_78 rfl 0 rfl ?_
            refine j_callVi hx (c_Mo_ends hG t) mo_Mo_ends mv_Mo_ends t_1645 (by decide) rfl (by decide) (sh_111 _ _) rfl rfl (Nat.le_of_ble_eq_true rfl) d_Mo_coast_79 ?_
            exact j_iret hx hq rfl d_Mo_coast_82 (by first | (unfold mcoV; rw [← e9]; exact (if_neg zc75).symm) | fail) (by first | (unfold mcoS; rw [← e9]; exact (if_neg zc75).symm) | fail)
        · skip
          refine j_aload_n hx d_Mo_coast_60 rfl 0 rfl ?_
          refine j_callVv hx (c_Mo_clause hG t (by exact hp9) (by exact hT9)) mo_Mo_clause mv_Mo_clause t_1600 (by decide) rfl (by decide) (sh_111 _ _) rfl rfl (Nat.le_of_ble_eq_true rfl) d_Mo_coast_61 ?_
          refine j_aload_n hx d_Mo_coast_64 rfl 0 rfl ?_
          refine j_callVv hx (c_Mo_blanks hG (mclS t) (by exact (okr_cl hp9).1)) mo_Mo_blanks mv_Mo_blanks t_1592 (by decide) rfl (by decide) (sh_111 _ _) rfl rfl (Nat.le_of_ble_eq_true rfl) d_Mo_coast_65 ?_
          refine j_goto (tgt := 42) hx d_Mo_coast_68 (by decide) ?_
          refine J.lsub (ls' := [(0, .ref (G.1 111)), (1, .int n)]) [0, 1] rfl ?_
          refine J.to ?_ ?_ (ih42 _ ?_ (m - 1) (mbl (mclS t)) (ok_step hp9).1 (by rw [mbl_o (by decide)]; exact mcl_rt hT9) (fun z => by have := ((ok_step hp9).2.2 z).2; rw [(ok_step hp9).2.1]; have h9 := hf9 zc46; have h8 := (mcoR_go hf9 ⟨zc46, i_nle zc57⟩).2; omega) ((mcoR_go hf9 ⟨zc46, i_nle zc57⟩).1.symm.trans hr9) rfl)
          · first | (rfl) | fail
          · first | (rfl) | fail
          · first | (have h8 := (mcoR_go hf9 ⟨zc46, i_nle zc57⟩).2; omega) | fail
  refine J.lsub (ls' := [(0, .ref (G.1 111)), (1, .int n)]) [0, 1] rfl ?_
  refine J.to ?_ ?_ (hl42 _ 601 s9_1 hp1 hT1 hz1 (by rw [eg_1]; rfl) rfl)
  · first | (rfl) | fail
  · first | (rfl) | fail

set_option maxRecDepth 20000 in
set_option maxHeartbeats 600000 in
theorem c_Mo_coastI {l : Launch} {G : Gz} (hG : zI G) (σ : St) (n : Int32) (hbad : ¬ (0 ≤ n ∧ n ≤ ((up σ 111 0 0) 111 1))) : MI l G y_Mo_coast prog_14_method_28_code 2 .int 4 [.ref (G.1 111), .int n] σ 0 (mrf σ 1 1) := by
  refine MI.of hG (by decide) (Nat.le_of_ble_eq_true rfl) (fun X hx hq => ?_)
  show J l G X 2 σ 0 [(0, .ref (G.1 111)), (1, .int n)] []
  refine j_aload_n hx d_Mo_coast_0 rfl 0 rfl ?_
  refine j_iconst (v := 0) hx d_Mo_coast_1 (by decide) ?_
  refine j_put hx ck_Mo 0 (by decide) t_1418 (by decide) (sh_111 _ _) rfl (Nat.le_of_ble_eq_true rfl) (sh_111 _ _) d_Mo_coast_2 ?_
  refine j_aload_n hx d_Mo_coast_5 rfl 0 rfl ?_
  refine j_iload_n hx d_Mo_coast_6 rfl 1 rfl ?_
  refine j_iconst (v := 0) hx d_Mo_coast_7 (by decide) ?_
  refine j_aload_n hx d_Mo_coast_8 rfl 0 rfl ?_
  refine j_get hx ck_Mo 1 (by decide) t_1419 (by decide) (sh_111 _ _) rfl d_Mo_coast_9 ?_
  refine j_callSi hx (c_Mo_in0 hG (up σ 111 0 0) n 0 ((up σ 111 0 0) 111 1) (by exact hbad)) mo_Mo_in t_1582 t_1581 (by decide) rfl rfl (Nat.le_of_ble_eq_true rfl) d_Mo_coast_12 ?_
  refine j_if_ne (tgt := 22) hx d_Mo_coast_15 (by decide) (fun zc15 => absurd rfl zc15) (fun _ => ?_)
  refine j_iconst (v := 1) hx d_Mo_coast_18 (by decide) ?_
  refine j_goto (tgt := 23) hx d_Mo_coast_19 (by decide) ?_
  refine j_iconst (v := 1) hx d_Mo_coast_23 (by decide) ?_
  refine j_iconst (v := 1) hx d_Mo_coast_24 (by decide) ?_
  refine j_callVi hx (c_Mo_bad1 hG (up σ 111 0 0) 1 1 1 (by decide) (by exact up_rd) (by decide) (by decide)) mo_Mo_bad mv_Mo_bad t_1584 (by decide) rfl (by decide) (sh_111 _ _) rfl rfl (Nat.le_of_ble_eq_true rfl) d_Mo_coast_25 ?_
  refine j_if_eq (tgt := 33) hx d_Mo_coast_28 (by decide) (fun zc28 => absurd zc28 (by decide)) (fun _ => ?_)
  refine j_iconst (v := 0) hx d_Mo_coast_31 (by decide) ?_
  exact j_iret hx hq rfl d_Mo_coast_32 (by first | (rfl) | fail) (by first | (rfl) | fail)

