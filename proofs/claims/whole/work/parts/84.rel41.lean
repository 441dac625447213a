/-! ===== a step of each kind ===== -/
theorem po_fin {s t B v : St} {i : Nat} (S : SY B v) (hv : v 111 5 = 0 → B 74 3 = v 111 32 ∧ (∀ k, sN t ≤ k → k < sN v → RW B (up v (511 + i) 3 (v 111 32)) k) ∧ ∀ k, k < sN t → B 76 k = s 76 k ∧ B 78 k = s 78 k ∧ B 80 k = s 80 k) : PO s t (tkR B 59) (wqE v (511 + i)) := by
  have S2 : SY B (up v (511 + i) 3 (v 111 32)) := S.cr (by rw [up_o (by omega)]) (by rw [up_o (by omega)]) (by rw [up_o (by omega)]) (by rw [up_o (by omega)]) (by rw [up_o (by omega)])
  refine ⟨S2.ysg (c := 59) (by decide), fun z => ?_⟩
  obtain ⟨a, b, c⟩ := hv (wqE_f (k := 0) (by omega) z)
  have e32 : wqE v (511 + i) 111 32 = v 111 32 := wqE_32 (by omega)
  have eN : sN (wqE v (511 + i)) = sN v := by unfold sN; rw [e32]
  refine ⟨by rw [tkR_o (by decide), e32]; exact a, fun k h1 h2 => ?_, fun k hk => ?_⟩
  · rw [eN] at h2
    exact RW_fr (b k h1 h2) (by rw [tkR_o (by decide)]) (by rw [tkR_o (by decide)]) (by rw [tkR_o (by decide)]) (by unfold wqE; exact msg_o (by omega)) (by unfold wqE; exact msg_o (by omega))
  · rw [tkR_o (by decide), tkR_o (by decide), tkR_o (by decide)]; exact c k hk
theorem rn1_e {s : St} {row n i : Nat} {lo hi : Int32} (h : i < n) (hn : n < 100000) : rn1 s row n (nI i) lo hi = up (nuS s lo hi) (row + 1) i (nuV (nu1 s)) := by unfold rn1; exact rs_nI h hn
/-- a number below one of the coast's counts -/
theorem num_e {A v : St} (S : SY A v) {row i o k : Nat} {c : Int32} (hc : 0 ≤ c.toInt ∧ c.toInt ≤ 12) (hi : i < 150) (hr : row = 77 ∨ row = 79) (ho : 511 ≤ o) :
    SY (rn1 A row 150 (nI i) 0 (c - 1)) (mnO v o k 0 (c - 1)) ∧ (mnO v o k 0 (c - 1) 111 5 = 0 → v 111 5 = 0 ∧ rn1 A row 150 (nI i) 0 (c - 1) (row + 1) i = mnO v o k 0 (c - 1) o k ∧ 0 ≤ (mnO v o k 0 (c - 1) o k).toInt ∧ (mnO v o k 0 (c - 1) o k).toInt < c.toInt) ∧ (∀ q, q ≠ 1 → q ≠ row + 1 → rn1 A row 150 (nI i) 0 (c - 1) q = A q) ∧ (∀ j, j ≠ i → rn1 A row 150 (nI i) 0 (c - 1) (row + 1) j = A (row + 1) j) ∧ (∀ q, q ≠ 111 → q ≠ o → mnO v o k 0 (c - 1) q = v q) ∧ (∀ f, f ≠ k → mnO v o k 0 (c - 1) o f = v o f) ∧ mnO v o k 0 (c - 1) 111 32 = v 111 32 := by
  have ec : (c - 1).toInt = c.toInt - 1 := i_sub rfl rfl (by show -2147483648 ≤ _ - (1 : Int); omega) (by show _ - (1 : Int) < _; omega)
  obtain ⟨S1, V⟩ := S.yn (row := row) (n := 150) (o := o) (k := k) (idx := nI i) (lo := 0) (hi := c - 1) (by decide) (by rw [ec]; omega) (by omega) (by omega)
  have e := rn1_e (s := A) (row := row) (n := 150) (i := i) (lo := 0) (hi := c - 1) hi (by decide)
  refine ⟨S1, fun z => ?_, fun q a b => ?_, fun j hj => ?_, fun q a b => mnO_o a b, fun f hf => ?_, mnO_32 (by omega)⟩
  · obtain ⟨v1, v2, v3, v4⟩ := V z
    rw [mnO_r1]
    rw [i_le] at v3 v4
    rw [ec] at v4
    have z0 : (0 : Int32).toInt = 0 := rfl
    exact ⟨v1, by rw [e, up_rd]; exact v2, by omega, by omega⟩
  · rw [e, up_o b, nuS_o a]
  · rw [e, up_k hj, nuS_o (by omega)]
  · exact mnO_r0 (by omega) hf
/-- kinds 0 to 5 -/
theorem st_n {op : Int32} {recC recR : St → St} {s t : St} (h : PR op s t) (h5 : t 111 5 = 0) {k : Int32} (ek : mzV t = k) (hk : k = 0 ∨ k = 1 ∨ k = 2 ∨ k = 3 ∨ k = 4 ∨ k = 5) : PO s t (tkR (rtF recC op s) 59) (wqF recR t) := by
  have hk1 : ¬ mzV t = -1 := by rw [ek]; rcases hk with z | z | z | z | z | z <;> subst z <;> decide
  obtain ⟨S, A3, A76, Ao, ei, hi, hP⟩ := wst_e h h5 hk1
  obtain ⟨q1, q2, q3, q4, q5, q6, q7⟩ := wq2_q (k := mzV t) hP
  have ez := mz_e h.1 h5
  have W := h.2.1
  have hb := W.2.2.1 h5
  have h150 := W.2.1
  have hpb := W.1.2.1
  have v32 : wq2 (mbz t) (mzV t) 111 32 = nI (sN t + 1) := by rw [i_eq, i_nI (by omega), q6]; omega
  have hC := h.2.2.2.1
  have eR : wqF recR t = wqE (wqB recR (wq2 (mbz t) (mzV t)) (mzV t) (511 + sN t)) (511 + sN t) := by
    rw [wqF_n rfl hk1 (by rw [ek]; rcases hk with z | z | z | z | z | z <;> subst z <;> decide)]
    unfold wqG; rw [q2]
  have eC : rtF recC op s = rtK recC op (mzV t) (nI (sN t)) (ws3 s) := by unfold rtF; rw [← ez, ei]
  rw [eR, eC]
  have hO : ∀ j, j < sN t → (511 + sN t) ≠ 511 + j := fun j hj => by omega
  have vo : ∀ q, q ≠ 111 → (q < 511 ∨ 591 ≤ q) → wq2 (mbz t) (mzV t) q = t q := fun q a b => by rw [q5 q a b, mbz_o a]
  have c6 : (ws3 s) 6 = s 6 := Ao 6 (by decide) (by decide) (by decide)
  have e115 : wq2 (mbz t) (mzV t) 115 = t 115 := vo 115 (by decide) (by decide)
  have hC2 : CE (ws3 s) (wq2 (mbz t) (mzV t)) := CE_fr hC c6 e115
  rw [ek] at S q4 v32 A76 e115 hC2 q7 ⊢
  generalize hA : ws3 s = A at *
  generalize hv : wq2 (mbz t) k = v at *
  generalize hs : sN t = i at *
  have a80 : ∀ j, A 80 j = s 80 j := fun j => by rw [Ao 80 (by decide) (by decide) (by decide)]
  have a78 : ∀ j, A 78 j = s 78 j := fun j => by rw [Ao 78 (by decide) (by decide) (by decide)]
  have a76 : ∀ j, j < i → A 76 j = s 76 j := fun j hj => by rw [A76, ud_k (by omega)]
  have a76i : A 76 i = k := by rw [A76, ud_r]
  have hNv : ∀ w : St, w 111 32 = nI (i + 1) → sN w = i + 1 := fun w hw => by unfold sN; rw [hw, i_nI (by omega)]; omega
  obtain ⟨⟨m0, m1, m2, m3⟩, mb⟩ := hC2
  have hi150 : i < 150 := by omega
  rcases hk with z | z | z | z | z | z <;> subst z
  · have e1 : rtK recC op 0 (nI i) A = rn1 A 77 150 (nI i) 0 (v 115 1 - 1) := by unfold rtK; rw [if_pos rfl, m1]
    have e2 : wqB recR v 0 (511 + i) = mnO v (511 + i) 1 0 (v 115 1 - 1) := by unfold wqB; rw [if_pos (Or.inl rfl)]
    rw [e1, e2]
    obtain ⟨S1, V, n1, n2, n3, n4, n5⟩ := num_e (row := 77) (i := i) (o := 511 + i) (k := 1) S (mb 1 (by decide)) hi150 (Or.inl rfl) (by omega)
    refine po_fin S1 (fun z => ?_)
    obtain ⟨u1, u2, u3, u4⟩ := V z
    rw [hs, hNv _ (n5.trans v32), n5, v32, n1 74 (by decide) (by decide), n1 76 (by decide) (by decide), n1 80 (by decide) (by decide)]
    refine ⟨A3, fun j g1 g2 => ?_, fun j hj => ⟨a76 j hj, by rw [n2 j (by omega)]; exact a78 j, a80 j⟩⟩
    have : j = i := by omega
    subst this
    have r0 : up (mnO v (511 + j) 1 0 (v 115 1 - 1)) (511 + j) 3 (nI (j + 1)) (511 + j) 0 = 0 := by rw [up_k (by decide), n4 0 (by decide)]; exact q4
    have r1 : up (mnO v (511 + j) 1 0 (v 115 1 - 1)) (511 + j) 3 (nI (j + 1)) (511 + j) 1 = mnO v (511 + j) 1 0 (v 115 1 - 1) (511 + j) 1 := up_k (by decide)
    have r115 : up (mnO v (511 + j) 1 0 (v 115 1 - 1)) (511 + j) 3 (nI (j + 1)) 115 = v 115 := by rw [up_o (by omega), n3 115 (by decide) (by omega)]
    unfold RW
    rw [r0, r1, r115, n1 76 (by decide) (by decide)]
    exact ⟨a76i, Or.inr u2, fun y => absurd y (by decide), fun y => absurd y (by decide), fun _ => ⟨u3, u4⟩, fun y => absurd y (by decide), fun y => absurd y (by decide), fun y => absurd y (by decide), Or.inl rfl, fun _ => up_rd⟩
  · have e1 : rtK recC op 1 (nI i) A = rn1 A 77 150 (nI i) 0 (v 115 1 - 1) := by unfold rtK; rw [if_neg (by decide), if_pos rfl, m1]
    have e2 : wqB recR v 1 (511 + i) = mnO v (511 + i) 1 0 (v 115 1 - 1) := by unfold wqB; rw [if_pos (Or.inr rfl)]
    rw [e1, e2]
    obtain ⟨S1, V, n1, n2, n3, n4, n5⟩ := num_e (row := 77) (i := i) (o := 511 + i) (k := 1) S (mb 1 (by decide)) hi150 (Or.inl rfl) (by omega)
    refine po_fin S1 (fun z => ?_)
    obtain ⟨u1, u2, u3, u4⟩ := V z
    rw [hs, hNv _ (n5.trans v32), n5, v32, n1 74 (by decide) (by decide), n1 76 (by decide) (by decide), n1 80 (by decide) (by decide)]
    refine ⟨A3, fun j g1 g2 => ?_, fun j hj => ⟨a76 j hj, by rw [n2 j (by omega)]; exact a78 j, a80 j⟩⟩
    have : j = i := by omega
    subst this
    have r0 : up (mnO v (511 + j) 1 0 (v 115 1 - 1)) (511 + j) 3 (nI (j + 1)) (511 + j) 0 = 1 := by rw [up_k (by decide), n4 0 (by decide)]; exact q4
    have r1 : up (mnO v (511 + j) 1 0 (v 115 1 - 1)) (511 + j) 3 (nI (j + 1)) (511 + j) 1 = mnO v (511 + j) 1 0 (v 115 1 - 1) (511 + j) 1 := up_k (by decide)
    have r115 : up (mnO v (511 + j) 1 0 (v 115 1 - 1)) (511 + j) 3 (nI (j + 1)) 115 = v 115 := by rw [up_o (by omega), n3 115 (by decide) (by omega)]
    unfold RW
    rw [r0, r1, r115, n1 76 (by decide) (by decide)]
    exact ⟨a76i, Or.inr u2, fun y => absurd y (by decide), fun y => absurd y (by decide), fun _ => ⟨u3, u4⟩, fun y => absurd y (by decide), fun y => absurd y (by decide), fun y => absurd y (by decide), Or.inr (Or.inl rfl), fun _ => up_rd⟩
  · have e2 : wqB recR v 2 (511 + i) = mnO (mnO v (511 + i) 1 0 (v 115 2 - 1)) (511 + i) 2 0 ((mnO v (511 + i) 1 0 (v 115 2 - 1)) 115 0 - 1) := by unfold wqB; rw [if_neg (by decide), if_pos rfl]
    obtain ⟨S1, V, n1, n2, n3, n4, n5⟩ := num_e (row := 77) (i := i) (o := 511 + i) (k := 1) S (mb 2 (by decide)) hi150 (Or.inl rfl) (by omega)
    have f115 : mnO v (511 + i) 1 0 (v 115 2 - 1) 115 = v 115 := n3 115 (by decide) (by omega)
    have e1 : rtK recC op 2 (nI i) A = rn1 (rn1 A 77 150 (nI i) 0 (v 115 2 - 1)) 79 150 (nI i) 0 (v 115 0 - 1) := by
      unfold rtK; rw [if_neg (by decide), if_neg (by decide), if_pos rfl]; unfold rl3
      rw [m2, show cM (rn1 A 77 150 (nI i) 0 (v 115 2 - 1)) 0 = cM A 0 by unfold cM; rw [n1 6 (by decide) (by decide)], m0]
    rw [e1, e2, f115]
    obtain ⟨S2, V2, p1, p2, p3, p4, p5⟩ := num_e (row := 79) (i := i) (o := 511 + i) (k := 2) S1 (mb 0 (by decide)) hi150 (Or.inr rfl) (by omega)
    refine po_fin S2 (fun z => ?_)
    obtain ⟨y1, y2, y3, y4⟩ := V2 z
    obtain ⟨u1, u2, u3, u4⟩ := V y1
    rw [hs, hNv _ (p5.trans (n5.trans v32)), p5, n5, v32, p1 74 (by decide) (by decide), n1 74 (by decide) (by decide), p1 76 (by decide) (by decide), n1 76 (by decide) (by decide), p1 78 (by decide) (by decide)]
    refine ⟨A3, fun j g1 g2 => ?_, fun j hj => ⟨a76 j hj, by rw [n2 j (by omega)]; exact a78 j, by rw [p2 j (by omega), n1 80 (by decide) (by decide)]; exact a80 j⟩⟩
    have : j = i := by omega
    subst this
    generalize hX : mnO (mnO v (511 + j) 1 0 (v 115 2 - 1)) (511 + j) 2 0 (v 115 0 - 1) = X at *
    have r0 : up X (511 + j) 3 (nI (j + 1)) (511 + j) 0 = 2 := by rw [up_k (by decide), p4 0 (by decide), n4 0 (by decide)]; exact q4
    have r1 : up X (511 + j) 3 (nI (j + 1)) (511 + j) 1 = mnO v (511 + j) 1 0 (v 115 2 - 1) (511 + j) 1 := by rw [up_k (by decide), p4 1 (by decide)]
    have r2 : up X (511 + j) 3 (nI (j + 1)) (511 + j) 2 = X (511 + j) 2 := up_k (by decide)
    have r115 : up X (511 + j) 3 (nI (j + 1)) 115 = v 115 := by rw [up_o (by omega), p3 115 (by decide) (by omega), f115]
    unfold RW
    rw [r0, r1, r2, r115, p1 76 (by decide) (by decide), n1 76 (by decide) (by decide), p1 78 (by decide) (by decide)]
    exact ⟨a76i, Or.inr u2, fun _ => y2, fun y => absurd y (by decide), fun y => absurd y (by decide), fun _ => ⟨⟨u3, u4⟩, y3, y4⟩, fun y => absurd y (by decide), fun y => absurd y (by decide), Or.inr (Or.inr (Or.inl rfl)), fun _ => up_rd⟩
  · have e1 : rtK recC op 3 (nI i) A = rn1 A 77 150 (nI i) 0 (v 115 3 - 1) := by unfold rtK; rw [if_neg (by decide), if_neg (by decide), if_neg (by decide), if_pos rfl, m3]
    have e2 : wqB recR v 3 (511 + i) = mnO v (511 + i) 1 0 (v 115 3 - 1) := by unfold wqB; rw [if_neg (by decide), if_neg (by decide), if_pos rfl]
    rw [e1, e2]
    obtain ⟨S1, V, n1, n2, n3, n4, n5⟩ := num_e (row := 77) (i := i) (o := 511 + i) (k := 1) S (mb 3 (by decide)) hi150 (Or.inl rfl) (by omega)
    refine po_fin S1 (fun z => ?_)
    obtain ⟨u1, u2, u3, u4⟩ := V z
    rw [hs, hNv _ (n5.trans v32), n5, v32, n1 74 (by decide) (by decide), n1 76 (by decide) (by decide), n1 80 (by decide) (by decide)]
    refine ⟨A3, fun j g1 g2 => ?_, fun j hj => ⟨a76 j hj, by rw [n2 j (by omega)]; exact a78 j, a80 j⟩⟩
    have : j = i := by omega
    subst this
    have r0 : up (mnO v (511 + j) 1 0 (v 115 3 - 1)) (511 + j) 3 (nI (j + 1)) (511 + j) 0 = 3 := by rw [up_k (by decide), n4 0 (by decide)]; exact q4
    have r1 : up (mnO v (511 + j) 1 0 (v 115 3 - 1)) (511 + j) 3 (nI (j + 1)) (511 + j) 1 = mnO v (511 + j) 1 0 (v 115 3 - 1) (511 + j) 1 := up_k (by decide)
    have r115 : up (mnO v (511 + j) 1 0 (v 115 3 - 1)) (511 + j) 3 (nI (j + 1)) 115 = v 115 := by rw [up_o (by omega), n3 115 (by decide) (by omega)]
    unfold RW
    rw [r0, r1, r115, n1 76 (by decide) (by decide)]
    exact ⟨a76i, Or.inr u2, fun y => absurd y (by decide), fun y => absurd y (by decide), fun y => absurd y (by decide), fun y => absurd y (by decide), fun _ => ⟨u3, u4⟩, fun y => absurd y (by decide), Or.inr (Or.inr (Or.inr (Or.inl rfl))), fun _ => up_rd⟩
  · have e1 : rtK recC op 4 (nI i) A = A := by unfold rtK; rw [if_neg (by decide), if_neg (by decide), if_neg (by decide), if_neg (by decide), if_pos rfl]
    have e2 : wqB recR v 4 (511 + i) = v := by unfold wqB; rw [if_neg (by decide), if_neg (by decide), if_neg (by decide), if_neg (by decide)]
    rw [e1, e2]
    refine po_fin S (fun z => ?_)
    rw [hs, hNv _ v32, v32]
    refine ⟨A3, fun j g1 g2 => ?_, fun j hj => ⟨a76 j hj, a78 j, a80 j⟩⟩
    have : j = i := by omega
    subst this
    have r0 : up v (511 + j) 3 (nI (j + 1)) (511 + j) 0 = 4 := by rw [up_k (by decide)]; exact q4
    unfold RW
    rw [r0]
    exact ⟨a76i, Or.inl (Or.inl rfl), fun y => absurd y (by decide), fun y => absurd y (by decide), fun y => absurd y (by decide), fun y => absurd y (by decide), fun y => absurd y (by decide), fun y => absurd y (by decide), Or.inr (Or.inr (Or.inr (Or.inr (Or.inl rfl)))), fun _ => up_rd⟩
  · have e1 : rtK recC op 5 (nI i) A = A := by unfold rtK; rw [if_neg (by decide), if_neg (by decide), if_neg (by decide), if_neg (by decide), if_neg (by decide), if_pos rfl]
    have e2 : wqB recR v 5 (511 + i) = v := by unfold wqB; rw [if_neg (by decide), if_neg (by decide), if_neg (by decide), if_neg (by decide)]
    rw [e1, e2]
    refine po_fin S (fun z => ?_)
    rw [hs, hNv _ v32, v32]
    refine ⟨A3, fun j g1 g2 => ?_, fun j hj => ⟨a76 j hj, a78 j, a80 j⟩⟩
    have : j = i := by omega
    subst this
    have r0 : up v (511 + j) 3 (nI (j + 1)) (511 + j) 0 = 5 := by rw [up_k (by decide)]; exact q4
    unfold RW
    rw [r0]
    exact ⟨a76i, Or.inl (Or.inr rfl), fun y => absurd y (by decide), fun y => absurd y (by decide), fun y => absurd y (by decide), fun y => absurd y (by decide), fun y => absurd y (by decide), fun y => absurd y (by decide), Or.inr (Or.inr (Or.inr (Or.inr (Or.inr (Or.inl rfl))))), fun _ => up_rd⟩
