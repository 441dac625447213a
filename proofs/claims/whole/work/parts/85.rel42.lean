/-! ===== an again; the loops; a work read by both ===== -/
theorem wq2_k {u : St} {k : Int32} {f : Nat} (h : f ≠ 32) : wq2 u k 111 f = msk u 111 f := by unfold wq2; rw [up_o (by omega), up_k h]
theorem wq2_32 {u : St} {k : Int32} : wq2 u k 111 32 = u 111 32 + 1 := by unfold wq2; rw [up_o (by omega), up_rd, msk_k (by decide)]
theorem st_6 {op : Int32} {n : Nat} {recC recR : St → St} {s t : St} (h : PR op s t) (h5 : t 111 5 = 0) (ek : mzV t = 6) {m9 : Nat} (hop : op = nI m9) (hm9 : m9 ≤ 6) (hq : ¬ op = 6 → rqF recR n (op + 1)) (hB : ¬ op = 6 → BK (op + 1) recC recR) (hF : ∀ s, WFR s (recC s)) : PO s t (tkR (rtF recC op s) 59) (wqF recR t) := by
  have hk1 : ¬ mzV t = -1 := by rw [ek]; decide
  obtain ⟨S, A3, A76, Ao, ei, hi, hP⟩ := wst_e h h5 hk1
  obtain ⟨-, g2, -, -, g5, g6, g7⟩ := wq2_q (k := mzV t) hP
  have ez := mz_e h.1 h5
  have W := h.2.1
  have hb := W.2.2.1 h5
  have h150 := W.2.1
  have hpb := W.1.2.1
  have hC := h.2.2.2.1
  have eC : rtF recC op s = raF recC op (nI (sN t)) (ws3 s) := by
    unfold rtF; rw [← ez, ei, ek]; unfold rtK
    rw [if_neg (by decide), if_neg (by decide), if_neg (by decide), if_neg (by decide), if_neg (by decide), if_neg (by decide), if_pos rfl]
  rw [eC]
  have hop6 : op < 6 ↔ m9 < 6 := by rw [hop]; exact nI_lt6 hm9
  have h8z : mbz t 111 8 = op := by rw [mbz_k (by decide)]; exact h.2.2.1
  have h5z : mbz t 111 5 = 0 := by rw [mbz_5]; exact h5
  have k14 : (ws3 s) 1 4 = mbz t 111 4 := by
    have e1 : (ws3 s) 1 4 = woS s 3 1 4 := by
      unfold ws3; rw [up_o (by decide)]; unfold ws2; rw [rs_o (by decide)]
    rw [e1, woS_4, (h.1.pl h5).1]; unfold mbz; rw [if_pos h5]
  rw [ek] at S A76 g6 g5 g7
  by_cases hm : b2 (mop (mbz t) 111 5 = 0) = 0
  · -- a 7th
    have h86 : op = 6 := by
      apply Decidable.byContradiction; intro z
      apply b2_z hm
      unfold mop; rw [if_neg (fun y => z (h8z.symm.trans y.2)), if_pos h5z, up_k (by decide)]; exact h5z
    have em : mop (mbz t) = wr (mbz t) 3 (mbz t 111 4) := by unfold mop; rw [if_pos ⟨h5z, h8z.trans h86⟩]
    have eA : raF recC op (nI (sN t)) (ws3 s) = bl (ws3 s) 3 (mbz t 111 4) := by
      unfold raF; rw [if_neg (by rw [h86]; decide), k14]
    have qf : ∀ f, f ≠ 4 → f ≠ 32 → wq2 (mbz t) 6 111 f = mbz t 111 f := fun f a b => by
      unfold wq2; rw [up_o (by omega), up_k b, msk_k a]
    have S0 : SY0 (ws3 s) (mbz t) := ⟨hP.1.1, by rw [S.2.1, qf 2 (by decide) (by decide)], by rw [S.2.2.1, g5 112 (by decide) (by decide)], by rw [S.2.2.2.1, qf 5 (by decide) (by decide)], by rw [S.2.2.2.2.1, qf 6 (by decide) (by decide)]⟩
    have S1 : SY (bl (ws3 s) 3 (mbz t 111 4)) (wr (mbz t) 3 (mbz t 111 4)) := S0.yw (by decide)
    have hw : ¬ wr (mbz t) 3 (mbz t 111 4) 111 5 = 0 := wr_5 (by decide)
    rw [eA, wqF_60 ek hm, em, tkR_same (fun z => hw (S1.2.2.2.1.symm.trans z))]
    exact PO.bad S1 hw
  · have hop2 : ¬ op = 6 := fun z => (mop_1 hm).2.1 (h8z.trans z)
    have hlt : m9 < 6 := by
      rcases Nat.lt_or_ge m9 6 with z | z
      · exact z
      · exact absurd (by rw [hop, show m9 = 6 by omega]; rfl) hop2
    have em : mop (mbz t) = up (mbz t) 111 8 (op + 1) := by rw [(mop_1 hm).2.2, h8z]
    obtain ⟨Wm, M8⟩ := mop_W hP.1 hm
    have hPm : wqP (sN t) (mop (mbz t)) := by
      refine ⟨Wm, b2_nz hm, ?_, ?_⟩
      · rw [em]; unfold sN; rw [up_k (by decide)]; exact hP.2.2.1
      · rw [em, up_k (by decide), up_o (by decide), up_k (by decide)]; exact hP.2.2.2
    obtain ⟨q1, q2, q3, q4, q5, q6, q7⟩ := wq2_q (k := 6) hPm
    obtain ⟨r1, r2, r3, r4, r5⟩ := wq6_q hPm
    have eV0 : ∀ f, f ≠ 8 → wq2 (mop (mbz t)) 6 111 f = wq2 (mbz t) 6 111 f := fun f a => by
      by_cases b : f = 32
      · subst b
        rw [wq2_32, wq2_32, em, up_k (by decide)]
      · rw [wq2_k b, wq2_k b, em, msk_8, up_k a]
    have S1 : SY (ws3 s) (wq2 (mop (mbz t)) 6) := S.cr (eV0 2 (by decide)) (eV0 4 (by decide)) (eV0 5 (by decide)) (eV0 6 (by decide)) (by rw [q5 112 (by decide) (by decide), g5 112 (by decide) (by decide), mop_oo (by decide)])
    have e32 : wq2 (mop (mbz t)) 6 111 32 = nI (sN t + 1) := by rw [i_eq, i_nI (by omega), q6]; omega
    have e115 : wq2 (mop (mbz t)) 6 115 = t 115 := by rw [q5 115 (by decide) (by decide), mop_oo (by decide), mbz_o (by decide)]
    have eG : wqF recR t = wqE (mcl8 (msg (wqR wqc1 recR 151 (wq6 (wq2 (mop (mbz t)) 6) (511 + sN t))) 93)) (511 + sN t) := by
      rw [wqF_6 ek hm]; unfold wqG; rw [q2]; unfold wqB
      rw [if_neg (by decide), if_neg (by decide), if_neg (by decide), if_pos rfl]
    have eA : raF recC op (nI (sN t)) (ws3 s) = rs (tkR (recC (tkR (rn1 (ws3 s) 77 150 (nI (sN t)) 0 30) 91)) 93) 79 150 (nI (sN t)) ((tkR (recC (tkR (rn1 (ws3 s) 77 150 (nI (sN t)) 0 30) 91)) 93) 74 3) := by
      unfold raF; rw [if_pos (hop6.mpr hlt)]
    rw [eG, eA]
    generalize hAe : ws3 s = A at *
    generalize hve : wq2 (mop (mbz t)) 6 = v at *
    generalize hse : sN t = i at *
    have hi150 : i < 150 := by omega
    obtain ⟨Sn, Vn⟩ := S1.yn (row := 77) (n := 150) (o := 511 + i) (k := 1) (idx := nI i) (lo := 0) (hi := 30) (by decide) (by decide) (by decide) (by omega)
    have en := rn1_e (s := A) (row := 77) (n := 150) (i := i) (lo := 0) (hi := 30) hi150 (by decide)
    have S2 := Sn.ysg (c := 91) (by decide)
    have S3 : SY (tkR (rn1 A 77 150 (nI i) 0 30) 91) (wq6 v (511 + i)) := S2.ybl
    have no : ∀ q, q ≠ 1 → q ≠ 78 → tkR (rn1 A 77 150 (nI i) 0 30) 91 q = A q := fun q a b => by rw [tkR_o a, en, up_o b, nuS_o a]
    have n78 : ∀ j, j ≠ i → tkR (rn1 A 77 150 (nI i) 0 30) 91 78 j = A 78 j := fun j a => by rw [tkR_o (by decide), en, up_k a, nuS_o (by decide)]
    have n78i : tkR (rn1 A 77 150 (nI i) 0 30) 91 78 i = nuV (nu1 A) := by rw [tkR_o (by decide), en, up_rd]
    have w115 : wq6 v (511 + i) 115 = t 115 := by
      unfold wq6; rw [mbl_o (by decide), msg_o (by decide), mnO_o (by decide) (by omega)]; exact e115
    have w32 : wq6 v (511 + i) 111 32 = nI (i + 1) := by
      unfold wq6; rw [mbl_k (by decide), msg_k (by decide) (by decide) (by decide), mnO_32 (by omega)]; exact e32
    have w1 : wq6 v (511 + i) (511 + i) 1 = mnV v 0 30 := by
      unfold wq6; rw [mbl_o (by omega), msg_o (by omega), mnO_r1]
    have hPR : PR (op + 1) (tkR (rn1 A 77 150 (nI i) 0 30) 91) (wq6 v (511 + i)) := by
      refine ⟨S3, r2, by rw [r3, M8, h8z], CE_fr hC (by rw [no 6 (by decide) (by decide), Ao 6 (by decide) (by decide) (by decide)]) w115, fun _ => ?_⟩
      rw [w32, no 74 (by decide) (by decide)]; exact A3
    have P := hB hop2 _ _ hPR (by unfold wq6; exact mbl_i)
    have Wq := (wqR_q (c := wqc1) (hq hop2) 151 _ r2 hPR.2.2.1).1
    have Wm2 := okq.tr Wq (msg_q (c := 93) Wq.1 (by decide))
    generalize hs1 : tkR (rn1 A 77 150 (nI i) 0 30) 91 = s1 at *
    have g5' : ∀ z : msg (wqR wqc1 recR 151 (wq6 v (511 + i))) 93 111 5 = 0, wq6 v (511 + i) 111 5 = 0 := fun z => (Wm2.2.2.2.2.2 z).1
    have g9 : wq6 v (511 + i) 111 5 = 0 → mnO v (511 + i) 1 0 30 111 5 = 0 := fun z => by
      have z2 : msg (mnO v (511 + i) 1 0 30) 91 111 5 = 0 := by unfold wq6 at z; rw [mbl_k (by decide)] at z; exact z
      exact ((okr_sg (c := 91) Sn.1 (by decide)).2.2 z2).1
    generalize ht1 : wq6 v (511 + i) = t1 at *
    generalize hw1 : msg (wqR wqc1 recR 151 t1) 93 = x1 at *
    generalize hb1 : tkR (recC s1) 93 = b1 at *
    obtain ⟨SB, PB⟩ := P
    have eB : rs b1 79 150 (nI i) (b1 74 3) = up b1 80 i (b1 74 3) := rs_nI hi150 (by decide)
    rw [eB]
    have SBv : SY (up b1 80 i (b1 74 3)) (mcl8 x1) := by
      unfold mcl8
      exact SY.cl (SY.cr SB (up_k (by decide)) (up_k (by decide)) (up_k (by decide)) (up_k (by decide)) (up_o (by decide))) (by rw [up_o (by decide)]) (by rw [up_o (by decide)]) (by rw [up_o (by decide)]) (by rw [up_o (by decide)]) (up_o (by decide))
    have mk : ∀ f, f ≠ 8 → mcl8 x1 111 f = x1 111 f := fun f a => by unfold mcl8; exact up_k a
    have mo : ∀ q, q ≠ 111 → mcl8 x1 q = x1 q := fun q a => by unfold mcl8; exact up_o a
    have wf : WFR s1 b1 := by rw [← hb1]; exact (hF s1).tr WFR_tk
    refine po_fin SBv (fun z => ?_)
    rw [mk 5 (by decide)] at z
    obtain ⟨p1, p2, p3⟩ := PB z
    have z1 := g5' z
    obtain ⟨v1, v2, v3, v4⟩ := Vn (g9 z1)
    have rows := (Wm2.2.2.2.2.2 z).2.2.2.2
    have row_i : x1 (511 + i) = t1 (511 + i) := rows i (by omega)
    have eN : sN (mcl8 x1) = sN x1 := by unfold sN; rw [mk 32 (by decide)]
    rw [hse, eN, mk 32 (by decide)]
    refine ⟨by rw [up_o (by decide)]; exact p1, fun k h1 h2 => ?_, fun k hk => ?_⟩
    · by_cases q : k = i
      · subst q
        have f0 : up (mcl8 x1) (511 + k) 3 (x1 111 32) (511 + k) 0 = 6 := by rw [up_k (by decide), mo _ (by omega), row_i]; exact r5
        have f1 : up (mcl8 x1) (511 + k) 3 (x1 111 32) (511 + k) 1 = mnV v 0 30 := by rw [up_k (by decide), mo _ (by omega), row_i]; exact w1
        have f3 : up (mcl8 x1) (511 + k) 3 (x1 111 32) (511 + k) 3 = x1 111 32 := up_rd
        obtain ⟨y1, y2, y3⟩ := p3 k (by omega)
        unfold RW
        rw [f0, f1, f3, up_o (by decide), up_o (by decide), up_rd, y1, y2, no 76 (by decide) (by decide), A76, ud_r, n78i, v2]
        rw [i_le] at v3 v4
        have z0 : (0 : Int32).toInt = 0 := rfl
        have z30 : (30 : Int32).toInt = 30 := rfl
        exact ⟨rfl, Or.inr rfl, fun y => absurd y (by decide), fun _ => p1, fun y => absurd y (by decide), fun y => absurd y (by decide), fun y => absurd y (by decide), fun _ => ⟨by omega, by omega⟩, by decide, fun y => absurd rfl y⟩
      · exact RW_fr (p2 k (by omega) h2) (by rw [up_o (by decide)]) (by rw [up_o (by decide)]) (up_k q) (by rw [up_o (by omega), mo _ (by omega)]) (by rw [up_o (by omega), mo 115 (by decide)])
    · obtain ⟨y1, y2, y3⟩ := p3 k (by omega)
      rw [up_o (by decide), up_o (by decide), up_k (by omega), y1, y2, y3, no 76 (by decide) (by decide), n78 k (by omega), no 80 (by decide) (by decide), A76, ud_k (by omega), Ao 78 (by decide) (by decide) (by decide), Ao 80 (by decide) (by decide) (by decide)]
      exact ⟨rfl, rfl, rfl⟩
/-! loops -/
theorem PO.tr {s t s1 t1 s' t' : St} (h1 : PO s t s1 t1) (o1 : okq (sN t) 0 0 t t1) (h2 : PO s1 t1 s' t') (o2 : okq (sN t1) 0 0 t1 t') : PO s t s' t' ∧ okq (sN t) 0 0 t t' := by
  refine ⟨⟨h2.1, fun z => ?_⟩, okq.wk (okq.tr2 o1 o2 (Nat.le_refl _)) (Nat.le_refl _) (by omega) (by omega)⟩
  obtain ⟨q0, q1, q2, q3, q4⟩ := o2.2.2.2.2.2 z
  obtain ⟨p0, p1, p2, p3, p4⟩ := o1.2.2.2.2.2 q0
  obtain ⟨a1, a2, a3⟩ := h1.2 q0
  obtain ⟨b1, b2, b3⟩ := h2.2 z
  have hle : sN t ≤ sN t1 := by unfold sN; omega
  refine ⟨b1, fun k g1 g2 => ?_, fun k hk => ?_⟩
  · rcases Nat.lt_or_ge k (sN t1) with y | y
    · obtain ⟨c1, c2, c3⟩ := b3 k y
      exact RW_fr (a2 k g1 y) c1 c2 c3 (q4 k y) (o2.2.2.2.1 115 (by decide) (by decide))
    · exact b2 k y g2
  · obtain ⟨c1, c2, c3⟩ := b3 k (by omega)
    obtain ⟨d1, d2, d3⟩ := a3 k hk
    exact ⟨c1.trans d1, c2.trans d2, c3.trans d3⟩
theorem PO.rf {s t : St} (h : SY s t) (h2 : t 111 5 = 0 → s 74 3 = t 111 32) : PO s t s t := ⟨h, fun z => ⟨h2 z, fun k a b => absurd b (by omega), fun _ _ => ⟨rfl, rfl, rfl⟩⟩⟩
theorem stR_s1 {f : St → St} {m : Nat} {s : St} (h : ¬ s 1 5 = 0 ∨ s 1 2 ≤ s 1 3 ∨ nxP s 93) : stR f m s = s := by
  refine stR_stop ?_
  rcases h with z | z | z
  · exact Or.inl (b2_f z)
  · exact Or.inr (Or.inl (fun q => b2_z q z))
  · exact Or.inr (Or.inr (fun q => b2_z q z))
theorem stR_g1 {f : St → St} {m : Nat} {s : St} (h1 : s 1 5 = 0) (h2 : ¬ s 1 2 ≤ s 1 3) (h3 : ¬ nxP s 93) : stR f (m + 1) s = stR f m (tkR (f s) 59) := by
  rw [stR, if_neg]
  rintro (z | z | z)
  · exact b2_z z h1
  · exact z (b2_f h2)
  · exact z (b2_f h3)
theorem nx_iff {s t : St} (h : SY s t) (h5 : t 111 5 = 0) (hN : mbl t = t) : nxP s 93 ↔ mbt (t 111 2) (t 112) (t 111 4) = 93 := by
  have := tk_iff h (c := 93) (by decide)
  unfold tkP mtP msP9 at this
  rw [hN, h.2.2.2.1] at this
  exact ⟨fun z => (this.mp ⟨h5, z⟩).2, fun z => (this.mpr ⟨h5, z⟩).2⟩
/-- the class's loop over steps, and the reference's as far -/
theorem wk_loop {op : Int32} {n : Nat} {f fR : St → St} {c : St → Bool} (hf : ∀ s t : St, PR op s t → t 111 5 = 0 → PO s t (tkR (f s) 59) (fR t)) (hq : rqF fR n op) (hw : ∀ s, WFR s (f s)) (hc : ∀ t : St, t 111 4 < t 111 2 → ¬ mbt (t 111 2) (t 112) (t 111 4) = 93 → c t = true) : ∀ (m : Nat) (s t : St) (N : Nat), PR op s t → mbl t = t → (t 111 5 = 0 → (t 111 2).toInt - (t 111 4).toInt ≤ m) → (t 111 5 = 0 → (t 111 2).toInt - (t 111 4).toInt < N) →
    ∃ (t' : St) (N' : Nat), PR op (stR f m s) t' ∧ PO s t (stR f m s) t' ∧ okq (sN t) 0 0 t t' ∧ mbl t' = t' ∧ wqR c fR N t = wqR c fR N' t' ∧ (t' 111 5 = 0 → (t' 111 2 ≤ t' 111 4 ∨ mbt (t' 111 2) (t' 112) (t' 111 4) = 93) ∧ (t' 111 2).toInt - (t' 111 4).toInt < N') := by
  intro m
  induction m with
  | zero =>
    intro s t N h hN hm hNN
    refine ⟨t, N, h, PO.rf h.1 h.2.2.2.2, okq.rf h.1.1, hN, rfl, fun z => ⟨Or.inl ?_, hNN z⟩⟩
    rw [i_le]; have := hm z; omega
  | succ m ih =>
    intro s t N h hN hm hNN
    by_cases h5 : t 111 5 = 0
    · have hs5 : s 1 5 = 0 := h.1.2.2.2.1.trans h5
      have ep : s 1 3 = t 111 4 := (h.1.pl h5).1.trans (nb_at hN)
      by_cases he : t 111 4 < t 111 2
      · by_cases hx : mbt (t 111 2) (t 112) (t 111 4) = 93
        · rw [stR_s1 (Or.inr (Or.inr ((nx_iff h.1 h5 hN).mpr hx)))]
          exact ⟨t, N, h, PO.rf h.1 h.2.2.2.2, okq.rf h.1.1, hN, rfl, fun z => ⟨Or.inr hx, hNN z⟩⟩
        · rw [stR_g1 hs5 (by rw [ep, h.1.2.1]; exact i_lle he) (fun y => hx ((nx_iff h.1 h5 hN).mp y))]
          obtain ⟨e, -, k1, k2, k3⟩ := wqR_go (c := c) hq h.2.1 h.2.2.1 hNN ⟨h5, hc t he hx⟩
          have P := hf s t h h5
          have q0 := (hq t h.2.1 h.2.2.1).1
          have q1 := okq.tr q0 (mbl_q (r := sN t) q0.1)
          have P1 : PO s t (tkR (f s) 59) (mbl (fR t)) := by
            refine ⟨P.1.ybl, fun z => ?_⟩
            rw [mbl_k (by decide)] at z
            obtain ⟨a, b, d⟩ := P.2 z
            have eN : sN (mbl (fR t)) = sN (fR t) := by unfold sN; rw [mbl_k (by decide)]
            rw [eN, mbl_k (by decide)]
            exact ⟨a, fun k x y => RW_fr (b k x y) rfl rfl rfl (mbl_o (by omega)) (mbl_o (by decide)), d⟩
          have R1 : PR op (tkR (f s) 59) (mbl (fR t)) := ⟨P1.1, k1, k2, CE_fr h.2.2.2.1 (((hw s).tr WFR_tk).1 6 (by decide) (by decide) (by decide) (by decide) (by decide)) (q1.2.2.2.1 115 (by decide) (by decide)), fun z => (P1.2 z).1⟩
          have q2 : okq (sN t) 0 0 t (mbl (fR t)) := okq.wk q1 (Nat.le_refl _) (by omega) (by omega)
          obtain ⟨t', N', r1, r2, r3, r4, r5, r6⟩ := ih (tkR (f s) 59) (mbl (fR t)) (N - 1) R1 mbl_i (fun z => by
            have a := (q1.2.2.2.2.2 z).2.2.1; have b := hm h5; rw [q1.2.1]; omega) k3
          obtain ⟨u1, u2⟩ := PO.tr P1 q2 r2 r3
          exact ⟨t', N', r1, u1, u2, r4, e.trans r5, r6⟩
      · rw [stR_s1 (Or.inr (Or.inl (by rw [ep, h.1.2.1]; exact i_nlt he)))]
        exact ⟨t, N, h, PO.rf h.1 h.2.2.2.2, okq.rf h.1.1, hN, rfl, fun z => ⟨Or.inl (i_nlt he), hNN z⟩⟩
    · rw [stR_s1 (Or.inl (fun z => h5 (h.1.2.2.2.1.symm.trans z)))]
      exact ⟨t, N, h, PO.rf h.1 h.2.2.2.2, okq.rf h.1.1, hN, rfl, fun z => absurd z h5⟩
/-- no word stands at the end, none at a ] -/
theorem wlen_z {len : Int32} {f : Nat → Int32} {p : Int32} (h : len ≤ p ∨ mbt len f p = 93) (h0 : 0 ≤ p.toInt) (h1 : p.toInt ≤ len.toInt) (hl : len.toInt ≤ 600) : wlen len f p = 0 := by
  obtain ⟨L, q1, q2, q3, q4⟩ := rn_run (P := isA f) _ p rfl h1
  have hL : wlen len f p = L := by unfold wlen; omega
  rw [hL]
  rcases Nat.eq_zero_or_pos L with z | z
  · exact z
  · exfalso
    rcases h with y | y
    · rw [i_le] at y; omega
    · have := q3 0 z
      rw [show p + nI 0 = p from Int32.add_zero p] at this
      rw [mbt_rg h0 hl this.1] at y
      have w := (of_decide_eq_true this.2).1
      rw [y] at w
      exact absurd w (by decide)
theorem mz_none {t : St} (hp : pB t) (hN : mbl t = t) (h5 : t 111 5 = 0) (h : t 111 2 ≤ t 111 4 ∨ mbt (t 111 2) (t 112) (t 111 4) = 93) : mzV t = -1 := by
  apply Decidable.byContradiction
  intro z
  have e : mbz t = t := by unfold mbz; rw [if_pos h5, hN]
  have := (mz_f z).2
  rw [e] at this
  exact this (wlen_z h hp.1 hp.2.1 hp.2.2)
/-- a fault at what can't be a step -/
theorem no_step {s t : St} (h : SY s t) (hN : mbl t = t) (h5 : t 111 5 = 0) : SY (bl s 1 (s 1 3)) (mbl (wr (mbz t) 1 (mbz t 111 4))) := by
  have e : mbz t = t := by unfold mbz; rw [if_pos h5, hN]
  rw [e, (h.pl h5).1.trans (nb_at hN)]
  exact (h.ywr (by decide)).ybl
theorem bk_of {op : Int32} {n : Nat} {f rR : St → St} (hf : ∀ s t : St, PR op s t → t 111 5 = 0 → PO s t (tkR (f s) 59) (wqF rR t)) (hq : rqF (wqF rR) n op) (hw : ∀ s, WFR s (f s)) : BK op (stR f 150) (wqF rR) := by
  intro s t h hN
  have hb := h.2.1.2.1
  have h0 := h.1.1.1
  obtain ⟨t', N', r1, r2, r3, r4, r5, r6⟩ := wk_loop (c := wqc1) hf hq hw (fun t _ hx => decide_eq_true hx) 150 s t 151 h hN (fun _ => by show _ ≤ ((150 : Nat) : Int); omega) (fun _ => by show _ < ((151 : Nat) : Int); omega)
  rw [r5]
  generalize stR f 150 s = s' at *
  by_cases h5 : t' 111 5 = 0
  · obtain ⟨hs, hn⟩ := r6 h5
    by_cases hx : mbt (t' 111 2) (t' 112) (t' 111 4) = 93
    · have e : wqR wqc1 (wqF rR) N' t' = t' := wqR_stop (fun z => by
        have := of_decide_eq_true z.2; exact this hx)
      rw [e]
      refine ⟨r1.1.ysg (c := 93) (by decide), fun z => ?_⟩
      obtain ⟨a, b, c⟩ := r2.2 h5
      have e32 : msg t' 93 111 32 = t' 111 32 := msg_k (by decide) (by decide) (by decide)
      have eN : sN (msg t' 93) = sN t' := by unfold sN; rw [e32]
      rw [eN, e32, tkR_o (by decide)]
      exact ⟨a, fun k x y => RW_fr (b k x y) (by rw [tkR_o (by decide)]) (by rw [tkR_o (by decide)]) (by rw [tkR_o (by decide)]) (msg_o (by omega)) (msg_o (by decide)), fun k hk => by rw [tkR_o (by decide), tkR_o (by decide), tkR_o (by decide)]; exact c k hk⟩
    · obtain ⟨e, -, -⟩ := wqR_go (c := wqc1) (m := N') hq r1.2.1 r1.2.2.1 (fun _ => hn) ⟨h5, decide_eq_true hx⟩
      have hz := mz_none r1.1.1 r4 h5 hs
      have hwz : ¬ mbl (wr (mbz t') 1 (mbz t' 111 4)) 111 5 = 0 := by rw [mbl_k (by decide)]; exact wr_5 (by decide)
      have hm : msg (mbl (wr (mbz t') 1 (mbz t' 111 4))) 93 = mbl (wr (mbz t') 1 (mbz t' 111 4)) := by unfold msg; exact if_neg hwz
      rw [e, wqF_m hz, wqR_stop (fun z => hwz z.1), hm]
      have hs5 : s' 1 5 = 0 := r1.1.2.2.2.1.trans h5
      have htk : tkR s' 93 = bl s' 1 (s' 1 3) := by
        have n1 : ¬ tkP s' 93 := fun z => hx ((nx_iff r1.1 h5 r4).mp z.2)
        unfold tkR; rw [tkS_n n1, b2_f n1]; unfold rq; rw [if_pos rfl]
      rw [htk]
      exact PO.bad (no_step r1.1 r4 h5) hwz
  · have e : wqR wqc1 (wqF rR) N' t' = t' := wqR_stop (fun z => h5 z.1)
    have hm : msg t' 93 = t' := by unfold msg; exact if_neg h5
    rw [e, hm, tkR_same (fun z => h5 (r1.1.2.2.2.1.symm.trans z))]
    exact PO.bad r2.1 h5
/-- a step of any kind -/
theorem st_all {op : Int32} {n : Nat} {recC recR : St → St} {m9 : Nat} (hop : op = nI m9) (hm9 : m9 ≤ 6) (hq : ¬ op = 6 → rqF recR n (op + 1)) (hB : ¬ op = 6 → BK (op + 1) recC recR) (hF : ∀ s, WFR s (recC s)) (s t : St) (h : PR op s t) (h5 : t 111 5 = 0) : PO s t (tkR (rtF recC op s) 59) (wqF recR t) := by
  rcases mzV_rng (t := t) with z | z | z | z | z | z | z | z
  · have ez := mz_e h.1 h5
    have S := h.1.ywn h5 (w := 3) (ez.symm.trans z)
    have hwz : ¬ wr (mbz t) 1 (mbz t 111 4) 111 5 = 0 := wr_5 (by decide)
    have e : rtF recC op s = ws3 s := by
      unfold rtF; rw [← ez, z]; unfold rtK
      rw [if_neg (by decide), if_neg (by decide), if_neg (by decide), if_neg (by decide), if_neg (by decide), if_neg (by decide), if_neg (by decide)]
    have S3 : SY (ws3 s) (wr (mbz t) 1 (mbz t 111 4)) := by
      unfold ws3 ws2
      exact S.cl (by rw [up_o (by decide), rs_o (by decide)]) (by rw [up_o (by decide), rs_o (by decide)]) (by rw [up_o (by decide), rs_o (by decide)]) (by rw [up_o (by decide), rs_o (by decide)]) (by rw [up_o (by decide), rs_o (by decide)])
    rw [e, wqF_m z, tkR_same (fun y => hwz (S3.2.2.2.1.symm.trans y))]
    exact PO.bad S3 hwz
  · exact st_n h h5 z (by decide)
  · exact st_n h h5 z (by decide)
  · exact st_n h h5 z (by decide)
  · exact st_n h h5 z (by decide)
  · exact st_n h h5 z (by decide)
  · exact st_n h h5 z (by decide)
  · exact st_6 h h5 z hop hm9 hq hB hF
theorem bk_N : ∀ (n : Nat) (op : Int32), op = nI (6 - n) → n ≤ 6 → BK op (wsN n op) (wqN n) := by
  intro n
  induction n with
  | zero =>
    intro op hop _
    have q := wqN_q 0 op hop (by decide)
    exact bk_of (rR := fun s => s) (st_all (n := 0) hop (by decide) (fun z => absurd hop z) (fun z => absurd hop z) (fun _ => WFR.rf)) q (WFR_rt (fun _ => WFR.rf))
  | succ n ih =>
    intro op hop hn
    have e : op + 1 = nI (6 - n) := by rw [hop, nI_s]; congr 1; omega
    have q := wqN_q (n + 1) op hop hn
    exact bk_of (rR := wqN n) (st_all (n := n) hop (by omega) (fun _ => wqN_q n (op + 1) e (by omega)) (fun _ => ih (op + 1) e (by omega)) (fun _ => WFR_N _ _ _)) q (WFR_rt (fun _ => WFR_N _ _ _))
