theorem wkR_f {σ : St} {n : Int32} : (∀ o, o ≠ 1 → o ≠ 74 → o ≠ 76 → o ≠ 78 → o ≠ 80 → wkR (opn σ n) o = σ o) ∧ wkR (opn σ n) 1 1 = 0 := by
  have hw := WFR_N 6 0 (up (opn σ n) 74 3 0)
  have eC : wkR (opn σ n) = rq (wsN 6 0 (up (opn σ n) 74 3 0)) (b2 ((wsN 6 0 (up (opn σ n) 74 3 0)) 1 2 ≤ (wsN 6 0 (up (opn σ n) 74 3 0)) 1 3)) := rfl
  rw [eC]
  generalize wsN 6 0 (up (opn σ n) 74 3 0) = X at *
  refine ⟨fun o a b c d e => ?_, ?_⟩
  · have : rq X (b2 (X 1 2 ≤ X 1 3)) o = X o := by
      unfold rq; split
      · exact bl_o a
      · rfl
    rw [this, hw.1 o a b c d e, up_o b, opn_o a]
  · have : rq X (b2 (X 1 2 ≤ X 1 3)) 1 1 = X 1 1 := by
      unfold rq; split
      · exact bl_k (by decide) (by decide)
      · rfl
    rw [this, hw.2.1 1 (by decide) (by decide) (by decide) (by decide), up_o (by decide), opn_1]
/-- the class's state when the run begins, and after -/
def xwA (σ : St) (n : Int32) : St := wr0 (kwS (wkR (opn σ n)))
theorem xw_in {σ : St} {n : Int32} {w : Nat} (h3 : σ 102 3 = nI w) (hw : w < 16) : xwS σ n = (if wkR (opn σ n) 1 5 = 0 then xw2 (rgN 6 0 0 ((xwA σ n) 74 3) (xwA σ n)) else wkR (opn σ n)) ∧ xwV σ n = (if wkR (opn σ n) 1 5 = 0 then (xw2 (rgN 6 0 0 ((xwA σ n) 74 3) (xwA σ n))) 74 5 else wkR (opn σ n) 1 5 - 10) := by
  have e : (opn σ n) 102 3 < 16 := by rw [opn_o (by decide), h3]; exact nI_ltz hw (by decide)
  unfold xwS xwV
  rw [if_pos e, if_pos e]
  by_cases q : wkR (opn σ n) 1 5 = 0
  · rw [if_neg (fun y => b2_z y q), if_neg (fun y => b2_z y q), if_pos q, if_pos q]; exact ⟨rfl, rfl⟩
  · rw [if_pos (b2_f q), if_pos (b2_f q), if_neg q, if_neg q]; exact ⟨rfl, rfl⟩
theorem xwA_hi {σ : St} {n : Int32} {w : Nat} (h3 : σ 102 3 = nI w) (hw : w < 16) {o : Nat} (ho : 111 ≤ o) : xwA σ n o = σ o := by
  obtain ⟨f1, -⟩ := wkR_f (σ := σ) (n := n)
  have h3' : (wkR (opn σ n)) 102 3 = nI w := by rw [f1 102 (by decide) (by decide) (by decide) (by decide) (by decide)]; exact h3
  obtain ⟨-, -, -, -, k5⟩ := kw_c h3' hw
  unfold xwA wr0
  rw [up_o (by omega), up_o (by omega), up_o (by omega), k5 o (by omega) (by omega)]
  exact f1 o (by omega) (by omega) (by omega) (by omega) (by omega)
theorem xw_hi {σ : St} {n : Int32} {w : Nat} (h3 : σ 102 3 = nI w) (hw : w < 16) {o : Nat} (ho : 111 ≤ o) : xwS σ n o = σ o := by
  rw [(xw_in h3 hw).1]; split
  · unfold xw2; rw [up_o (by omega), rgN_hi _ _ _ _ _ _ ho]; exact xwA_hi h3 hw ho
  · exact wkR_f.1 o (by omega) (by omega) (by omega) (by omega) (by omega)
theorem wkF_f {τ : St} {n : Int32} (q : okq 0 0 0 (wk0 τ n) (wkF τ n)) : (∀ o, o ≠ 111 → (o < 511 ∨ 591 ≤ o) → wkF τ n o = τ o) ∧ (∀ k, 8 < k → k ≠ 24 → k ≠ 32 → wkF τ n 111 k = τ 111 k) ∧ wkF τ n 111 1 = 0 ∧ ((∀ s, s < 80 → 0 ≤ (τ (511 + s) 1).toInt) → ∀ s, s < 80 → 0 ≤ (wkF τ n (511 + s) 1).toInt) := by
  have hF : fk (wk0 τ n) (wkF τ n) := fk_R (fk_N 6) 151 _ _ fk.rf
  have w0 : ∀ o, o ≠ 111 → wk0 τ n o = τ o := fun o a => by unfold wk0; rw [up_o a, mst_o a]; unfold t0; rw [up_o a]
  refine ⟨fun o a b => by rw [q.2.2.2.1 o a b]; exact w0 o a, fun k a b c => ?_, ?_, fun h => q.2.2.2.2.1 (fun s hs => by rw [w0 _ (by omega)]; exact h s hs)⟩
  · rw [hF k (by omega)]; unfold wk0; rw [up_k c, mst_3 (by omega)]; unfold t0; rw [up_k (by omega)]
  · rw [hF 1 (by decide)]; unfold wk0 mst; rw [up_k (by decide), mbl_k (by decide), up_k (by decide), up_k (by decide), up_k (by decide), up_k (by decide), up_k (by decide), up_k (by decide), up_rd]
theorem RA_work {σ : St} {n : Int32} {w : Nat} (h : RA σ) (hst : ∀ s, s < 80 → 0 ≤ (σ (511 + s) 1).toInt) (h0 : 0 ≤ n.toInt) (h1 : n.toInt ≤ 150) (h38 : σ 111 38 = nI w) (hw : w < 16) : RA (wkS (xwS σ n) n w) ∧ xwV σ n = wkV (xwS σ n) n w ∧ ∀ s, s < 80 → 0 ≤ (wkS (xwS σ n) n w (511 + s) 1).toInt := by
  have hRA := h
  obtain ⟨hB, hX, ⟨⟨w', hW⟩, i, hI⟩, hQ⟩ := h
  have hw' : w' = w := nI_inj (by have := hW.1; omega) (by omega) (hW.2.1.symm.trans h38)
  subst hw'
  have h3 : σ 102 3 = nI w' := hW.2.2.1
  have hbb := hB.c.b3
  have hC := hB.c
  have xhi : ∀ o, 111 ≤ o → xwS σ n o = σ o := fun o ho => xw_hi h3 hw ho
  have hst' : ∀ s, s < 80 → 0 ≤ (xwS σ n (511 + s) 1).toInt := fun s hs => by rw [xhi _ (by omega)]; exact hst s hs
  obtain ⟨S, D, Q⟩ := wk_read (σ := σ) (τ := xwS σ n) (n := n) hC (by rw [xhi 112 (by decide)]; exact hQ.1.2.2.2) (xhi 115 (by decide)) h0 h1 hst'
  obtain ⟨fo, ff, f1, fs⟩ := wkF_f Q
  obtain ⟨xo, x11⟩ := wkR_f (σ := σ) (n := n)
  obtain ⟨eS, eV⟩ := xw_in (n := n) h3 hw
  have gf : ∀ f, 8 < f → f ≠ 24 → f ≠ 32 → wkF (xwS σ n) n 111 f = σ 111 f := fun f a b c => by rw [ff f a b c, xhi 111 (by decide)]
  by_cases f : wkF (xwS σ n) n 111 5 = 0
  · have c5 : wkR (opn σ n) 1 5 = 0 := S.2.2.2.1.trans f
    have c6 : wkR (opn σ n) 1 6 = -1 := S.2.2.2.2.1.trans (S.2.2.2.2.2 f).2
    rw [if_pos c5] at eS eV
    obtain ⟨D1, D2⟩ := D f
    have hmw : mW (t0 (xwS σ n)) := by
      have : mW (xwS σ n) := mW_eq (xhi 115 (by decide)) (fun o a _ => xhi o (by omega)) (by rw [xhi 111 (by decide)]) (by rw [xhi 111 (by decide)]) hB.mw
      exact mW_eq (by unfold t0; rw [up_o (by decide)]) (fun o a _ => by unfold t0; rw [up_o (by omega)]) (by unfold t0; rw [up_k (by decide)]) (by unfold t0; rw [up_k (by decide)]) this
    have hrw : rW (t0 (xwS σ n)) 122 := by
      have := (RX.rw_ (o := 122) hX)
      unfold rW t0 at *; rw [up_o (by decide), xhi 122 (by decide)]; exact this
    have e115 : (t0 (xwS σ n)) 115 = σ 115 := by unfold t0; rw [up_o (by decide)]; exact xhi 115 (by decide)
    have p := hC.p
    have tln : ∀ k, k < 5 → (tl σ k : Int) = (σ 115 k).toInt := fun k hk => by have := p k hk; unfold tl ct; omega
    have b := hC.b
    have t2 := tln 2 (by decide)
    have t3 := tln 3 (by decide)
    obtain ⟨-, w2, w3, w4, -, -, -⟩ := wk_facts (w := w') h0 h1 hmw hrw (by rw [e115]; omega) (by rw [e115]; omega) (fun s hs => by unfold t0; rw [up_o (by omega)]; exact hst' s hs) (by unfold t0; rw [up_k (by decide), xhi 111 (by decide)]; exact h38) hw f
    have eW : wkS (xwS σ n) n w' = mgN 6 0 (sN (wkF (xwS σ n) n)) (wkG (wkF (xwS σ n) n) w') := by unfold wkS; exact if_pos f
    have eX : wkV (xwS σ n) n w' = mgN 6 0 (sN (wkF (xwS σ n) n)) (wkG (wkF (xwS σ n) n) w') 111 47 := by unfold wkV; exact if_pos f
    rw [eW, eX, eV]
    have fo' : ∀ o, o ≠ 111 → (o < 511 ∨ 591 ≤ o) → wkF (xwS σ n) n o = xwS σ n o := fo
    have fs' := fs hst'
    -- the class before the run
    have h3' : (wkR (opn σ n)) 102 3 = nI w' := by rw [xo 102 (by decide) (by decide) (by decide) (by decide) (by decide)]; exact h3
    obtain ⟨k1, k2, k3, k4, k5⟩ := kw_c h3' hw
    have A74 : (xwA σ n) 74 3 = wkF (xwS σ n) n 111 32 := by
      unfold xwA wr0; rw [up_k (by decide), up_k (by decide), up_k (by decide), k5 74 (by decide) (by decide)]; exact D1
    have Ao : ∀ o, o ≠ 74 → xwA σ n o = kwS (wkR (opn σ n)) o := fun o a => by unfold xwA wr0; rw [up_o a, up_o a, up_o a]
    have As : ∀ o, o ≠ 1 → o ≠ 74 → o ≠ 76 → o ≠ 78 → o ≠ 80 → o ≠ 102 → o ≠ 104 → xwA σ n o = σ o := fun o a b c d e g i => by
      rw [Ao o b, k5 o g i]; exact xo o a b c d e
    have Ac : (xwA σ n) 74 4 = 0 ∧ (xwA σ n) 74 5 = 0 ∧ (xwA σ n) 74 6 = 0 := by
      refine ⟨?_, ?_, ?_⟩
      · unfold xwA wr0; rw [up_k (by decide), up_k (by decide), up_rd]
      · unfold xwA wr0; rw [up_k (by decide), up_rd]
      · unfold xwA wr0; rw [up_rd]
    generalize hT : wkF (xwS σ n) n = t at *
    have Go : ∀ o, o ≠ 111 → o ≠ 591 + w' → wkG t w' o = t o := fun o a b => by
      unfold wkG; rw [up_o a, up_o a, up_o a, up_o a, fl_o b, up_o a]
    have Gk : ∀ f, f ≠ 3 → f ≠ 38 → f ≠ 46 → f ≠ 47 → f ≠ 39 → wkG t w' 111 f = t 111 f := fun f a b c d e => by
      unfold wkG; rw [up_k e, up_k d, up_k c, up_k b, fl_o (by omega), up_k a]
    have Gr : ∀ k, k < 31 → wkG t w' (591 + w') k = t 122 k := fun k hk => by
      unfold wkG; rw [up_o (by omega), up_o (by omega), up_o (by omega), up_o (by omega), fl_in hk]
    have Gc : wkG t w' 111 38 = nI (w' + 1) ∧ wkG t w' 111 46 = 0 ∧ wkG t w' 111 47 = 0 ∧ wkG t w' 111 39 = 0 ∧ wkG t w' 111 3 = -1 := by
      refine ⟨?_, ?_, ?_, ?_, ?_⟩
      · unfold wkG; rw [up_k (by decide), up_k (by decide), up_k (by decide), up_rd]
      · unfold wkG; rw [up_k (by decide), up_k (by decide), up_rd]
      · unfold wkG; rw [up_k (by decide), up_rd]
      · unfold wkG; rw [up_rd]
      · unfold wkG; rw [up_k (by decide), up_k (by decide), up_k (by decide), up_k (by decide), fl_o (by omega), up_rd]
    have tr : ∀ o, 111 < o → (o < 511 ∨ 591 ≤ o) → t o = σ o := fun o a b => by rw [fo' o (by omega) b]; exact xhi o (by omega)
    -- the base
    generalize hA : xwA σ n = A at *
    generalize hG : wkG t w' = g at *
    have gr : ∀ o, 111 < o → (o < 511 ∨ 591 ≤ o) → o ≠ 591 + w' → g o = σ o := fun o a b c => by rw [Go o (by omega) c]; exact tr o a b
    have gk : ∀ f, 8 < f → f ≠ 24 → f ≠ 32 → f ≠ 38 → f ≠ 46 → f ≠ 47 → f ≠ 39 → g 111 f = σ 111 f := fun f a b c d e x y => by rw [Gk f (by omega) d e x y]; exact gf f a b c
    have mC : ∀ o, o < 56 → 4 ≤ o → mx A g o = σ o := fun o a b => by rw [mx_c (by omega)]; exact As o (by omega) (by omega) (by omega) (by omega) (by omega) (by omega) (by omega)
    have mR : ∀ o, 111 < o → o < 511 → mx A g o = σ o := fun o a b => by rw [mx_r (by omega)]; exact gr o a (Or.inl b) (by omega)
    have mT : ∀ k, tl (mx A g) k = tl σ k := fun k => by unfold tl; rw [mR 115 (by decide) (by decide)]
    have m23 : mx A g 111 23 = σ 111 23 := by rw [mx_r (by decide)]; exact gk 23 (by decide) (by decide) (by decide) (by decide) (by decide) (by decide) (by decide)
    have zC : RC (mx A g) := RC_eq2 hC (fun o a b => mC o (by omega) a) (mR 115 (by decide) (by decide)) (mR 117 (by decide) (by decide)) (mR 119 (by decide) (by decide)) (fun o a => mR o (by omega) (by omega))
    have zL : LW (mx A g) (mx A g) := LW_eq hB.2.1 (mC 50 (by decide) (by decide)) (mC 52 (by decide) (by decide)) (mC 54 (by decide) (by decide)) m23 (fun k hk => mR _ (by omega) (by omega))
    have zO : lawOK (mx A g) := lawOK_eq (fun o a b => mR o (by omega) (by omega)) m23 hB.2.2.1
    have hRUN : RUN (mx A g) A g := by
      refine ⟨fun o a _ _ _ _ _ _ _ _ => (mx_c a).symm, fun k _ _ _ => by rw [mx_c (by decide)], fun o a _ _ _ => (mx_r (by omega)).symm, fun f _ _ _ => by rw [mx_r (by decide)], ⟨?_, ?_, ?_⟩, ?_⟩
      · rw [Ac.1, Gc.2.1]
      · rw [Ac.2.1, Gc.2.2.1]
      · rw [Ac.2.2, Gc.2.2.2.1]
      · rw [mT, mT, mT, As 83 (by decide) (by decide) (by decide) (by decide) (by decide) (by decide) (by decide), gr 122 (by decide) (by decide) (by omega)]
        exact rn_rk2 hX.1 hX.2
    have eg : ∀ j, j < 80 → mx A g (511 + j) = t (511 + j) := fun j hj => by rw [mx_r (by omega)]; exact Go _ (by omega) (by omega)
    have zW : ∀ k, 0 ≤ k → k < sN t → RW (mx A g) (mx A g) k := fun k _ hk => by
      refine RW_fr (D2 k hk) ?_ ?_ ?_ (eg k (by omega)) ?_
      · rw [mx_c (by decide), Ao 76 (by decide), k5 76 (by decide) (by decide)]
      · rw [mx_c (by decide), Ao 78 (by decide), k5 78 (by decide) (by decide)]
      · rw [mx_c (by decide), Ao 80 (by decide), k5 80 (by decide) (by decide)]
      · rw [mR 115 (by decide) (by decide), tr 115 (by decide) (by decide)]
    have zg : gok (mx A g) 6 0 (sN t) := gok_eq 6 0 (sN t) w3 (fun s hs => by rw [mx_r (by omega)]) w4
    have hRR := run_N zC zL zO 6 0 rfl (by decide) 0 (sN t) A g (Nat.zero_le _) w3 zg zW hRUN
    have e32 : A 74 3 = nI (sN t) := by rw [A74]; unfold sN; exact (nI_bk w2).symm
    rw [show (nI 0 : Int32) = 0 from rfl, ← e32] at hRR
    have gq3 : gq g (mgN 6 0 (sN t) g) := gfr_N 6 0 (sN t) g w3 w4 (by
      have : tl g 0 = tl σ 0 := by unfold tl; rw [gr 115 (by decide) (by decide) (by omega)]
      rw [this]; exact hC.b.1)
    generalize hU : rgN 6 0 0 (A 74 3) A = u at *
    generalize hV : mgN 6 0 (sN t) g = r at *
    obtain ⟨ra, rb, rc, rd, ⟨re1, re2, re3⟩, rk⟩ := hRR
    -- what r is
    have rlo : ∀ o, o < 111 → r o = xw2 u o := fun o ho => by
      rw [gq3.1 o (by omega) (by omega) (by omega) (by omega), Go o (by omega) (by omega), fo' o (by omega) (by omega), eS]
    have x2 : ∀ o, o ≠ 0 → xw2 u o = u o := fun o a => by unfold xw2; exact up_o a
    have x0 : xw2 u 0 14 = u 74 6 ∧ ∀ k, k ≠ 14 → xw2 u 0 k = u 0 k := ⟨by unfold xw2; rw [up_rd], fun k hk => by unfold xw2; rw [up_k hk]⟩
    have uA : ∀ o, o < 111 → o ≠ 56 → o ≠ 58 → o ≠ 74 → o ≠ 83 → o ≠ 86 → o ≠ 88 → o ≠ 90 → o ≠ 92 → u o = A o := fun o a b c d e x y z v => by
      rw [ra o a b c d e x y z v, mx_c a]
    have rs : ∀ o, 4 ≤ o → o < 111 → o ≠ 56 → o ≠ 58 → o ≠ 74 → o ≠ 76 → o ≠ 78 → o ≠ 80 → o ≠ 83 → o ≠ 86 → o ≠ 88 → o ≠ 90 → o ≠ 92 → o ≠ 102 → o ≠ 104 → r o = σ o := fun o l a b c d e x y z v i j k m q => by
      rw [rlo o a, x2 o (by omega), uA o a b c d z v i j k]; exact As o (by omega) d e x y m q
    have rh : ∀ o, 111 < o → o ≠ 120 → o ≠ 121 → o ≠ 122 → (o < 511 ∨ 591 ≤ o) → o ≠ 591 + w' → r o = σ o := fun o a b c d e f => by
      rw [rc o a b c d, mx_r (by omega)]; exact gr o a e f
    have rf : ∀ f, 8 < f → f < 41 → f ≠ 24 → f ≠ 32 → f ≠ 38 → f ≠ 39 → r 111 f = σ 111 f := fun f a b c d e x => by
      rw [rd f (by omega) b x, mx_r (by decide)]; exact gk f a c d e (by omega) (by omega) x
    have rT : ∀ k, tl r k = tl σ k := fun k => by unfold tl; rw [rh 115 (by decide) (by decide) (by decide) (by decide) (by decide) (by omega)]
    have hE : ∀ o, oB o → r o = σ o := fun o ho => by
      by_cases q : o < 111
      · exact rs o (by omega) q (by omega) (by omega) (by omega) (by omega) (by omega) (by omega) (by omega) (by omega) (by omega) (by omega) (by omega) (by omega) (by omega)
      · exact rh o (by omega) (by omega) (by omega) (by omega) (by omega) (by omega)
    have r68 : r 68 = σ 68 := rs 68 (by decide) (by decide) (by decide) (by decide) (by decide) (by decide) (by decide) (by decide) (by decide) (by decide) (by decide) (by decide) (by decide) (by decide) (by decide)
    have r102 : r 102 = A 102 := by rw [rlo 102 (by decide), x2 102 (by decide)]; exact uA 102 (by decide) (by decide) (by decide) (by decide) (by decide) (by decide) (by decide) (by decide) (by decide)
    have r104 : r 104 = A 104 := by rw [rlo 104 (by decide), x2 104 (by decide)]; exact uA 104 (by decide) (by decide) (by decide) (by decide) (by decide) (by decide) (by decide) (by decide) (by decide)
    have r83 : r 83 = u 83 := by rw [rlo 83 (by decide), x2 83 (by decide)]
    have w37 : r 111 37 = σ 111 37 := rf 37 (by decide) (by decide) (by decide) (by decide) (by decide) (by decide)
    have w23 : r 111 23 = σ 111 23 := rf 23 (by decide) (by decide) (by decide) (by decide) (by decide) (by decide)
    have w40 : r 111 40 = σ 111 40 := rf 40 (by decide) (by decide) (by decide) (by decide) (by decide) (by decide)
    have w38 : r 111 38 = nI (w' + 1) := by rw [rd 38 (by decide) (by decide) (by decide), mx_r (by decide)]; exact Gc.1
    have a104 : ∀ j, j < 29 * w' → A 104 j = σ 104 j := fun j hj => by
      rw [Ao 104 (by decide), k2 j (Or.inl hj), xo 104 (by decide) (by decide) (by decide) (by decide) (by decide)]
    have a104n : ∀ j, j < 29 → A 104 (29 * w' + j) = σ 83 j := fun j hj => by
      rw [Ao 104 (by decide), k1 j hj, xo 83 (by decide) (by decide) (by decide) (by decide) (by decide)]
    have rW9 : ∀ j, j < 31 → r (591 + w') j = σ 122 j := fun j hj => by
      rw [rc _ (by omega) (by omega) (by omega) (by omega), mx_r (by omega), Gr j hj, tr 122 (by decide) (by decide)]
    refine ⟨⟨RB_fr hB hE (by rw [r68]) w23 w37, ?_, ⟨⟨w' + 1, by omega, w38, ?_, fun k hk => ?_⟩, i, ?_⟩, ?_⟩, ?_, ?_⟩
    · unfold RX
      rw [rT, rT, rT, r83]
      rw [mT, mT, mT] at rk
      exact rk2_rn rk
    · rw [r102, Ao 102 (by decide), k3]
    · by_cases q : k = w'
      · subst q
        exact RX_eq hbb rT (fun j hj => by show r 104 (29 * k + j) = σ 83 j; rw [r104]; exact a104n j hj) (fun j hj => rW9 j (by omega)) hX
      · have hk' : k < w' := by omega
        exact RX_eq hbb rT (fun j hj => by show r 104 (29 * k + j) = σ 104 (29 * k + j); rw [r104]; exact a104 _ (by omega)) (fun j _ => by rw [rh (591 + k) (by omega) (by omega) (by omega) (by omega) (by omega) (by omega)]) (hW.2.2.2 k hk')
    · exact RHi_fr hbb rT hI w40 (by rw [r102, Ao 102 (by decide), k4 4 (by decide), xo 102 (by decide) (by decide) (by decide) (by decide) (by decide)]) (rs 106 (by decide) (by decide) (by decide) (by decide) (by decide) (by decide) (by decide) (by decide) (by decide) (by decide) (by decide) (by decide) (by decide) (by decide) (by decide)) (rs 108 (by decide) (by decide) (by decide) (by decide) (by decide) (by decide) (by decide) (by decide) (by decide) (by decide) (by decide) (by decide) (by decide) (by decide) (by decide)) (fun m hm => rh (607 + m) (by omega) (by omega) (by omega) (by omega) (by omega) (by omega))
    · have rone : r 1 = wkR (opn σ n) 1 := by
        rw [rlo 1 (by decide), x2 1 (by decide), uA 1 (by decide) (by decide) (by decide) (by decide) (by decide) (by decide) (by decide) (by decide) (by decide), Ao 1 (by decide), k5 1 (by decide) (by decide)]
      have r0 : ∀ k, k ≠ 14 → r 0 k = σ 0 k := fun k hk => by
        rw [rlo 0 (by decide), x0.2 k hk, uA 0 (by decide) (by decide) (by decide) (by decide) (by decide) (by decide) (by decide) (by decide) (by decide), As 0 (by decide) (by decide) (by decide) (by decide) (by decide) (by decide) (by decide)]
      have r3 : r 3 = σ 3 := by
        rw [rlo 3 (by decide), x2 3 (by decide), uA 3 (by decide) (by decide) (by decide) (by decide) (by decide) (by decide) (by decide) (by decide) (by decide)]
        exact As 3 (by decide) (by decide) (by decide) (by decide) (by decide) (by decide) (by decide)
      have m1 : r 111 1 = 0 := by
        rw [rd 1 (by decide) (by decide) (by decide), mx_r (by decide), Gk 1 (by decide) (by decide) (by decide) (by decide) (by decide)]; exact f1
      have m3 : r 111 3 = -1 := by rw [rd 3 (by decide) (by decide) (by decide), mx_r (by decide)]; exact Gc.2.2.2.2
      refine ⟨⟨?_, ?_, ?_, ?_⟩, ?_, ?_, ?_, ?_⟩
      · rw [m1, rone]; exact x11
      · rw [m1]; decide
      · rw [m1]; decide
      · rw [r3, rh 112 (by decide) (by decide) (by decide) (by decide) (by decide) (by omega)]; exact hQ.1.2.2.2
      · rw [rone, c6, m3]
      · rw [rlo 0 (by decide), x0.1]; exact re3
      · rw [r0 15 (by decide), rh 113 (by decide) (by decide) (by decide) (by decide) (by decide) (by omega)]; exact hQ.2.2.2.1
      · rw [r0 16 (by decide), rh 113 (by decide) (by decide) (by decide) (by decide) (by decide) (by omega)]; exact hQ.2.2.2.2
    · rw [x2 74 (by decide)]; exact re2
    · intro s hs
      rw [rc _ (by omega) (by omega) (by omega) (by omega), eg s hs]; exact fs' s hs
  · have c5 : ¬ wkR (opn σ n) 1 5 = 0 := fun y => f (S.2.2.2.1.symm.trans y)
    rw [if_neg c5] at eS eV
    have eM : wkS (xwS σ n) n w' = up (wkF (xwS σ n) n) 111 3 (wkF (xwS σ n) n 111 6) := by unfold wkS; exact if_neg f
    have eW : wkV (xwS σ n) n w' = wkF (xwS σ n) n 111 5 - 10 := by unfold wkV; exact if_neg f
    rw [eM, eW, eV, S.2.2.2.1]
    have c6 := S.2.2.2.2.1
    have fs' := fs hst'
    have fo' : ∀ o, o ≠ 111 → (o < 511 ∨ 591 ≤ o) → wkF (xwS σ n) n o = wkR (opn σ n) o := fun o a b => by rw [fo o a b, eS]
    generalize wkF (xwS σ n) n = t at *
    have ro : ∀ o, o ≠ 111 → (o < 511 ∨ 591 ≤ o) → o ≠ 1 → o ≠ 74 → o ≠ 76 → o ≠ 78 → o ≠ 80 → up t 111 3 (t 111 6) o = σ o := fun o a b c d e x y => by rw [up_o a, fo' o a b]; exact xo o c d e x y
    have rf : ∀ f, 8 < f → f ≠ 24 → f ≠ 32 → up t 111 3 (t 111 6) 111 f = σ 111 f := fun f a b c => by rw [up_k (by omega)]; exact gf f a b c
    have r1 : up t 111 3 (t 111 6) 1 = wkR (opn σ n) 1 := by rw [up_o (by decide), fo' 1 (by decide) (by decide)]
    have m1 : up t 111 3 (t 111 6) 111 1 = 0 := by rw [up_k (by decide)]; exact f1
    refine ⟨RA_fr hRA (fun o ho => ro o (by omega) (by omega) (by omega) (by omega) (by omega) (by omega) (by omega)) (by rw [ro 68 (by decide) (by decide) (by decide) (by decide) (by decide) (by decide) (by decide)]) (by rw [ro 102 (by decide) (by decide) (by decide) (by decide) (by decide) (by decide) (by decide)]) (by rw [ro 102 (by decide) (by decide) (by decide) (by decide) (by decide) (by decide) (by decide)]) (fun f hf => rf f (by omega) (by omega) (by omega)) ⟨⟨?_, ?_, ?_, ?_⟩, ?_, ?_, ?_, ?_⟩, rfl, fun s hs => by rw [up_o (by omega)]; exact fs' s hs⟩
    · rw [m1, r1]; exact x11
    · rw [m1]; decide
    · rw [m1]; decide
    · rw [ro 3 (by decide) (by decide) (by decide) (by decide) (by decide) (by decide) (by decide), ro 112 (by decide) (by decide) (by decide) (by decide) (by decide) (by decide) (by decide)]; exact hQ.1.2.2.2
    · rw [r1, c6, up_rd]
    · rw [ro 0 (by decide) (by decide) (by decide) (by decide) (by decide) (by decide) (by decide), rf 39 (by decide) (by decide) (by decide)]; exact hQ.2.2.1
    · rw [ro 0 (by decide) (by decide) (by decide) (by decide) (by decide) (by decide) (by decide), ro 113 (by decide) (by decide) (by decide) (by decide) (by decide) (by decide) (by decide)]; exact hQ.2.2.2.1
    · rw [ro 0 (by decide) (by decide) (by decide) (by decide) (by decide) (by decide) (by decide), ro 113 (by decide) (by decide) (by decide) (by decide) (by decide) (by decide) (by decide)]; exact hQ.2.2.2.2
/-- no room for a work -/
theorem RA_workF {σ : St} {n : Int32} (h : RA σ) (h38 : σ 111 38 = 16) : RA (up (up (up (xwS σ n) 111 0 0) 111 1 0) 111 3 (-1)) ∧ xwV σ n = -20 ∧ ∀ o, 111 ≤ o → xwS σ n o = σ o := by
  obtain ⟨⟨w, hW⟩, -⟩ := h.2.2.1
  have e3 : σ 102 3 = 16 := by rw [hW.2.2.1, ← hW.2.1, h38]
  have e : ¬ (opn σ n) 102 3 < 16 := by rw [opn_o (by decide), e3]; decide
  have eS : xwS σ n = opn σ n := by unfold xwS; rw [if_neg e]
  have eV : xwV σ n = -20 := by unfold xwV; rw [if_neg e]
  rw [eS]
  have ho : ∀ o, o ≠ 1 → o ≠ 111 → (up (up (up (opn σ n) 111 0 0) 111 1 0) 111 3 (-1)) o = σ o := fun o a b => by rw [up_o b, up_o b, up_o b, opn_o a]
  have hf : ∀ f, f ≠ 0 → f ≠ 1 → f ≠ 3 → (up (up (up (opn σ n) 111 0 0) 111 1 0) 111 3 (-1)) 111 f = σ 111 f := fun f a b c => by rw [up_k c, up_k b, up_k a, opn_o (by decide)]
  have r1 : ∀ k, (up (up (up (opn σ n) 111 0 0) 111 1 0) 111 3 (-1)) 1 k = opn σ n 1 k := fun k => by rw [up_o (by decide), up_o (by decide), up_o (by decide)]
  have m1 : (up (up (up (opn σ n) 111 0 0) 111 1 0) 111 3 (-1)) 111 1 = 0 := by rw [up_k (by decide), up_rd]
  refine ⟨RA_fr h (fun o o9 => ho o (by omega) (by omega)) (by rw [ho 68 (by decide) (by decide)]) (by rw [ho 102 (by decide) (by decide)]) (by rw [ho 102 (by decide) (by decide)]) (fun f hf9 => hf f (by omega) (by omega) (by omega)) ⟨⟨?_, ?_, ?_, ?_⟩, ?_, ?_, ?_, ?_⟩, eV, fun o o9 => opn_o (by omega)⟩
  · rw [m1, r1]; exact opn_1
  · rw [m1]; decide
  · rw [m1]; decide
  · rw [ho 3 (by decide) (by decide), ho 112 (by decide) (by decide)]; exact h.2.2.2.1.2.2.2
  · rw [r1, up_rd]; unfold opn; rw [mvt_k (by decide), up_rd]
  · rw [ho 0 (by decide) (by decide), hf 39 (by decide) (by decide) (by decide)]; exact h.2.2.2.2.2.1
  · rw [ho 0 (by decide) (by decide), ho 113 (by decide) (by decide)]; exact h.2.2.2.2.2.2.1
  · rw [ho 0 (by decide) (by decide), ho 113 (by decide) (by decide)]; exact h.2.2.2.2.2.2.2
