/-! ===== a work, whole ===== -/
theorem RB.mw {σ : St} (h : RB σ) : mW σ := by
  obtain ⟨hC, -, hO, hG, -⟩ := h
  exact ⟨hC.b, fun j hj => hC.pl hj, fun j hj => hC.pd hj, hO, hG.2.1⟩
theorem RX.rw_ {σ : St} {f : Nat → Int32} {o : Nat} (h : RX σ f (σ o)) : rW σ o := by
  refine ⟨fun z => ?_, Or.inl h.2⟩
  rcases h.1.2.1.2 with y | y <;> rw [y] at z <;> exact absurd z (by decide)
/-- what the class's doing of works leaves alone: all beyond its own objects -/
theorem psP_hi {s : St} {q : Nat} {i : Int32} {o : Nat} (h : 111 ≤ o) (hq : q < 100) : psP s q i o = s o := by
  unfold psP; rw [hps_o (by omega)]; exact pske_o (by omega) (by omega) (by omega) (by omega) (by omega) (by omega)
theorem dsS_hi {s : St} {st : Int32} {o : Nat} (h : 111 ≤ o) : dsS s st o = s o := by
  unfold dsS
  generalize rg (s 76) 150 st = k
  generalize rg (s 78) 150 st = f
  generalize rg (s 80) 150 st = c
  have hb : ∀ b, sbS s f b o = s o := fun b => by
    unfold sbS; split
    · rfl
    · exact rs_o (by omega)
  unfold dkS
  split
  · exact hb 0
  split
  · exact hb 1
  split
  · unfold ldS; split
    · rfl
    · exact rs_o (by omega)
  split
  · split
    · rfl
    · exact psP_hi h (by decide)
  split
  · exact fgS_row.2.2 o (by omega)
  split
  · rfl
  · exact nnS_o (by omega)
theorem rb2_hi {s : St} {st : Int32} {o : Nat} (h : 111 ≤ o) : rb2 s st o = s o := by
  unfold rb2; split
  · rw [up_o (by omega)]; exact dsS_hi h
  · rw [up_o (by omega)]; exact dsS_hi h
theorem rsR_hi {ra : Int32 → St → St} {to : Int32} (hr : ∀ x s o, 111 ≤ o → ra x s o = s o) : ∀ (n : Nat) (x : Int32) (s : St) (o : Nat), 111 ≤ o → rsR ra to n x s o = s o := by
  intro n
  induction n with
  | zero => intro x s o _; rfl
  | succ n ih =>
    intro x s o ho
    have b1 : rb1 s o = s o := by unfold rb1; exact up_o (by omega)
    rw [rsR]; split
    · split
      · rw [ih _ _ o ho, hr _ _ o ho]; exact b1
      · rw [ih _ _ o ho, rb2_hi ho]; exact b1
    · rfl
theorem raG_hi {rec : Int32 → Int32 → St → St} {op : Int32} (hr : ∀ x y s o, 111 ≤ o → rec x y s o = s o) (x : Int32) (s : St) (o : Nat) (ho : 111 ≤ o) : raG rec op x s o = s o := by
  unfold raG; split
  · rfl
  · generalize ct (tmv s x) = k
    induction k with
    | zero => rfl
    | succ k ih => rw [it_s, hr _ _ _ o ho]; exact ih
theorem rgN_hi : ∀ (n : Nat) (op x y : Int32) (s : St) (o : Nat), 111 ≤ o → rgN n op x y s o = s o := by
  intro n
  induction n with
  | zero => intro op x y s o ho; exact rsR_hi (raG_hi (fun _ _ _ _ _ => rfl)) _ _ _ o ho
  | succ n ih => intro op x y s o ho; exact rsR_hi (raG_hi (fun x y s o ho => ih (op + 1) x y s o ho)) _ _ _ o ho
/-- the class keeps what was ahead -/
theorem kw_c {s : St} {w : Nat} (h : s 102 3 = nI w) (hw : w < 16) : (∀ k, k < 29 → kwS s 104 (29 * w + k) = s 83 k) ∧ (∀ j, (j < 29 * w ∨ 29 * w + 29 ≤ j) → kwS s 104 j = s 104 j) ∧ kwS s 102 3 = nI (w + 1) ∧ (∀ k, k ≠ 3 → kwS s 102 k = s 102 k) ∧ ∀ o, o ≠ 102 → o ≠ 104 → kwS s o = s o := by
  have e : cpy s 103 464 82 29 0 (s 102 3 * 29) 29 = cpy s 103 464 82 29 (nI 0) (nI (29 * w)) 29 := by
    rw [h, show (29 : Int32) = nI 29 from rfl, nI_mul (by omega), Nat.mul_comm]; rfl
  have eK : kwS s = up (cpy s 103 464 82 29 (nI 0) (nI (29 * w)) 29) 102 3 (nI (w + 1)) := by
    unfold kwS; rw [e, cpy_o (by decide), h, nI_s]
  rw [eK]
  refine ⟨fun k hk => ?_, fun j hj => ?_, up_rd, fun k hk => ?_, fun o h1 h2 => ?_⟩
  · rw [up_o (by decide)]
    have := cpy_in (σ := s) (o := 103) (n := 464) (q := 82) (m := 29) (A := 0) (B := 29 * w) (N := 29) (c := 29) ct_29 (by decide) (by decide) (by omega) (by decide) (by decide) k hk
    rw [Nat.zero_add] at this; exact this
  · rw [up_o (by decide)]
    exact cpy_out (o := 103) ct_29 (by omega) (by decide) hj
  · rw [up_k hk, cpy_o (by decide)]
  · rw [up_o h1, cpy_o (by omega)]
/-- the whole text of a work, read by both -/
theorem wk_read {σ τ : St} {n : Int32} (hC : RC σ) (h112 : σ 3 = τ 112) (h115 : τ 115 = σ 115) (h0 : 0 ≤ n.toInt) (h1 : n.toInt ≤ 150) (hst : ∀ s, s < 80 → 0 ≤ (τ (511 + s) 1).toInt) :
    SY (wkR (opn σ n)) (wkF τ n) ∧ (wkF τ n 111 5 = 0 → (wkR (opn σ n)) 74 3 = wkF τ n 111 32 ∧ ∀ k, k < sN (wkF τ n) → RW (wkR (opn σ n)) (wkF τ n) k) ∧ okq 0 0 0 (wk0 τ n) (wkF τ n) := by
  have p := hC.p
  have b := hC.b
  have tln : ∀ k, k < 5 → (tl σ k : Int) = (σ 115 k).toInt := fun k hk => by have := p k hk; unfold tl ct; omega
  have t0 := tln 0 (by decide)
  have t1 := tln 1 (by decide)
  have t2 := tln 2 (by decide)
  have t3 := tln 3 (by decide)
  have e115 : (Jvm.Pilot.CDonkeyLightLaw_law_r8509_9544ed.t0 τ) 115 = σ 115 := by unfold Jvm.Pilot.CDonkeyLightLaw_law_r8509_9544ed.t0; rw [up_o (by decide)]; exact h115
  have hW : pW (wk0 τ n) := wk0_W h0 h1 (by rw [e115]; omega) (by rw [e115]; omega) (fun s hs => by unfold Jvm.Pilot.CDonkeyLightLaw_law_r8509_9544ed.t0; rw [up_o (by omega)]; exact hst s hs)
  have hS : SY (opn σ n) (mst (Jvm.Pilot.CDonkeyLightLaw_law_r8509_9544ed.t0 τ) n) := SY.yop (by unfold Jvm.Pilot.CDonkeyLightLaw_law_r8509_9544ed.t0; rw [up_o (by decide)]; exact h112) h0 (by omega)
  have S0 : SY (up (opn σ n) 74 3 0) (wk0 τ n) := by
    unfold wk0
    exact SY.cl (SY.cr hS (up_k (by decide)) (up_k (by decide)) (up_k (by decide)) (up_k (by decide)) (up_o (by decide))) (by rw [up_o (by decide)]) (by rw [up_o (by decide)]) (by rw [up_o (by decide)]) (by rw [up_o (by decide)]) (up_o (by decide))
  have w115 : wk0 τ n 115 = σ 115 := by unfold wk0; rw [up_o (by decide), mst_o (by decide)]; exact e115
  have hE : CE (up (opn σ n) 74 3 0) (wk0 τ n) := by
    have c6 : (up (opn σ n) 74 3 0) 6 = σ 6 := by rw [up_o (by decide), opn_o (by decide)]
    refine ⟨?_, fun k hk => ?_⟩
    · unfold cM; rw [c6, w115]; exact ⟨hC.m0, hC.m1, hC.m2, hC.m3⟩
    · rw [w115]
      have : k = 0 ∨ k = 1 ∨ k = 2 ∨ k = 3 := by omega
      rcases this with z | z | z | z <;> subst z <;> omega
  have hP : PR 0 (up (opn σ n) 74 3 0) (wk0 τ n) := ⟨S0, hW, wk0_8, hE, fun _ => by unfold wk0; rw [up_rd, up_rd]⟩
  have hN : mbl (wk0 τ n) = wk0 τ n := by
    unfold wk0 mst
    generalize up (up (up (up (up (up (up (Jvm.Pilot.CDonkeyLightLaw_law_r8509_9544ed.t0 τ) 111 1 0) 111 2 n) 111 4 0) 111 5 0) 111 6 (-1)) 111 7 0) 111 8 0 = X
    have e : mbl (up (mbl X) 111 32 0) = up (mbl (mbl X)) 111 32 0 := by
      show up (up (mbl X) 111 32 0) 111 4 _ = up (up (mbl X) 111 4 _) 111 32 0
      rw [up_cmk (by decide), up_k (show 2 ≠ 32 by decide), up_k (show 4 ≠ 32 by decide), up_o (show 112 ≠ 111 by decide)]
    rw [e, mbl_i]
  have hq := wqN_q 6 0 rfl (by decide)
  have hst6 : ∀ s t : St, PR 0 s t → t 111 5 = 0 → PO s t (tkR (rtF (wsN 5 (0 + 1)) 0 s) 59) (wqF (wqN 5) t) := st_all (m9 := 0) (n := 5) rfl (by decide) (fun _ => wqN_q 5 (0 + 1) rfl (by decide)) (fun _ => bk_N 5 (0 + 1) rfl (by decide)) (fun _ => WFR_N _ _ _)
  have hb := hW.1.2.1
  have h4 := hW.1.1
  have h2 := hW.2.1
  obtain ⟨t', N', r1, r2, r3, r4, r5, r6⟩ := wk_loop (c := wqc2) (fR := wqF (wqN 5)) (f := rtF (wsN 5 (0 + 1)) 0) hst6 hq (WFR_rt (fun _ => WFR_N _ _ _)) (fun t ht _ => decide_eq_true ht) 150 _ _ 151 hP hN (fun _ => by show _ ≤ ((150 : Nat) : Int); omega) (fun _ => by show _ < ((151 : Nat) : Int); omega)
  have eF : wkF τ n = wqR wqc2 (wqF (wqN 5)) N' t' := r5
  have eC : wkR (opn σ n) = rq (stR (rtF (wsN 5 (0 + 1)) 0) 150 (up (opn σ n) 74 3 0)) (b2 ((stR (rtF (wsN 5 (0 + 1)) 0) 150 (up (opn σ n) 74 3 0)) 1 2 ≤ (stR (rtF (wsN 5 (0 + 1)) 0) 150 (up (opn σ n) 74 3 0)) 1 3)) := rfl
  rw [eF, eC]
  have sN0 : sN (wk0 τ n) = 0 := by unfold sN wk0; rw [up_rd]; rfl
  rw [sN0] at r3
  have rq_o : ∀ (u : St) (x : Int32) (o : Nat), o ≠ 1 → rq u x o = u o := fun u x o ho => by
    unfold rq; split
    · exact bl_o ho
    · rfl
  generalize stR (rtF (wsN 5 (0 + 1)) 0) 150 (up (opn σ n) 74 3 0) = s' at *
  by_cases h5 : t' 111 5 = 0
  · obtain ⟨hs, hn⟩ := r6 h5
    have hs5 : s' 1 5 = 0 := r1.1.2.2.2.1.trans h5
    have ep : s' 1 3 = t' 111 4 := (r1.1.pl h5).1.trans (nb_at r4)
    by_cases he : t' 111 4 < t' 111 2
    · have he2 : ¬ s' 1 2 ≤ s' 1 3 := by rw [ep, r1.1.2.1]; exact i_lle he
      obtain ⟨e, -⟩ := wqR_go (c := wqc2) (m := N') hq r1.2.1 r1.2.2.1 (fun _ => hn) ⟨h5, decide_eq_true he⟩
      have e : wqR wqc2 (wqF (wqN 5)) N' t' = wqR wqc2 (wqF (wqN 5)) (N' - 1) (mbl (wqF (wqN 5) t')) := e
      have hz := mz_none r1.1.1 r4 h5 hs
      have hwz : ¬ mbl (wr (mbz t') 1 (mbz t' 111 4)) 111 5 = 0 := by rw [mbl_k (by decide)]; exact wr_5 (by decide)
      have e' : wqR wqc2 (wqF (wqN 5)) N' t' = mbl (wr (mbz t') 1 (mbz t' 111 4)) := by
        rw [e, wqF_m hz, wqR_stop (fun z => hwz z.1)]
      have S := no_step r1.1 r4 h5
      rw [e', b2_f he2]
      unfold rq
      rw [if_pos rfl]
      refine ⟨S, fun z => absurd z hwz, S.1, ?_, ?_, fun o p q => ?_, fun z s hs => ?_, fun z => absurd z hwz⟩
      · rw [mbl_k (by decide), wr_k (by decide) (by decide), mbz_k (by decide)]; exact r3.2.1
      · rw [mbl_k (by decide), wr_k (by decide) (by decide), mbz_k (by decide)]; exact r3.2.2.1
      · rw [mbl_o p, wr_o p, mbz_o p]; exact r3.2.2.2.1 o p q
      · rw [mbl_o (by omega), wr_o (by omega), mbz_o (by omega)]; exact r3.2.2.2.2.1 z s hs
    · have he2 : s' 1 2 ≤ s' 1 3 := by rw [ep, r1.1.2.1]; exact i_nlt he
      have e' : wqR wqc2 (wqF (wqN 5)) N' t' = t' := wqR_stop (fun z => he (of_decide_eq_true z.2))
      rw [e', b2_t he2]
      unfold rq
      rw [if_neg (by decide)]
      obtain ⟨a, b, c⟩ := r2.2 h5
      exact ⟨r2.1, fun _ => ⟨a, fun k hk => b k (by rw [sN0]; omega) hk⟩, r3⟩
  · have e' : wqR wqc2 (wqF (wqN 5)) N' t' = t' := wqR_stop (fun z => h5 z.1)
    have hsf : ¬ s' 1 5 = 0 := fun z => h5 (r1.1.2.2.2.1.symm.trans z)
    have er : ∀ x, rq s' x = s' := fun x => by
      unfold rq; split
      · exact bl_same hsf
      · rfl
    rw [e', er]
    exact ⟨r2.1, fun z => absurd z h5, r3⟩
