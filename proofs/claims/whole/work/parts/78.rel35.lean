/-! ===== signs; a product, a sum, a law read by both ===== -/
def SGR (sg mg : St → Int32 × St) : Prop := ∀ s t : St, SY s t → SY (sg s).2 (mg t).2 ∧ ((sg s).1 = -1 ↔ (mg t).1 = -1) ∧ (¬ (mg t).1 = -1 → LX (sg s).1 0 (mg t).1 0) ∧ (∀ o, o ≠ 1 → (sg s).2 o = s o) ∧ ((sg s).1 = -1 → (sg s).2 = s)
theorem tkS_n {s : St} {c : Int32} (h : ¬ tkP s c) : tkS s c = s := by unfold tkS; exact if_neg h
theorem b2_tk {s t : St} (h : SY s t) {c : Int32} (hc : 0 ≤ c) : b2 (tkP s c) = b2 (mtP t c) := b2_congr (tk_iff h hc)
theorem sg3_e : SGR sg3 mg3 := by
  intro s t h
  have S1 := h.yts (c := 42) (by decide)
  have S2 := S1.yts (c := 47) (by decide)
  have S3 := S2.yts (c := 37) (by decide)
  by_cases q1 : tkP s 42
  · have m1 := (tk_iff h (by decide)).mp q1
    rw [sg3_1 (fun z => b2_z z q1), mg3_1 (fun z => b2_z z m1)]
    exact ⟨S1, ⟨fun z => absurd z (by decide : ¬ (14 : Int32) = -1), fun z => absurd z (by decide : ¬ (4 : Int32) = -1)⟩, fun _ => (by decide : LX 14 0 4 0), fun o ho => tkS_o ho, fun z => absurd z (by decide : ¬ (14 : Int32) = -1)⟩
  · have m1 : ¬ mtP t 42 := fun z => q1 ((tk_iff h (by decide)).mpr z)
    by_cases q2 : tkP (tkS s 42) 47
    · have m2 := (tk_iff S1 (by decide)).mp q2
      rw [sg3_2 (b2_f q1) (fun z => b2_z z q2), mg3_2 (b2_f m1) (fun z => b2_z z m2)]
      exact ⟨S2, ⟨fun z => absurd z (by decide : ¬ (15 : Int32) = -1), fun z => absurd z (by decide : ¬ (5 : Int32) = -1)⟩, fun _ => (by decide : LX 15 0 5 0), fun o ho => (tkS_o ho).trans (tkS_o ho), fun z => absurd z (by decide : ¬ (15 : Int32) = -1)⟩
    · have m2 : ¬ mtP (mts t 42) 47 := fun z => q2 ((tk_iff S1 (by decide)).mpr z)
      by_cases q3 : tkP (tkS (tkS s 42) 47) 37
      · have m3 := (tk_iff S2 (by decide)).mp q3
        rw [sg3_3 (b2_f q1) (b2_f q2) (fun z => b2_z z q3), mg3_3 (b2_f m1) (b2_f m2) (fun z => b2_z z m3)]
        exact ⟨S3, ⟨fun z => absurd z (by decide : ¬ (16 : Int32) = -1), fun z => absurd z (by decide : ¬ (6 : Int32) = -1)⟩, fun _ => (by decide : LX 16 0 6 0), fun o ho => (tkS_o ho).trans ((tkS_o ho).trans (tkS_o ho)), fun z => absurd z (by decide : ¬ (16 : Int32) = -1)⟩
      · have m3 : ¬ mtP (mts (mts t 42) 47) 37 := fun z => q3 ((tk_iff S2 (by decide)).mpr z)
        rw [sg3_0 (b2_f q1) (b2_f q2) (b2_f q3), mg3_0 (b2_f m1) (b2_f m2) (b2_f m3)]
        exact ⟨S3, ⟨fun _ => rfl, fun _ => rfl⟩, fun z => absurd rfl z, fun o ho => (tkS_o ho).trans ((tkS_o ho).trans (tkS_o ho)), fun _ => (tkS_n q3).trans ((tkS_n q2).trans (tkS_n q1))⟩
theorem sg2_e : SGR sg2 mg2 := by
  intro s t h
  have S1 := h.yts (c := 43) (by decide)
  have S2 := S1.yts (c := 45) (by decide)
  by_cases q1 : tkP s 43
  · have m1 := (tk_iff h (by decide)).mp q1
    rw [sg2_1 (fun z => b2_z z q1), mg2_1 (fun z => b2_z z m1)]
    exact ⟨S1, ⟨fun z => absurd z (by decide : ¬ (12 : Int32) = -1), fun z => absurd z (by decide : ¬ (2 : Int32) = -1)⟩, fun _ => (by decide : LX 12 0 2 0), fun o ho => tkS_o ho, fun z => absurd z (by decide : ¬ (12 : Int32) = -1)⟩
  · have m1 : ¬ mtP t 43 := fun z => q1 ((tk_iff h (by decide)).mpr z)
    by_cases q2 : tkP (tkS s 43) 45
    · have m2 := (tk_iff S1 (by decide)).mp q2
      rw [sg2_2 (b2_f q1) (fun z => b2_z z q2), mg2_2 (b2_f m1) (fun z => b2_z z m2)]
      exact ⟨S2, ⟨fun z => absurd z (by decide : ¬ (13 : Int32) = -1), fun z => absurd z (by decide : ¬ (3 : Int32) = -1)⟩, fun _ => (by decide : LX 13 0 3 0), fun o ho => (tkS_o ho).trans (tkS_o ho), fun z => absurd z (by decide : ¬ (13 : Int32) = -1)⟩
    · have m2 : ¬ mtP (mts t 43) 45 := fun z => q2 ((tk_iff S1 (by decide)).mpr z)
      rw [sg2_0 (b2_f q1) (b2_f q2), mg2_0 (b2_f m1) (b2_f m2)]
      exact ⟨S2, ⟨fun _ => rfl, fun _ => rfl⟩, fun z => absurd rfl z, fun o ho => (tkS_o ho).trans (tkS_o ho), fun _ => (tkS_n q2).trans (tkS_n q1)⟩
theorem op_loop {sg mg : St → Int32 × St} {f f' : St → St} {op : Int32} (hsg : SGR sg mg) (hO : sgO mg) (hsd : SD mg) (hf : RR op f f') (hfo : fO f' op) : ∀ (n m : Nat) (s t : St), SL s t → pL t → t 111 8 = op → (t 111 5 = 0 → (t 111 2).toInt - (t 111 4).toInt ≤ n) → (t 111 5 = 0 → (t 111 2).toInt - (t 111 4).toInt < m) → SL (opR sg f n s) (mpR mg f' m t) := by
  intro n
  induction n with
  | zero =>
    intro m s t h hL h8 hn hm
    by_cases h5 : t 111 5 = 0
    · have hm1 := hm h5
      have b2' := hL.1.2.1
      cases m with
      | zero => omega
      | succ m =>
        obtain ⟨g1, g2, g3, g4, g5⟩ := hsg s t h.1
        obtain ⟨d1, d2, d3⟩ := hsd t
        have hc : (mg t).1 = -1 := Decidable.not_not.mp (fun hc => by
          have h1 := (hO t hL.1).2.2 hc
          have e5 : (mg t).2 111 5 = 0 := (hO t hL.1).2.1.trans h5
          have := (h1.2.2.2 e5).2.2.1
          have := h1.1.2.1
          rw [h1.2.1] at this
          have := hn h5
          omega)
        rw [mpR, if_pos h5, if_pos hc]
        show SL s (mg t).2
        have e := g5 (g2.mpr hc)
        rw [e] at g1
        exact h.of g1 (fun _ => h5) (fun _ _ => rfl) d1 d2 hL
    · rw [mpR_stop h5]; exact h
  | succ n ih =>
    intro m s t h hL h8 hn hm
    by_cases h5 : t 111 5 = 0
    · have hm1 := hm h5
      have b2' := hL.1.2.1
      have hs5 : s 1 5 = 0 := h.1.2.2.2.1.trans h5
      cases m with
      | zero => omega
      | succ m =>
        obtain ⟨g1, g2, g3, g4, g5⟩ := hsg s t h.1
        obtain ⟨d1, d2, d3⟩ := hsd t
        rw [opR, if_neg (fun z => b2_z z hs5), mpR, if_pos h5]
        have T := h.of g1 (fun _ => h5) g4 d1 d2 hL
        by_cases hc : (mg t).1 = -1
        · rw [if_pos hc, if_pos (g2.mpr hc)]; exact T
        · rw [if_neg hc, if_neg (fun z => hc (g2.mp z))]
          have h1 := (hO t hL.1).2.2 hc
          have L1 := okl.pL h1 hL (by omega)
          have o1 : (mg t).2 111 8 = op := by rw [h1.2.2.1, h8]
          have h2 := okl.tr h1 (hfo _ L1 o1)
          have T2 := (hf _ _ T L1 o1).nt (kd := (sg s).1) (num := 0) (w := (mg t).1) (v := 0) (okl_lt hL (okl.wk h2 (Int.le_refl _) (by omega))) (fun _ => g3 hc)
          have hi := mpR_it hO hfo hL h8 hc
          refine ih m _ _ T2 (okl.pL hi hL (by omega)) (by rw [hi.2.2.1, h8]) (fun z => ?_) (fun z => ?_)
          · have := (hi.2.2.2 z).2.2.1; have := hn h5; rw [hi.2.1]; omega
          · have := (hi.2.2.2 z).2.2.1; rw [hi.2.1]; omega
    · rw [opR_stop (b2_f (fun z => h5 (h.1.2.2.2.1.symm.trans z))), mpR_stop h5]; exact h
theorem pL_r {t : St} (h : pL t) : (t 111 5 = 0 → (t 111 2).toInt - (t 111 4).toInt ≤ 150) ∧ (t 111 5 = 0 → (t 111 2).toInt - (t 111 4).toInt < 151) := by
  obtain ⟨⟨a, b, c⟩, d, e⟩ := h
  exact ⟨fun _ => by omega, fun _ => by omega⟩
theorem pd_e {rec rec' : St → St} {op : Int32} {m : Nat} (hop : op = nI m) (hm : m ≤ 6) (hr : m < 6 → RR (op + 1) rec rec') (hf : rcF rec' op) : RR op (lqF rec op) (mpdF rec') := by
  intro s t h hL h8
  have f1 : fO (mo1 rec') op := fun s a b => okl_1 a b hf
  have h1 := f1 t hL h8
  have L1 := okl.pL h1 hL (by omega)
  exact op_loop sg3_e mg3_O sd_3 (one_e hop hm hr hf) f1 150 151 _ _ (one_e hop hm hr hf s t h hL h8) L1 (by rw [h1.2.2.1, h8]) (pL_r L1).1 (pL_r L1).2
theorem su_e {rec rec' : St → St} {op : Int32} {m : Nat} (hop : op = nI m) (hm : m ≤ 6) (hr : m < 6 → RR (op + 1) rec rec') (hf : rcF rec' op) : RR op (lsF rec op) (msuF rec') := by
  intro s t h hL h8
  have f1 : fO (mpdF rec') op := okl_pd hf
  have h1 := f1 t hL h8
  have L1 := okl.pL h1 hL (by omega)
  exact op_loop sg2_e mg2_O sd_2 (pd_e hop hm hr hf) f1 150 151 _ _ (pd_e hop hm hr hf s t h hL h8) L1 (by rw [h1.2.2.1, h8]) (pL_r L1).1 (pL_r L1).2
theorem suN_e : ∀ (n : Nat) (op : Int32), op = nI (6 - n) → n ≤ 6 → RR op (lsN n op) (msN n) := by
  intro n
  induction n with
  | zero => intro op hop _; exact su_e (m := 6) hop (by decide) (fun h => absurd h (by decide)) (fun h => absurd hop h)
  | succ n ih =>
    intro op hop hn
    have e : op + 1 = nI (6 - n) := by rw [hop, nI_s]; congr 1; omega
    exact su_e (m := 6 - (n + 1)) hop (by omega) (fun _ => ih (op + 1) e (by omega)) (fun _ t a b => msN_f n (op + 1) e (by omega) t a b)
/-- a law read by both -/
theorem lw_read {σ τ : St} {n : Int32} (hb : σ 3 = τ 112) (h0 : 0 ≤ n.toInt) (h1 : n.toInt ≤ 150) : SY (xl1 σ n) (mlwG τ n) ∧ (mlwG τ n 111 5 = 0 → LD (xl1 σ n) (mlwG τ n) ∧ WD (mlwG τ n) 1 ∧ 0 ≤ (mlwG τ n 111 24).toInt ∧ (mlwG τ n 111 24).toInt ≤ 150) := by
  have hS : SY (opn σ n) (mst (t0 τ) n) := SY.yop (by rw [hb]; unfold t0; rw [up_o (by decide)]) h0 (by omega)
  have hL := mlw0_L (σ := τ) h0 h1
  have S0 : SY (up (opn σ n) 59 4 0) (mlw0 τ n) := by
    unfold mlw0
    refine SY.cl (SY.cr hS ?_ ?_ ?_ ?_ ?_) ?_ ?_ ?_ ?_ ?_
    · exact up_k (by decide)
    · exact up_k (by decide)
    · exact up_k (by decide)
    · exact up_k (by decide)
    · exact up_o (by decide)
    · rw [up_o (by decide)]
    · rw [up_o (by decide)]
    · rw [up_o (by decide)]
    · rw [up_o (by decide)]
    · rw [up_o (by decide)]
  have e24 : mlw0 τ n 111 24 = 0 := by unfold mlw0; exact up_rd
  have D0 : LD (up (opn σ n) 59 4 0) (mlw0 τ n) := ⟨by rw [up_rd, e24], fun k hk => by rw [e24] at hk; exact absurd hk (Nat.not_lt_zero k)⟩
  have T := suN_e 6 0 rfl (by decide) _ _ ⟨S0, fun _ => D0⟩ hL mlw0_8
  have f1 := msN_f 6 0 rfl (by decide) _ hL mlw0_8
  have L1 := okl.pL f1 hL (by omega)
  have W1 := od_N 6 0 rfl (by decide) (mlw0 τ n) 0 hL mlw0_8 (fun _ => ⟨fun k hk => by rw [e24] at hk; exact absurd hk (Nat.not_lt_zero k), by rw [e24]; rfl⟩)
  have eX : xl1 σ n = rq (lsN 6 0 (up (opn σ n) 59 4 0)) (b2 ((lsN 6 0 (up (opn σ n) 59 4 0)) 1 2 ≤ (lsN 6 0 (up (opn σ n) 59 4 0)) 1 3)) := rfl
  have eY : mlwG τ n = mlwF (mbl (msN 6 (mlw0 τ n))) := rfl
  rw [eX, eY]
  generalize lsN 6 0 (up (opn σ n) 59 4 0) = X at *
  generalize msN 6 (mlw0 τ n) = Y at *
  have TB := T.1.ybl
  have m5 : mbl Y 111 5 = Y 111 5 := mbl_k (by decide)
  by_cases h5 : Y 111 5 = 0
  · have ep := (T.1.pl h5).1
    by_cases he : mbl Y 111 4 < mbl Y 111 2
    · have eF : mlwF (mbl Y) = wr (mbl Y) 1 (mbl Y 111 4) := by unfold mlwF; exact if_pos ⟨m5.trans h5, he⟩
      have hc : ¬ X 1 2 ≤ X 1 3 := by rw [ep, TB.2.1]; exact i_lle he
      have eR : rq X (b2 (X 1 2 ≤ X 1 3)) = bl X 1 (mbl Y 111 4) := by unfold rq; rw [if_pos (b2_f hc), ep]
      rw [eF, eR]
      exact ⟨TB.ywr (by decide), fun z => absurd z (wr_5 (by decide))⟩
    · have eF : mlwF (mbl Y) = mbl Y := by unfold mlwF; exact if_neg (fun z => he z.2)
      have hc : X 1 2 ≤ X 1 3 := by rw [ep, TB.2.1]; exact i_nlt he
      have eR : rq X (b2 (X 1 2 ≤ X 1 3)) = X := by unfold rq; exact if_neg (fun z => b2_z z hc)
      rw [eF, eR]
      refine ⟨TB, fun _ => ?_⟩
      have c := pL_ct L1 h5
      have e24' : mbl Y 111 24 = Y 111 24 := mbl_k (by decide)
      refine ⟨LD_fr (T.2 h5) rfl rfl rfl e24' (fun k _ => mbl_o (by omega)) (by omega), WD_fr (W1 h5) e24' (fun k _ => mbl_o (by omega)), ?_, ?_⟩
      · rw [e24']; exact (L1.2.2 h5).1
      · rw [e24']; have h9 := (L1.2.2 h5).1; have := c.1; unfold ct at this; omega
  · have g5 : ¬ mlwF (mbl Y) 111 5 = 0 := by
      unfold mlwF; rw [if_neg (fun z => h5 (m5.symm.trans z.1)), m5]; exact h5
    have eF : mlwF (mbl Y) = mbl Y := by unfold mlwF; exact if_neg (fun z => h5 (m5.symm.trans z.1))
    have eR : rq X (b2 (X 1 2 ≤ X 1 3)) = X := by
      unfold rq; split
      · exact bl_same (fun z => h5 (T.1.2.2.2.1.symm.trans z))
      · rfl
    rw [eR]
    refine ⟨?_, fun z => absurd z g5⟩
    rw [eF]; exact TB
