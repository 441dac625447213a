/-! ===== what reading a law leaves ===== -/
def LF (s s' : St) : Prop := (∀ q, q ≠ 1 → q ≠ 59 → q ≠ 61 → q ≠ 63 → s' q = s q) ∧ KP s s'
theorem LF.rf {s : St} : LF s s := ⟨fun _ _ _ _ _ => rfl, KP.rf⟩
theorem LF.tr {s u v : St} (h : LF s u) (h2 : LF u v) : LF s v := ⟨fun q a b c d => (h2.1 q a b c d).trans (h.1 q a b c d), KP.tr h.2 h2.2⟩
theorem LF_emt {s : St} {kd num : Int32} : LF s (emt s 59 kd num) := ⟨fun q _ b c d => emt_o b c d, fun k _ _ _ _ => by rw [emt_o (by decide) (by decide) (by decide)]⟩
theorem LF_wo {s : St} {w : Nat} : LF s (woS s w) := ⟨fun q a _ _ _ => woS_o a, woS_kp⟩
theorem LF_nu {s : St} {lo hi : Int32} : LF s (nuS s lo hi) := ⟨fun q a _ _ _ => nuS_o a, nuS_kp⟩
theorem LF_tk {s : St} {c : Int32} : LF s (tkR s c) := ⟨fun q a _ _ _ => tkR_o a, tkR_kp⟩
theorem LF_ts {s : St} {c : Int32} : LF s (tkS s c) := ⟨fun q a _ _ _ => tkS_o a, fun k a b c' d => by
  unfold tkS; split
  · rw [mvt_k a, up_k b]
  · rfl⟩
theorem LF_mo {s : St} {op : Int32} : LF s (moS s op) := by
  unfold moS; split
  · exact LF.rf
  · exact ⟨fun q a _ _ _ => bl_o a, bl_kp⟩
abbrev LFr (f : St → St) : Prop := ∀ s, LF s (f s)
theorem LF_lp {rec : St → St} (h : LFr rec) {op : Int32} : LFr (lpF rec op) := by
  intro s
  unfold lpF
  split
  · exact LF.rf
  split
  · exact LF_nu.tr LF_emt
  split
  · refine (LF_ts (c := 40)).tr ?_
    unfold lpB; split
    · exact LF_mo
    · exact (LF_mo.tr (h _)).tr LF_tk
  · refine (LF_ts (c := 40)).tr ?_
    unfold lpN; split
    · exact LF_wo.tr LF_emt
    split
    · exact (LF_wo.tr LF_mo).tr LF_emt
    · exact ((((((LF_wo.tr LF_mo).tr LF_tk).tr (h _)).tr LF_tk).tr (h _)).tr LF_tk).tr LF_emt
theorem LF_R {sg : St → Int32 × St} {f : St → St} (hs : ∀ s, LF s (sg s).2) (hf : LFr f) : ∀ n, LFr (opR sg f n) := by
  intro n
  induction n with
  | zero => intro s; exact LF.rf
  | succ n ih =>
    intro s
    rw [opR]; split
    · exact LF.rf
    split
    · exact hs s
    · exact (((hs s).tr (hf _)).tr LF_emt).tr (ih _)
theorem LF_s3 (s : St) : LF s (sg3 s).2 := by
  unfold sg3; split
  · exact LF_ts
  split
  · exact LF_ts.tr LF_ts
  split
  · exact (LF_ts.tr LF_ts).tr LF_ts
  · exact (LF_ts.tr LF_ts).tr LF_ts
theorem LF_s2 (s : St) : LF s (sg2 s).2 := by
  unfold sg2; split
  · exact LF_ts
  split
  · exact LF_ts.tr LF_ts
  · exact LF_ts.tr LF_ts
theorem LF_lq {rec : St → St} (h : LFr rec) {op : Int32} : LFr (lqF rec op) := fun s => (LF_lp h s).tr (LF_R LF_s3 (LF_lp h) 150 _)
theorem LF_ls {rec : St → St} (h : LFr rec) {op : Int32} : LFr (lsF rec op) := fun s => (LF_lq h s).tr (LF_R LF_s2 (LF_lq h) 150 _)
theorem LF_N : ∀ (n : Nat) (op : Int32), LFr (lsN n op) := by
  intro n
  induction n with
  | zero => intro op; exact LF_ls (fun s => LF.rf)
  | succ n ih => intro op; exact LF_ls (ih _)
theorem xl1_f {σ : St} {n : Int32} : (∀ q, q ≠ 1 → q ≠ 59 → q ≠ 61 → q ≠ 63 → xl1 σ n q = σ q) ∧ xl1 σ n 1 1 = 0 := by
  have h := LF_N 6 0 (up (opn σ n) 59 4 0)
  have hr : LF (up (opn σ n) 59 4 0) (xl1 σ n) := by
    have eX : xl1 σ n = rq (lsN 6 0 (up (opn σ n) 59 4 0)) (b2 ((lsN 6 0 (up (opn σ n) 59 4 0)) 1 2 ≤ (lsN 6 0 (up (opn σ n) 59 4 0)) 1 3)) := rfl
    rw [eX]
    generalize lsN 6 0 (up (opn σ n) 59 4 0) = X at *
    unfold rq; split
    · exact h.tr ⟨fun q a _ _ _ => bl_o a, bl_kp⟩
    · exact h
  refine ⟨fun q a b c d => ?_, ?_⟩
  · rw [hr.1 q a b c d, up_o b, opn_o a]
  · rw [hr.2 1 (by decide) (by decide) (by decide) (by decide), up_o (by decide), opn_1]
/-! the reference's -/
def MG (t u : St) : Prop := (∀ o, o ≠ 111 → (o < 327 ∨ 487 ≤ o) → u o = t o) ∧ ∀ k, k ≠ 4 → k ≠ 5 → k ≠ 6 → k ≠ 8 → k ≠ 24 → u 111 k = t 111 k
theorem MG.rf {t : St} : MG t t := ⟨fun _ _ _ => rfl, fun _ _ _ _ _ _ => rfl⟩
theorem MG.tr {t u v : St} (h : MG t u) (h2 : MG u v) : MG t v := ⟨fun o a b => (h2.1 o a b).trans (h.1 o a b), fun k a b c d e => (h2.2 k a b c d e).trans (h.2 k a b c d e)⟩
theorem MG_bz {t : St} : MG t (mbz t) := ⟨fun o a _ => mbz_o a, fun k a _ _ _ _ => mbz_k a⟩
theorem MG_sk {t : St} : MG t (msk t) := ⟨fun o a _ => msk_o a, fun k a _ _ _ _ => msk_k a⟩
theorem MG_sg {t : St} {c : Int32} : MG t (msg t c) := ⟨fun o a _ => msg_o a, fun k a b c _ _ => msg_k a b c⟩
theorem MG_nu {t : St} {lo hi : Int32} : MG t (mnS t lo hi) := ⟨fun o a _ => mnS_o a, fun k a b c _ _ => mnS_k a b c⟩
theorem MG_ts {t : St} {c : Int32} : MG t (mts t c) := ⟨fun o a _ => mts_oo a, fun k a _ _ _ _ => mts_kk a⟩
theorem MG_at {t : St} : MG t (at1 t) := ⟨fun o a _ => by unfold at1; exact up_o a, fun k a _ _ _ _ => by unfold at1; exact up_k a⟩
theorem MG_wr {t : St} {k p : Int32} : MG t (wr t k p) := ⟨fun o a _ => wr_o a, fun k _ b c _ _ => wr_k b c⟩
theorem MG_8 {t : St} {v : Int32} : MG t (up t 111 8 v) := ⟨fun o a _ => up_o a, fun k _ _ _ d _ => up_k d⟩
theorem MG_op {t : St} : MG t (mop t) := by
  unfold mop; split
  · exact MG_wr
  split
  · exact MG_8
  · exact MG.rf
theorem MG_nt {t : St} {w v : Int32} (hb : t 111 5 = 0 → 0 ≤ (t 111 24).toInt ∧ (t 111 24).toInt < 150) : MG t (mnt t w v) := by
  refine ⟨fun o a b => ?_, fun k _ _ _ _ e => mnt_k e⟩
  by_cases h5 : t 111 5 = 0
  · have := hb h5; exact mnt_o a (by omega)
  · unfold mnt; rw [if_neg h5]
theorem MG_mq {t : St} : MG t (mqS t) := by
  unfold mqS; split
  · exact MG_bz
  · exact MG_bz.tr MG_sk
abbrev GF (f : St → St) (op : Int32) : Prop := ∀ t : St, pL t → t 111 8 = op → MG t (f t)
theorem gf_1 {rec : St → St} {op : Int32} (hf : rcF rec op) (hd : ¬ op = 6 → GF rec (op + 1)) : GF (mo1 rec) op := by
  intro t hL h8
  have hz := mbz_l hL.1
  have hL2 := okl.pL hz hL (by omega)
  have ho2 : mbz t 111 8 = op := by rw [hz.2.2.1, h8]
  unfold mo1
  by_cases h5 : t 111 5 = 0
  · rw [if_pos h5]
    by_cases m : moH t = -1
    · rw [if_pos m]
      by_cases c : mbt (mbz t 111 2) (mbz t 112) (mbz t 111 4) = 40
      · rw [if_pos c]
        by_cases b : b2 (mop (mbz t) 111 5 = 0) = 0
        · rw [if_pos b]; exact MG_bz.tr MG_op
        · rw [if_neg b]
          obtain ⟨q5, q8, qe⟩ := mop_1 b
          have hn : ¬ op = 6 := by rw [← ho2]; exact q8
          have h0 := mop_L hL2 b
          have hc' : mbt (mop (mbz t) 111 2) (mop (mbz t) 112) (mop (mbz t) 111 4) = 40 := by rw [qe, up_k (by decide), up_k (by decide), up_o (by decide)]; exact c
          have h1 := at1_l h0.1.1 hc' (by decide)
          have L1 := okl.pL h1 h0.1 (by omega)
          have o1 : at1 (mop (mbz t)) 111 8 = op + 1 := by rw [h1.2.2.1, h0.2, ho2]
          exact ((((MG_bz.tr MG_op).tr MG_at).tr (hd hn _ L1 o1)).tr MG_sg).tr MG_8
      · rw [if_neg c]
        unfold moK
        by_cases q : mqV (mbz t) = -1
        · rw [if_pos q]
          have k1 := mq_l0 hL2.1
          have k2 := okl.tr k1 (mnS_l (lo := 0) (hi := 999) k1.1)
          exact ((MG_bz.tr MG_mq).tr MG_nu).tr (MG_nt (okl_lt hL2 (okl.wk k2 (Int.le_refl _) (by omega))))
        · rw [if_neg q]
          exact (MG_bz.tr MG_mq).tr (MG_nt (okl_lt hL2 (mq_l1 hL2.1 q)))
    · rw [if_neg m]
      by_cases b : b2 (mop (mbz t) 111 5 = 0) = 0
      · rw [if_pos b]; exact MG_bz.tr MG_op
      · rw [if_neg b]
        obtain ⟨q5, q8, qe⟩ := mop_1 b
        have hn : ¬ op = 6 := by rw [← ho2]; exact q8
        have h0 := mop_L hL2 b
        have k1 := msk_l h0.1.1
        have h1 := okl.tr k1 (msg_l (c := 91) k1.1 (by decide))
        have L1 := okl.pL h1 h0.1 (by omega)
        have o1 : msg (msk (mop (mbz t))) 91 111 8 = op + 1 := by rw [h1.2.2.1, h0.2, ho2]
        have h2 := okl.tr h1 (hf hn _ L1 o1)
        have h3 := okl.tr h2 (msg_l (c := 44) h2.1 (by decide))
        have L3 := okl.pL h3 h0.1 (by omega)
        have o3 : msg (rec (msg (msk (mop (mbz t))) 91)) 44 111 8 = op + 1 := by rw [h3.2.2.1, h0.2, ho2]
        have h4 := okl.tr h3 (hf hn _ L3 o3)
        have h5' := okl.tr h4 (msg_l (c := 93) h4.1 (by decide))
        exact ((((((((MG_bz.tr MG_op).tr MG_sk).tr MG_sg).tr (hd hn _ L1 o1)).tr MG_sg).tr (hd hn _ L3 o3)).tr MG_sg).tr (MG_nt (okl_lt h0.1 (okl.wk h5' (Int.le_refl _) (by omega))))).tr MG_8
  · rw [if_neg h5]; exact MG.rf
theorem gf_R {sg : St → Int32 × St} {f : St → St} {op : Int32} (hsg : sgO sg) (hsd : ∀ t, MG t (sg t).2) (hf : fO f op) (hd : GF f op) : ∀ (n : Nat) (s : St), pL s → s 111 8 = op → MG s (mpR sg f n s) := by
  intro n
  induction n with
  | zero => intro s _ _; exact MG.rf
  | succ n ih =>
    intro s hL h8
    rw [mpR]
    split
    · split
      · exact hsd s
      · rename_i hc
        have h := mpR_it hsg hf hL h8 hc
        have h1 := (hsg s hL.1).2.2 hc
        have L1 := okl.pL h1 hL (by omega)
        have o1 : (sg s).2 111 8 = op := by rw [h1.2.2.1, h8]
        have h2 := okl.tr h1 (hf _ L1 o1)
        exact (((hsd s).tr (hd _ L1 o1)).tr (MG_nt (okl_lt hL (okl.wk h2 (Int.le_refl _) (by omega))))).tr (ih _ (okl.pL h hL (by omega)) (by rw [h.2.2.1, h8]))
    · exact MG.rf
theorem MG_3 (t : St) : MG t (mg3 t).2 := by
  unfold mg3; split
  · exact MG_ts
  split
  · exact MG_ts.tr MG_ts
  split
  · exact (MG_ts.tr MG_ts).tr MG_ts
  · exact (MG_ts.tr MG_ts).tr MG_ts
theorem MG_2 (t : St) : MG t (mg2 t).2 := by
  unfold mg2; split
  · exact MG_ts
  split
  · exact MG_ts.tr MG_ts
  · exact MG_ts.tr MG_ts
theorem gf_pd {rec : St → St} {op : Int32} (hf : rcF rec op) (hd : ¬ op = 6 → GF rec (op + 1)) : GF (mpdF rec) op := by
  intro t hL h8
  have f1 : fO (mo1 rec) op := fun s a b => okl_1 a b hf
  have h1 := f1 t hL h8
  exact (gf_1 hf hd t hL h8).tr (gf_R mg3_O MG_3 f1 (gf_1 hf hd) 151 _ (okl.pL h1 hL (by omega)) (by rw [h1.2.2.1, h8]))
theorem gf_su {rec : St → St} {op : Int32} (hf : rcF rec op) (hd : ¬ op = 6 → GF rec (op + 1)) : GF (msuF rec) op := by
  intro t hL h8
  have f1 : fO (mpdF rec) op := okl_pd hf
  have h1 := f1 t hL h8
  exact (gf_pd hf hd t hL h8).tr (gf_R mg2_O MG_2 f1 (gf_pd hf hd) 151 _ (okl.pL h1 hL (by omega)) (by rw [h1.2.2.1, h8]))
theorem gf_N : ∀ (n : Nat) (op : Int32), op = nI (6 - n) → n ≤ 6 → GF (msN n) op := by
  intro n
  induction n with
  | zero => intro op hop _; exact gf_su (fun h => absurd hop h) (fun h => absurd hop h)
  | succ n ih =>
    intro op hop hn
    have e : op + 1 = nI (6 - n) := by rw [hop, nI_s]; congr 1; omega
    exact gf_su (fun _ t a b => msN_f n (op + 1) e (by omega) t a b) (fun _ => ih (op + 1) e (by omega))
theorem mlwG_f {τ : St} {n : Int32} (h0 : 0 ≤ n.toInt) (h1 : n.toInt ≤ 150) : (∀ o, o ≠ 111 → (o < 327 ∨ 487 ≤ o) → mlwG τ n o = τ o) ∧ (∀ k, 8 < k → k ≠ 24 → mlwG τ n 111 k = τ 111 k) ∧ mlwG τ n 111 3 = τ 111 3 ∧ mlwG τ n 111 1 = 0 := by
  have hL := mlw0_L (σ := τ) h0 h1
  have g := gf_N 6 0 rfl (by decide) _ hL mlw0_8
  have gb : MG (mlw0 τ n) (mlwG τ n) := by
    unfold mlwG mlwF
    have gb : MG (msN 6 (mlw0 τ n)) (mbl (msN 6 (mlw0 τ n))) := ⟨fun o a _ => mbl_o a, fun k a _ _ _ _ => mbl_k a⟩
    split
    · exact (g.tr gb).tr MG_wr
    · exact g.tr gb
  refine ⟨fun o a b => ?_, fun k a b => ?_, ?_, ?_⟩
  · rw [gb.1 o a b]; unfold mlw0; rw [up_o a, mst_o a]; unfold t0; rw [up_o a]
  · rw [gb.2 k (by omega) (by omega) (by omega) (by omega) b]; unfold mlw0; rw [up_k b, mst_3 (by omega)]; unfold t0; rw [up_k (by omega)]
  · rw [gb.2 3 (by decide) (by decide) (by decide) (by decide) (by decide)]; unfold mlw0; rw [up_k (by decide), mst_3 (by decide)]; unfold t0; rw [up_k (by decide)]
  · rw [gb.2 1 (by decide) (by decide) (by decide) (by decide) (by decide)]; unfold mlw0; rw [up_k (by decide)]; unfold mst; rw [mbl_k (by decide), up_k (by decide), up_k (by decide), up_k (by decide), up_k (by decide), up_k (by decide), up_k (by decide), up_rd]
