/-! ===== a log kept ===== -/
def LG1 (s s' : St) : Prop := (∀ q, q ≠ 1 → q ≠ 71 → q ≠ 73 → s' q = s q) ∧ KP s s'
theorem lnS_kp {s : St} : KP s (lnS s) := fun k a b c d => by
  have a1 : ln1 s 1 k = s 1 k := by
    unfold ln1; split
    · exact nuS_kp k a b c d
    · rw [bl_k c d]; exact nuS_kp k a b c d
  have a2 : ln2 (ln1 s) 1 k = s 1 k := by
    unfold ln2; split
    · exact a1
    · rw [bl_k c d]; exact a1
  have el : lnS s = up (tkR (ln3 (ln2 (ln1 s)) (nuV (nu1 s))) 59) 71 1 ((tkR (ln3 (ln2 (ln1 s)) (nuV (nu1 s))) 59) 71 1 + 1) := rfl
  have e3 : ln3 (ln2 (ln1 s)) (nuV (nu1 s)) 1 k = nuS (ln2 (ln1 s)) 0 1 1 k := by unfold ln3; rw [rs_o (o := 72) (by decide)]
  rw [el, up_o (by decide), tkR_kp k a b c d, e3, nuS_kp k a b c d]
  exact a2
theorem LG1_R : ∀ (m : Nat) (s : St), LG1 s (lgR m s) := by
  intro m
  induction m with
  | zero => intro s; exact ⟨fun _ _ _ _ => rfl, KP.rf⟩
  | succ m ih =>
    intro s
    rw [lgR]; split
    · exact ⟨fun _ _ _ _ => rfl, KP.rf⟩
    · have h := ih (lnS s)
      exact ⟨fun q a b c => (h.1 q a b c).trans (lnS_o a b c), KP.tr lnS_kp h.2⟩
theorem xg1_f {σ : St} {n : Int32} : (∀ q, q ≠ 1 → q ≠ 71 → q ≠ 73 → xg1 σ n q = σ q) ∧ xg1 σ n 1 1 = 0 := by
  have h := LG1_R 13 (lg0 (opn σ n))
  refine ⟨fun q a b c => ?_, ?_⟩
  · show lgR 13 (lg0 (opn σ n)) q = _
    rw [h.1 q a b c]; unfold lg0; rw [up_o b, fl_o c, opn_o a]
  · show lgR 13 (lg0 (opn σ n)) 1 1 = _
    rw [h.2 1 (by decide) (by decide) (by decide) (by decide)]; unfold lg0; rw [up_o (by decide), fl_o (by decide), opn_1]
theorem xg2_e {s : St} : (xg2 s 68 1 = s 71 1 ∧ ∀ k, k < 60 → xg2 s 70 k = s 73 k) ∧ ∀ q, q ≠ 68 → q ≠ 70 → xg2 s q = s q := by
  have e : xg2 s = up (cpr s 69 72 60) 68 1 ((cpr s 69 72 60) 71 1) := rfl
  rw [e]
  refine ⟨⟨?_, fun k hk => ?_⟩, fun q a b => ?_⟩
  · rw [up_rd, cpr_o (by decide)]
  · rw [up_o (by decide), cpr_in (q := 72) (S := 73) rfl rfl (by decide) hk (by decide)]
  · rw [up_o a, cpr_o b]
theorem xg_hi {σ : St} {n : Int32} {o : Nat} (h : 111 ≤ o) : xgS σ n o = σ o := by
  unfold xgS; split
  · exact xg1_f.1 o (by omega) (by omega) (by omega)
  · rw [xg2_e.2 o (by omega) (by omega)]; exact xg1_f.1 o (by omega) (by omega) (by omega)
def MHL (t u : St) : Prop := (∀ o, o ≠ 111 → (o < 499 ∨ 511 ≤ o) → u o = t o) ∧ ∀ k, k ≠ 4 → k ≠ 5 → k ≠ 6 → u 111 k = t 111 k
theorem lg2_k {t : St} {i k : Nat} (h4 : k ≠ 4) (h5 : k ≠ 5) (h6 : k ≠ 6) : lg2 t i 111 k = t 111 k := by
  induction i with
  | zero => exact mnS_k h4 h5 h6
  | succ i ih =>
    rw [lg2_s]; split
    · rw [wr_k h5 h6, ih]
    · exact ih
theorem lg5_k {t : St} {i k : Nat} (h4 : k ≠ 4) (h5 : k ≠ 5) (h6 : k ≠ 6) : lg5 t i 111 k = t 111 k := by
  unfold lg5; rw [msg_k h4 h5 h6, mnS_k h4 h5 h6]
  unfold lg3; split
  · rw [wr_k h5 h6, lg2_k h4 h5 h6]
  · exact lg2_k h4 h5 h6
theorem MHL_R : ∀ (N i : Nat) (t : St), pB t → i ≤ 12 → MHL t (mlgR N t i).1 ∧ (mlgR N t i).2 ≤ 12 := by
  intro N
  induction N with
  | zero => intro i t _ hi; exact ⟨⟨fun _ _ _ => rfl, fun _ _ _ _ => rfl⟩, hi⟩
  | succ N ih =>
    intro i t hp hi
    rw [mlgR]; split
    · obtain ⟨h, h2⟩ := ih (mlgN t i) (mbl (lg6 t i)) (lg6_s hp).1 (mlgN_le hp hi)
      refine ⟨⟨fun o a b => ?_, fun k a b c => ?_⟩, h2⟩
      · rw [h.1 o a b, mbl_o a]
        by_cases f5 : lg5 t i 111 5 = 0
        · have := lg5_i hp f5 hi
          exact lg6_o a (by omega)
        · unfold lg6; rw [if_neg f5]; exact lg5_o a
      · rw [h.2 k a b c, mbl_k a]
        unfold lg6; split
        · rw [up_o (by omega), up_o (by omega)]; exact lg5_k a b c
        · exact lg5_k a b c
    · exact ⟨⟨fun _ _ _ => rfl, fun _ _ _ _ => rfl⟩, hi⟩
theorem mlgF_f {τ : St} {n : Int32} (h0 : 0 ≤ n.toInt) (h1 : n.toInt ≤ 100) : (∀ o, o ≠ 111 → (o < 499 ∨ 511 ≤ o) → (mlgF τ n).1 o = τ o) ∧ (∀ k, 8 < k → (mlgF τ n).1 111 k = τ 111 k) ∧ (mlgF τ n).1 111 1 = 0 := by
  have g := (MHL_R 101 0 (mst (t0 τ) n) (mst_p h0 (by omega)) (by decide)).1
  refine ⟨fun o a b => ?_, fun k a => ?_, ?_⟩
  · show (mlgR 101 (mst (t0 τ) n) 0).1 o = _
    rw [g.1 o a b, mst_o a]; unfold t0; rw [up_o a]
  · show (mlgR 101 (mst (t0 τ) n) 0).1 111 k = _
    rw [g.2 k (by omega) (by omega) (by omega), mst_3 (by omega)]; unfold t0; rw [up_k (by omega)]
  · show (mlgR 101 (mst (t0 τ) n) 0).1 111 1 = _
    rw [g.2 1 (by decide) (by decide) (by decide)]; unfold mst; rw [mbl_k (by decide), up_k (by decide), up_k (by decide), up_k (by decide), up_k (by decide), up_k (by decide), up_k (by decide), up_rd]
theorem RA_log {σ : St} {n : Int32} (h : RA σ) (h0 : 0 ≤ n.toInt) (h1 : n.toInt ≤ 100) : RA (mlgS (xgS σ n) n) ∧ xgV σ n = mlgV (xgS σ n) n := by
  obtain ⟨hB, hX, hH, hQ⟩ := h
  have hb : σ 3 = (xgS σ n) 112 := by rw [xg_hi (by decide)]; exact hQ.1.2.2.2
  obtain ⟨S, D⟩ := lg_read (σ := σ) (τ := xgS σ n) (n := n) hb h0 h1
  obtain ⟨fo, ff, f1⟩ := mlgF_f (τ := xgS σ n) (n := n) h0 h1
  obtain ⟨xo, x11⟩ := xg1_f (σ := σ) (n := n)
  have hbb := hB.c.b3
  have gf : ∀ f, 8 < f → (mlgF (xgS σ n) n).1 111 f = σ 111 f := fun f a => by rw [ff f a, xg_hi (by decide)]
  by_cases f : (mlgF (xgS σ n) n).1 111 5 = 0
  · obtain ⟨D1, D2, D3, D4⟩ := D f
    have c5 : xg1 σ n 1 5 = 0 := S.2.2.2.1.trans f
    have c6 : xg1 σ n 1 6 = -1 := S.2.2.2.2.1.trans (S.2.2.2.2.2 f).2
    have eS : xgS σ n = xg2 (xg1 σ n) := by unfold xgS; exact if_neg (fun y => b2_z y c5)
    have eV : xgV σ n = xg2 (xg1 σ n) 68 1 := by unfold xgV; exact if_neg (fun y => b2_z y c5)
    have eM : mlgS (xgS σ n) n = lay (up (up (mlgF (xgS σ n) n).1 111 3 (-1)) 111 37 (nI (mlgF (xgS σ n) n).2)) 499 487 2 (ct (nI (mlgF (xgS σ n) n).2)) := by unfold mlgS; exact if_pos f
    have eW : mlgV (xgS σ n) n = nI (mlgF (xgS σ n) n).2 := by unfold mlgV; exact if_pos f
    rw [eM, eV, eW]
    obtain ⟨⟨k1, k2⟩, k3⟩ := xg2_e (s := xg1 σ n)
    have fo' : ∀ o, o ≠ 111 → (o < 499 ∨ 511 ≤ o) → (mlgF (xgS σ n) n).1 o = xg2 (xg1 σ n) o := fun o a b => by rw [fo o a b, eS]
    generalize (mlgF (xgS σ n) n).1 = t at *
    generalize (mlgF (xgS σ n) n).2 = i at *
    rw [ct_nI (by omega)]
    refine ⟨?_, by rw [k1]; exact D1⟩
    generalize hr : lay (up (up t 111 3 (-1)) 111 37 (nI i)) 499 487 2 i = r
    have ho : ∀ o, o ≠ 111 → (o < 487 ∨ 511 ≤ o) → r o = xg2 (xg1 σ n) o := fun o a b => by
      rw [← hr, lay_o (by omega), up_o a, up_o a, fo' o a (by omega)]
    have hf : ∀ f, f ≠ 3 → f ≠ 37 → r 111 f = t 111 f := fun f a b => by
      rw [← hr, lay_o (by omega), up_k b, up_k a]
    have h37 : r 111 37 = nI i := by rw [← hr, lay_o (by omega), up_rd]
    have h3 : r 111 3 = -1 := by rw [← hr, lay_o (by omega), up_k (by decide), up_rd]
    have hin : ∀ k j, k < i → j < 2 → r (487 + k) j = t (499 + k) j := fun k j hk hj => by
      rw [← hr, lay_in hk hj, up_o (by omega), up_o (by omega)]
    have rs : ∀ o, o ≠ 1 → o ≠ 68 → o ≠ 70 → o ≠ 71 → o ≠ 73 → o ≠ 111 → (o < 487 ∨ 511 ≤ o) → r o = σ o := fun o a b c d e f g => by
      rw [ho o f g, k3 o b c]; exact xo o a d e
    have rf : ∀ f, 8 < f → f ≠ 37 → r 111 f = σ 111 f := fun f a b => by rw [hf f (by omega) b]; exact gf f a
    have hT : ∀ k, tl r k = tl σ k := fun k => by unfold tl; rw [rs 115 (by decide) (by decide) (by decide) (by decide) (by decide) (by decide) (by decide)]
    obtain ⟨hC, hL, hO, hG, x1, x2, x3⟩ := hB
    obtain ⟨⟨w, hW⟩, i', hI⟩ := hH
    refine ⟨⟨?_, ?_, ?_, ?_, ?_, fun k hk => ?_, fun i hi => ?_⟩, ?_, ⟨⟨w, ?_⟩, i', ?_⟩, ?_⟩
    · exact RC_eq2 hC (fun o a b => rs o (by omega) (by omega) (by omega) (by omega) (by omega) (by omega) (by omega)) (rs 115 (by decide) (by decide) (by decide) (by decide) (by decide) (by decide) (by decide)) (rs 117 (by decide) (by decide) (by decide) (by decide) (by decide) (by decide) (by decide)) (rs 119 (by decide) (by decide) (by decide) (by decide) (by decide) (by decide) (by decide)) (fun o a => rs o (by omega) (by omega) (by omega) (by omega) (by omega) (by omega) (by omega))
    · exact LW_eq hL (rs 50 (by decide) (by decide) (by decide) (by decide) (by decide) (by decide) (by decide)) (rs 52 (by decide) (by decide) (by decide) (by decide) (by decide) (by decide) (by decide)) (rs 54 (by decide) (by decide) (by decide) (by decide) (by decide) (by decide) (by decide)) (rf 23 (by decide) (by decide)) (fun k hk => rs (167 + k) (by omega) (by omega) (by omega) (by omega) (by omega) (by omega) (by omega))
    · exact lawOK_eq (fun o a b => rs o (by omega) (by omega) (by omega) (by omega) (by omega) (by omega) (by omega)) (rf 23 (by decide) (by decide)) hO
    · have e68 : r 68 1 = nI i := by rw [ho 68 (by decide) (by decide), k1]; exact D1
      refine ⟨by rw [e68, h37], by rw [h37, ct_nI (by omega)]; exact D2, fun k hk => ?_, fun m hm => ?_⟩
      · rw [h37, ct_nI (by omega)] at hk
        obtain ⟨m, hm, a, b, c⟩ := D3 k hk
        rw [hin k 0 hk (by decide), hin k 1 hk (by decide)]
        exact ⟨m, hm, a, b, by rw [ho 70 (by decide) (by decide), k2 m hm]; exact c⟩
      · rw [ho 70 (by decide) (by decide), k2 m hm]
        rcases D4 m hm with y | ⟨k, hk, y⟩
        · exact Or.inl y
        · exact Or.inr ⟨k, by rw [h37, ct_nI (by omega)]; exact hk, by rw [hin k 0 hk (by decide)]; exact y⟩
    · rw [hT, hT]; exact x1
    · rw [hT] at hk; rw [rs 119 (by decide) (by decide) (by decide) (by decide) (by decide) (by decide) (by decide)]; exact x2 k hk
    · rw [hT] at hi; have := hC.b.2.2.2.1; rw [rs (161 + i) (by omega) (by omega) (by omega) (by omega) (by omega) (by omega) (by omega)]; exact x3 i hi
    · exact RX_eq hbb hT (fun k _ => by rw [rs 83 (by decide) (by decide) (by decide) (by decide) (by decide) (by decide) (by decide)]) (fun k _ => by rw [rs 122 (by decide) (by decide) (by decide) (by decide) (by decide) (by decide) (by decide)]) hX
    · exact RHw_fr hbb hT hW (rf 38 (by decide) (by decide)) (by rw [rs 102 (by decide) (by decide) (by decide) (by decide) (by decide) (by decide) (by decide)]) (rs 104 (by decide) (by decide) (by decide) (by decide) (by decide) (by decide) (by decide)) (fun k hk => rs (591 + k) (by omega) (by omega) (by omega) (by omega) (by omega) (by omega) (by omega))
    · exact RHi_fr hbb hT hI (rf 40 (by decide) (by decide)) (by rw [rs 102 (by decide) (by decide) (by decide) (by decide) (by decide) (by decide) (by decide)]) (rs 106 (by decide) (by decide) (by decide) (by decide) (by decide) (by decide) (by decide)) (rs 108 (by decide) (by decide) (by decide) (by decide) (by decide) (by decide) (by decide)) (fun m hm => rs (607 + m) (by omega) (by omega) (by omega) (by omega) (by omega) (by omega) (by omega))
    · have m1 : r 111 1 = 0 := by rw [hf 1 (by decide) (by decide)]; exact f1
      have e1 : r 1 = xg1 σ n 1 := by rw [ho 1 (by decide) (by decide), k3 1 (by decide) (by decide)]
      refine ⟨⟨?_, ?_, ?_, ?_⟩, ?_, ?_, ?_, ?_⟩
      · rw [m1, e1]; exact x11
      · rw [m1]; decide
      · rw [m1]; decide
      · rw [rs 3 (by decide) (by decide) (by decide) (by decide) (by decide) (by decide) (by decide), rs 112 (by decide) (by decide) (by decide) (by decide) (by decide) (by decide) (by decide)]; exact hQ.1.2.2.2
      · rw [e1, c6, h3]
      · rw [rs 0 (by decide) (by decide) (by decide) (by decide) (by decide) (by decide) (by decide), rf 39 (by decide) (by decide)]; exact hQ.2.2.1
      · rw [rs 0 (by decide) (by decide) (by decide) (by decide) (by decide) (by decide) (by decide), rs 113 (by decide) (by decide) (by decide) (by decide) (by decide) (by decide) (by decide)]; exact hQ.2.2.2.1
      · rw [rs 0 (by decide) (by decide) (by decide) (by decide) (by decide) (by decide) (by decide), rs 113 (by decide) (by decide) (by decide) (by decide) (by decide) (by decide) (by decide)]; exact hQ.2.2.2.2
  · have c5 : ¬ xg1 σ n 1 5 = 0 := fun y => f (S.2.2.2.1.symm.trans y)
    have eS : xgS σ n = xg1 σ n := by unfold xgS; exact if_pos (b2_f c5)
    have eV : xgV σ n = xg1 σ n 1 5 - 10 := by unfold xgV; exact if_pos (b2_f c5)
    have eM : mlgS (xgS σ n) n = up (mlgF (xgS σ n) n).1 111 3 ((mlgF (xgS σ n) n).1 111 6) := by unfold mlgS; exact if_neg f
    have eW : mlgV (xgS σ n) n = (mlgF (xgS σ n) n).1 111 5 - 10 := by unfold mlgV; exact if_neg f
    rw [eM, eV, eW, S.2.2.2.1]
    have c6 := S.2.2.2.2.1
    have fo' : ∀ o, o ≠ 111 → (o < 499 ∨ 511 ≤ o) → (mlgF (xgS σ n) n).1 o = xg1 σ n o := fun o a b => by rw [fo o a b, eS]
    generalize (mlgF (xgS σ n) n).1 = t at *
    have ro : ∀ o, o ≠ 111 → (o < 499 ∨ 511 ≤ o) → o ≠ 1 → o ≠ 71 → o ≠ 73 → up t 111 3 (t 111 6) o = σ o := fun o a b c d e => by rw [up_o a, fo' o a b]; exact xo o c d e
    have rf : ∀ f, 8 < f → up t 111 3 (t 111 6) 111 f = σ 111 f := fun f a => by rw [up_k (by omega)]; exact gf f a
    have r1 : up t 111 3 (t 111 6) 1 = xg1 σ n 1 := by rw [up_o (by decide), fo' 1 (by decide) (by decide)]
    have m1 : up t 111 3 (t 111 6) 111 1 = 0 := by rw [up_k (by decide)]; exact f1
    refine ⟨RA_fr ⟨hB, hX, hH, hQ⟩ (fun o ho => ro o (by omega) (by omega) (by omega) (by omega) (by omega)) (by rw [ro 68 (by decide) (by decide) (by decide) (by decide) (by decide)]) (by rw [ro 102 (by decide) (by decide) (by decide) (by decide) (by decide)]) (by rw [ro 102 (by decide) (by decide) (by decide) (by decide) (by decide)]) (fun f hf => rf f (by omega)) ⟨⟨?_, ?_, ?_, ?_⟩, ?_, ?_, ?_, ?_⟩, rfl⟩
    · rw [m1, r1]; exact x11
    · rw [m1]; decide
    · rw [m1]; decide
    · rw [ro 3 (by decide) (by decide) (by decide) (by decide) (by decide), ro 112 (by decide) (by decide) (by decide) (by decide) (by decide)]; exact hQ.1.2.2.2
    · rw [r1, c6, up_rd]
    · rw [ro 0 (by decide) (by decide) (by decide) (by decide) (by decide), rf 39 (by decide)]; exact hQ.2.2.1
    · rw [ro 0 (by decide) (by decide) (by decide) (by decide) (by decide), ro 113 (by decide) (by decide) (by decide) (by decide) (by decide)]; exact hQ.2.2.2.1
    · rw [ro 0 (by decide) (by decide) (by decide) (by decide) (by decide), ro 113 (by decide) (by decide) (by decide) (by decide) (by decide)]; exact hQ.2.2.2.2
