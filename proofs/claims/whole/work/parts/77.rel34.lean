/-! ===== what a law's text is read into stands well ===== -/
def dpd (t : St) (k : Nat) : Nat := it (fun j n => if t (327 + j) 0 < 2 then n + 1 else n - 1) 0 k
theorem dpd_s {t : St} {k : Nat} : dpd t (k + 1) = if t (327 + k) 0 < 2 then dpd t k + 1 else dpd t k - 1 := rfl
theorem dpd_le {t : St} {k : Nat} : dpd t k ≤ k := by
  induction k with
  | zero => exact Nat.le_refl _
  | succ k ih => rw [dpd_s]; split <;> omega
theorem dpd_eq {t u : St} (k : Nat) (h : ∀ j, j < k → u (327 + j) = t (327 + j)) : dpd u k = dpd t k := by
  unfold dpd; exact it_congr (fun j hj x => by rw [h j hj])
def WD (t : St) (D : Nat) : Prop := (∀ k, k < ct (t 111 24) → (t (327 + k) 0 < 2 → ¬ t (327 + k) 0 = 0 → 0 ≤ (t (327 + k) 1).toInt ∧ (t (327 + k) 1).toInt < 9) ∧ (¬ t (327 + k) 0 < 2 → 2 ≤ dpd t k)) ∧ dpd t (ct (t 111 24)) = D
theorem WD_fr {t u : St} {D : Nat} (h : WD t D) (h24 : u 111 24 = t 111 24) (hr : ∀ k, k < ct (t 111 24) → u (327 + k) = t (327 + k)) : WD u D := by
  unfold WD
  rw [h24]
  refine ⟨fun k hk => ?_, ?_⟩
  · rw [hr k hk, dpd_eq k (fun j hj => hr j (by omega))]; exact h.1 k hk
  · rw [dpd_eq _ hr]; exact h.2
theorem WD_nt {t : St} {D : Nat} {w v : Int32} (h : WD t D) (h5 : t 111 5 = 0) (hb : 0 ≤ (t 111 24).toInt ∧ (t 111 24).toInt < 150) (h1 : w < 2 → ¬ w = 0 → 0 ≤ v.toInt ∧ v.toInt < 9) (h2 : ¬ w < 2 → 2 ≤ D) : WD (mnt t w v) (if w < 2 then D + 1 else D - 1) := by
  have eR : mnt t w v = up (up (up t (327 + ct (t 111 24)) 0 w) (327 + ct (t 111 24)) 1 v) 111 24 (t 111 24 + 1) := by unfold mnt ct; exact if_pos h5
  have n24 : ct (t 111 24 + 1) = ct (t 111 24) + 1 := by
    have : (t 111 24 + 1).toInt = (t 111 24).toInt + 1 := i_add rfl rfl (by omega) (by omega)
    unfold ct; rw [this]; omega
  have hr : ∀ k, k < ct (t 111 24) → mnt t w v (327 + k) = t (327 + k) := fun k hk => by
    rw [eR, up_o (by unfold ct at *; omega), up_o (by omega), up_o (by omega)]
  have hN : mnt t w v (327 + ct (t 111 24)) 0 = w ∧ mnt t w v (327 + ct (t 111 24)) 1 = v := by
    have q : 327 + ct (t 111 24) ≠ 111 := by omega
    rw [eR, up_o q, up_rd, up_k (by decide), up_rd]; exact ⟨rfl, rfl⟩
  have h24 : mnt t w v 111 24 = t 111 24 + 1 := mnt_24 h5
  unfold WD
  rw [h24, n24]
  refine ⟨fun k hk => ?_, ?_⟩
  · rcases Nat.lt_or_ge k (ct (t 111 24)) with z | z
    · rw [hr k z, dpd_eq k (fun j hj => hr j (by omega))]; exact h.1 k z
    · have e : k = ct (t 111 24) := by omega
      subst e
      rw [hN.1, hN.2, dpd_eq _ hr, h.2]; exact ⟨h1, h2⟩
  · rw [dpd_s, hN.1, dpd_eq _ hr, h.2]
/-- an operand's reader: one more on the stack -/
def OD (f : St → St) (op : Int32) : Prop := ∀ (t : St) (D : Nat), pL t → t 111 8 = op → (t 111 5 = 0 → WD t D) → f t 111 5 = 0 → WD (f t) (D + 1)
theorem mqV_r {t : St} (h : ¬ mqV t = -1) : 0 ≤ (mqV t).toInt ∧ (mqV t).toInt < 9 := by
  have g : mqV t = -1 ∨ (0 ≤ (mqV t).toInt ∧ (mqV t).toInt < 9) := by
    unfold mqV
    repeat' split
    all_goals first | exact Or.inl rfl | (right; decide)
  exact g.resolve_left h
theorem okl_5 {a g : Int} {t u : St} (h : okl a g t u) (z : u 111 5 = 0) : t 111 5 = 0 := (h.2.2.2 z).1
theorem od_1 {rec : St → St} {op : Int32} (hf : rcF rec op) (hd : ¬ op = 6 → OD rec (op + 1)) : OD (mo1 rec) op := by
  intro t D hL h8 hW
  have hz := mbz_l hL.1
  have hL2 := okl.pL hz hL (by omega)
  have ho2 : mbz t 111 8 = op := by rw [hz.2.2.1, h8]
  have W0 : mbz t 111 5 = 0 → WD (mbz t) D := fun z => WD_fr (hW (by rw [mbz_5] at z; exact z)) (mbz_k (by decide)) (fun k _ => mbz_o (by omega))
  unfold mo1
  by_cases h5 : t 111 5 = 0
  · rw [if_pos h5]
    by_cases m : moH t = -1
    · rw [if_pos m]
      by_cases c : mbt (mbz t 111 2) (mbz t 112) (mbz t 111 4) = 40
      · rw [if_pos c]
        by_cases b : b2 (mop (mbz t) 111 5 = 0) = 0
        · rw [if_pos b]; exact fun z => absurd z (b2_z b)
        · rw [if_neg b]
          obtain ⟨q5, q8, qe⟩ := mop_1 b
          have hn : ¬ op = 6 := by rw [← ho2]; exact q8
          have h0 := mop_L hL2 b
          have hc' : mbt (mop (mbz t) 111 2) (mop (mbz t) 112) (mop (mbz t) 111 4) = 40 := by rw [qe, up_k (by decide), up_k (by decide), up_o (by decide)]; exact c
          have h1 := at1_l h0.1.1 hc' (by decide)
          have L1 := okl.pL h1 h0.1 (by omega)
          have o1 : at1 (mop (mbz t)) 111 8 = op + 1 := by rw [h1.2.2.1, h0.2, ho2]
          have h2 := okl.tr h1 (hf hn _ L1 o1)
          show mcl8 (msg (rec (at1 (mop (mbz t)))) 41) 111 5 = 0 → WD (mcl8 (msg (rec (at1 (mop (mbz t)))) 41)) (D + 1)
          intro z
          have z1 : msg (rec (at1 (mop (mbz t)))) 41 111 5 = 0 := by unfold mcl8 at z; rw [up_k (by decide)] at z; exact z
          have z2 := msg_5 h2.1 (by decide) z1
          have W1 : WD (at1 (mop (mbz t))) D := WD_fr (W0 q5) (by unfold at1; rw [up_k (by decide), qe, up_k (by decide)]) (fun k _ => by unfold at1; rw [up_o (by omega), qe, up_o (by omega)])
          have W2 := hd hn _ D L1 o1 (fun _ => W1) z2
          exact WD_fr W2 (by unfold mcl8; rw [up_k (by decide), msg_k (by decide) (by decide) (by decide)]) (fun k _ => by unfold mcl8; rw [up_o (by omega), msg_o (by omega)])
      · rw [if_neg c]
        unfold moK
        by_cases q : mqV (mbz t) = -1
        · rw [if_pos q]
          intro z
          have k1 := mq_l0 hL2.1
          have k2 := okl.tr k1 (mnS_l (lo := 0) (hi := 999) k1.1)
          have z1 : mnS (mqS (mbz t)) 0 999 111 5 = 0 := by rw [mnt_k (by decide)] at z; exact z
          have z2 := okl_5 k2 z1
          have W1 : WD (mnS (mqS (mbz t)) 0 999) D := WD_fr (W0 z2) (by rw [mnS_k (by decide) (by decide) (by decide), mq_n q]; exact mbz_k (by decide)) (fun k _ => by rw [mnS_o (by omega), mq_n q]; exact mbz_o (by omega))
          have := WD_nt (w := 0) (v := mnV (mqS (mbz t)) 0 999) W1 z1 (okl_lt hL2 (okl.wk k2 (Int.le_refl _) (by omega)) z1) (fun _ y => absurd rfl y) (fun y => absurd (by decide) y)
          rw [if_pos (by decide)] at this; exact this
        · rw [if_neg q]
          intro z
          have k1 := mq_l1 hL2.1 q
          have z1 : mqS (mbz t) 111 5 = 0 := by rw [mnt_k (by decide)] at z; exact z
          have z2 := okl_5 k1 z1
          have eq : mqS (mbz t) = msk (mbz (mbz t)) := by unfold mqS; exact if_neg q
          have W1 : WD (mqS (mbz t)) D := WD_fr (W0 z2) (by rw [eq, msk_k (by decide)]; exact mbz_k (by decide)) (fun k _ => by rw [eq, msk_o (by omega)]; exact mbz_o (by omega))
          have := WD_nt (w := 1) (v := mqV (mbz t)) W1 z1 (okl_lt hL2 k1 z1) (fun _ _ => mqV_r q) (fun y => absurd (by decide) y)
          rw [if_pos (by decide)] at this; exact this
    · rw [if_neg m]
      by_cases b : b2 (mop (mbz t) 111 5 = 0) = 0
      · rw [if_pos b]; exact fun z => absurd z (b2_z b)
      · rw [if_neg b]
        obtain ⟨q5, q8, qe⟩ := mop_1 b
        have hn : ¬ op = 6 := by rw [← ho2]; exact q8
        have h0 := mop_L hL2 b
        have k1 := msk_l h0.1.1
        have h1 := okl.tr k1 (msg_l (c := 91) k1.1 (by decide))
        have L1 := okl.pL h1 h0.1 (by omega)
        have o1 : msg (msk (mop (mbz t))) 91 111 8 = op + 1 := by rw [h1.2.2.1, h0.2, ho2]
        have h2 := okl.tr h1 (hf hn _ L1 o1)
        have h3 := okl.tr h2 (msg_l (c := 44) h2.1 (by decide))
        have L3 := okl.pL h3 h0.1 (by omega)
        have o3 : msg (rec (msg (msk (mop (mbz t))) 91)) 44 111 8 = op + 1 := by rw [h3.2.2.1, h0.2, ho2]
        have h4 := okl.tr h3 (hf hn _ L3 o3)
        have h5' := okl.tr h4 (msg_l (c := 93) h4.1 (by decide))
        show mcl8 (mnt (msg (rec (msg (rec (msg (msk (mop (mbz t))) 91)) 44)) 93) (moH t) 0) 111 5 = 0 → WD (mcl8 (mnt (msg (rec (msg (rec (msg (msk (mop (mbz t))) 91)) 44)) 93) (moH t) 0)) (D + 1)
        intro z
        have z1 : msg (rec (msg (rec (msg (msk (mop (mbz t))) 91)) 44)) 93 111 5 = 0 := by unfold mcl8 at z; rw [up_k (by decide), mnt_k (by decide)] at z; exact z
        have z2 := msg_5 h4.1 (by decide) z1
        have z3 := okl_5 (hf hn _ L3 o3) z2
        have z4 := msg_5 h2.1 (by decide) z3
        have W1 : WD (msg (msk (mop (mbz t))) 91) D := WD_fr (W0 q5) (by rw [msg_k (by decide) (by decide) (by decide), msk_k (by decide), qe, up_k (by decide)]) (fun k _ => by rw [msg_o (by omega), msk_o (by omega), qe, up_o (by omega)])
        have W2 := hd hn _ D L1 o1 (fun _ => W1) z4
        have W3 : WD (msg (rec (msg (msk (mop (mbz t))) 91)) 44) (D + 1) := WD_fr W2 (msg_k (by decide) (by decide) (by decide)) (fun k _ => msg_o (by omega))
        have W4 := hd hn _ (D + 1) L3 o3 (fun _ => W3) z2
        have W5 : WD (msg (rec (msg (rec (msg (msk (mop (mbz t))) 91)) 44)) 93) (D + 1 + 1) := WD_fr W4 (msg_k (by decide) (by decide) (by decide)) (fun k _ => msg_o (by omega))
        have hh : ¬ moH t < 2 := by
          have g : moH t = -1 ∨ moH t = 8 ∨ moH t = 7 := by
            unfold moH
            repeat' split
            all_goals simp
          rcases g with y | y | y
          · exact absurd y m
          · rw [y]; decide
          · rw [y]; decide
        have := WD_nt (w := moH t) (v := 0) W5 z1 (okl_lt h0.1 (okl.wk h5' (Int.le_refl _) (by omega)) z1) (fun y => absurd y hh) (fun _ => by omega)
        rw [if_neg hh] at this
        exact WD_fr this (by unfold mcl8; rw [up_k (by decide)]) (fun k _ => by unfold mcl8; rw [up_o (by omega)])
  · rw [if_neg h5]; exact fun z => absurd z h5
/-- a sign's reader leaves the draft; its kinds join two -/
def SD (sg : St → Int32 × St) : Prop := ∀ t : St, (∀ o, o ≠ 111 → (sg t).2 o = t o) ∧ (sg t).2 111 24 = t 111 24 ∧ (¬ (sg t).1 = -1 → ¬ (sg t).1 < 2)
theorem mts_oo {t : St} {c : Int32} {o : Nat} (h : o ≠ 111) : mts t c o = t o := by
  unfold mts; split
  · split
    · unfold at1; rw [up_o h, mbl_o h]
    · exact mbl_o h
  · rfl
theorem mts_kk {t : St} {c : Int32} {k : Nat} (h : k ≠ 4) : mts t c 111 k = t 111 k := by
  unfold mts; split
  · split
    · unfold at1; rw [up_k h, mbl_k h]
    · exact mbl_k h
  · rfl
theorem sd_3 : SD mg3 := by
  intro t
  unfold mg3
  split
  · exact ⟨fun o h => mts_oo h, mts_kk (by decide), fun _ => (by decide : ¬ (4 : Int32) < 2)⟩
  split
  · exact ⟨fun o h => (mts_oo h).trans (mts_oo h), (mts_kk (by decide)).trans (mts_kk (by decide)), fun _ => (by decide : ¬ (5 : Int32) < 2)⟩
  split
  · exact ⟨fun o h => (mts_oo h).trans ((mts_oo h).trans (mts_oo h)), (mts_kk (by decide)).trans ((mts_kk (by decide)).trans (mts_kk (by decide))), fun _ => (by decide : ¬ (6 : Int32) < 2)⟩
  · exact ⟨fun o h => (mts_oo h).trans ((mts_oo h).trans (mts_oo h)), (mts_kk (by decide)).trans ((mts_kk (by decide)).trans (mts_kk (by decide))), fun h => absurd rfl h⟩
theorem sd_2 : SD mg2 := by
  intro t
  unfold mg2
  split
  · exact ⟨fun o h => mts_oo h, mts_kk (by decide), fun _ => (by decide : ¬ (2 : Int32) < 2)⟩
  split
  · exact ⟨fun o h => (mts_oo h).trans (mts_oo h), (mts_kk (by decide)).trans (mts_kk (by decide)), fun _ => (by decide : ¬ (3 : Int32) < 2)⟩
  · exact ⟨fun o h => (mts_oo h).trans (mts_oo h), (mts_kk (by decide)).trans (mts_kk (by decide)), fun h => absurd rfl h⟩
theorem od_R {sg : St → Int32 × St} {f : St → St} {op : Int32} (hsg : sgO sg) (hsd : SD sg) (hf : fO f op) (hd : OD f op) : ∀ (n : Nat) (s : St) (D : Nat), pL s → s 111 8 = op → (s 111 5 = 0 → WD s (D + 1)) → mpR sg f n s 111 5 = 0 → WD (mpR sg f n s) (D + 1) := by
  intro n
  induction n with
  | zero => intro s D _ _ hW z; exact hW z
  | succ n ih =>
    intro s D hL h8 hW z
    rw [mpR] at z ⊢
    by_cases h5 : s 111 5 = 0
    · rw [if_pos h5] at z ⊢
      obtain ⟨d1, d2, d3⟩ := hsd s
      by_cases hc : (sg s).1 = -1
      · rw [if_pos hc] at z ⊢
        exact WD_fr (hW h5) d2 (fun k _ => d1 _ (by omega))
      · rw [if_neg hc] at z ⊢
        have h := mpR_it hsg hf hL h8 hc
        have h1 := (hsg s hL.1).2.2 hc
        have L1 := okl.pL h1 hL (by omega)
        have o1 : (sg s).2 111 8 = op := by rw [h1.2.2.1, h8]
        have h2 := okl.tr h1 (hf _ L1 o1)
        refine ih _ D (okl.pL h hL (by omega)) (by rw [h.2.2.1, h8]) (fun y => ?_) z
        have y1 : f (sg s).2 111 5 = 0 := by rw [mnt_k (by decide)] at y; exact y
        have W1 : WD (sg s).2 (D + 1) := WD_fr (hW h5) d2 (fun k _ => d1 _ (by omega))
        have W2 := hd _ (D + 1) L1 o1 (fun _ => W1) y1
        have hh := d3 hc
        have := WD_nt (w := (sg s).1) (v := 0) W2 y1 (okl_lt hL (okl.wk h2 (Int.le_refl _) (by omega)) y1) (fun x => absurd x hh) (fun _ => by omega)
        rw [if_neg hh] at this; exact this
    · rw [if_neg h5] at z; exact absurd z h5
theorem od_pd {rec : St → St} {op : Int32} (hf : rcF rec op) (hd : ¬ op = 6 → OD rec (op + 1)) : OD (mpdF rec) op := by
  intro t D hL h8 hW z
  have f1 : fO (mo1 rec) op := fun s a b => okl_1 a b hf
  have h1 := f1 t hL h8
  exact od_R mg3_O sd_3 f1 (od_1 hf hd) 151 _ D (okl.pL h1 hL (by omega)) (by rw [h1.2.2.1, h8]) (fun y => od_1 hf hd t D hL h8 hW y) z
theorem od_su {rec : St → St} {op : Int32} (hf : rcF rec op) (hd : ¬ op = 6 → OD rec (op + 1)) : OD (msuF rec) op := by
  intro t D hL h8 hW z
  have f1 : fO (mpdF rec) op := okl_pd hf
  have h1 := f1 t hL h8
  exact od_R mg2_O sd_2 f1 (od_pd hf hd) 151 _ D (okl.pL h1 hL (by omega)) (by rw [h1.2.2.1, h8]) (fun y => od_pd hf hd t D hL h8 hW y) z
theorem od_N : ∀ (n : Nat) (op : Int32), op = nI (6 - n) → n ≤ 6 → OD (msN n) op := by
  intro n
  induction n with
  | zero => intro op hop _; exact od_su (fun h => absurd hop h) (fun h => absurd hop h)
  | succ n ih =>
    intro op hop hn
    have e : op + 1 = nI (6 - n) := by rw [hop, nI_s]; congr 1; omega
    exact od_su (fun _ t a b => msN_f n (op + 1) e (by omega) t a b) (fun _ => ih (op + 1) e (by omega))
