/-! ===== an operand; a product; a sum ===== -/
theorem SL.of {s s' t t' : St} (h : SL s t) (hS : SY s' t') (h5 : t' 111 5 = 0 → t 111 5 = 0) (c : ∀ o, o ≠ 1 → s' o = s o) (m : ∀ o, o ≠ 111 → t' o = t o) (h24 : t' 111 24 = t 111 24) (hL : pL t) : SL s' t' :=
  ⟨hS, fun z => LD_fr (h.2 (h5 z)) (by rw [c 59 (by decide)]) (c 61 (by decide)) (c 63 (by decide)) h24 (fun k _ => m _ (by omega)) (by have := (pL_ct hL (h5 z)).1; omega)⟩
theorem SL.fa {s' t' : St} (hS : SY s' t') (h5 : ¬ t' 111 5 = 0) : SL s' t' := ⟨hS, fun z => absurd z h5⟩
theorem SY.emt {s t : St} (h : SY s t) {kd num : Int32} : SY (Jvm.Pilot.CDonkeyLightLaw_law_r8509_9544ed.emt s 59 kd num) t := by
  have c : ∀ o, o ≠ 59 → o ≠ 61 → o ≠ 63 → Jvm.Pilot.CDonkeyLightLaw_law_r8509_9544ed.emt s 59 kd num o = s o := fun o a b d => emt_o a b d
  exact h.cl (by rw [c 1 (by decide) (by decide) (by decide)]) (by rw [c 1 (by decide) (by decide) (by decide)]) (by rw [c 1 (by decide) (by decide) (by decide)]) (by rw [c 1 (by decide) (by decide) (by decide)]) (c 3 (by decide) (by decide) (by decide))
theorem msk_8 {v : St} {x : Int32} : msk (up v 111 8 x) = up (msk v) 111 8 x := by
  unfold msk; rw [up_k (by decide), up_o (by decide), up_k (by decide), up_cmk (by decide)]
theorem at1_8 {v : St} {x : Int32} : at1 (up v 111 8 x) = up (at1 v) 111 8 x := by
  unfold at1; rw [up_k (by decide), up_cmk (by decide)]
theorem tkS_o {s : St} {c : Int32} {o : Nat} (h : o ≠ 1) : tkS s c o = s o := by
  unfold tkS; split
  · rw [mvt_o h, up_o h]
  · rfl
theorem nI_lt6 {m : Nat} (hm : m ≤ 6) : (nI m < 6) ↔ m < 6 := by rw [show (6 : Int32) = nI 6 from rfl, i_lt, i_nI (by omega), i_nI (by omega)]; omega
theorem one_e {rec rec' : St → St} {op : Int32} {m : Nat} (hop : op = nI m) (hm : m ≤ 6) (hr : m < 6 → RR (op + 1) rec rec') (hf : rcF rec' op) : RR op (lpF rec op) (mo1 rec') := by
  intro s t h hL h8
  by_cases h5 : t 111 5 = 0
  · have hs5 : s 1 5 = 0 := h.1.2.2.2.1.trans h5
    have eM : mbz t = mbl t := by unfold mbz; exact if_pos h5
    have z5 : mbz t 111 5 = 0 := by rw [mbz_5]; exact h5
    have hz0 := mbz_l hL.1
    have hLz : pL (mbz t) := okl.pL hz0 hL (by omega)
    have z8 : mbz t 111 8 = op := by rw [hz0.2.2.1, h8]
    have hz : SL s (mbz t) := h.of h.1.ybz (fun _ => h5) (fun _ _ => rfl) (fun o ho => mbz_o ho) (mbz_k (by decide)) hL
    obtain ⟨ep, p1, p2, p3⟩ := h.1.pl h5
    have eb : mbt (mbz t 111 2) (mbz t 112) (mbz t 111 4) = mbt (s 1 2) (s 3) (s 1 3) := by rw [eM]; exact h.1.by_ h5
    have emq : mqV (mbz t) = mqV t := (mq_e hz.1 z5).trans (mq_e h.1 h5).symm
    have n0 : ¬ b2 (s 1 5 = 0) = 0 := fun y => b2_z y hs5
    have e40 : mbt (mbz t 111 2) (mbz t 112) (mbz t 111 4) = 40 ↔ tkP s 40 := by
      rw [tk_iff h.1 (by decide), eM]; exact ⟨fun y => ⟨h5, y⟩, fun y => y.2⟩
    have m6e : op = 6 ↔ m = 6 := by rw [hop, show (6 : Int32) = nI 6 from rfl, znI_eq (by omega) (by omega)]
    have h6lt : (op < 6) ↔ m < 6 := by rw [hop]; exact nI_lt6 hm
    by_cases d : dnP s
    · have hq : rg (s 3) 600 (s 1 3) < 97 := by have := d.2.2; rw [i_le] at this; rw [i_lt]; have e1 : (57 : Int32).toInt = 57 := rfl; have e2 : (97 : Int32).toInt = 97 := rfl; omega
      obtain ⟨-, k2, k3⟩ := kw_no h.1 h5 hq
      have n40 : ¬ mbt (mbz t 111 2) (mbz t 112) (mbz t 111 4) = 40 := fun y => by
        have := (e40.mp y).2.2; have d2 := d.2.1; rw [this] at d2; exact absurd d2 (by decide)
      have eq : mqS (mbz t) = mbz t := by rw [mq_n (emq.trans k2), mbz_i]
      have e2 : mo1 rec' t = mnt (mnS (mbz t) 0 999) 0 (mnV (mbz t) 0 999) := by
        unfold mo1; rw [if_pos h5, if_pos k3, if_neg n40]; unfold moK; rw [if_pos (emq.trans k2), eq]
      rw [lpF_1 n0 (fun y => b2_z y d), e2]
      obtain ⟨S1, V1⟩ := hz.1.ynu (lo := 0) (hi := 999) (by decide) (by decide)
      have h1 := mnS_l (lo := 0) (hi := 999) hLz.1
      exact (hz.of S1 (fun y => mnS_5 hLz.1 y) (fun o ho => nuS_o ho) (fun o ho => mnS_o ho) (mnS_k (by decide) (by decide) (by decide)) hLz).nt (okl_lt hLz h1) (fun y => Or.inl ⟨rfl, rfl, (V1 y).1⟩)
    · by_cases q : tkP s 40
      · have hq : rg (s 3) 600 (s 1 3) < 97 := by rw [q.2.2]; decide
        obtain ⟨-, -, k3⟩ := kw_no h.1 h5 hq
        have y40 := e40.mpr q
        have eB : mo1 rec' t = if b2 (mop (mbz t) 111 5 = 0) = 0 then mop (mbz t) else moP rec' (mbz t) := by
          unfold mo1; rw [if_pos h5, if_pos k3, if_pos y40]
        rw [lpF_2 n0 (b2_f d) (fun y => b2_z y q), eB]
        have ST : SY (tkS s 40) (at1 (mbz t)) := by
          have := hz.1.yts (c := 40) (by decide)
          have e : mts (mbz t) 40 = at1 (mbz t) := by
            have hb : mbl (mbz t) = mbz t := by rw [eM, mbl_i]
            unfold mts; rw [if_pos z5, if_pos (show msP9 (mbz t) 40 by show mbt (mbl (mbz t) 111 2) (mbl (mbz t) 112) (mbl (mbz t) 111 4) = 40; rw [hb]; exact y40), hb]
          rw [e] at this; exact this
        have c5 : tkS s 40 1 5 = 0 := ST.2.2.2.1.trans (by unfold at1; rw [up_k (by decide)]; exact z5)
        by_cases hm6 : m < 6
        · have n8 : ¬ mbz t 111 8 = 6 := by rw [z8]; exact fun y => by have := m6e.mp y; omega
          have eP := SY.mopn (s := s) hz.1 n8 z5
          have hmm : ¬ b2 (mop (mbz t) 111 5 = 0) = 0 := fun y => b2_z y (by rw [eP, up_k (by decide)]; exact z5)
          have hn : ¬ op = 6 := fun y => by have := m6e.mp y; omega
          have h0 := mop_L hLz hmm
          have hc' : mbt (mop (mbz t) 111 2) (mop (mbz t) 112) (mop (mbz t) 111 4) = 40 := by rw [eP, up_k (by decide), up_k (by decide), up_o (by decide)]; exact y40
          have h1 := at1_l h0.1.1 hc' (by decide)
          have L1 := okl.pL h1 h0.1 (by omega)
          have o1 : at1 (mop (mbz t)) 111 8 = op + 1 := by rw [h1.2.2.1, h0.2, z8]
          have h2 := okl.tr h1 (hf hn _ L1 o1)
          have eC : lpB rec op (tkS s 40) = tkR (rec (tkS s 40)) 41 := by
            unfold lpB moS; rw [if_pos (h6lt.mpr hm6), if_neg (fun y => b2_z y c5)]
          have e2 : moP rec' (mbz t) = mcl8 (msg (rec' (at1 (mop (mbz t)))) 41) := rfl
          rw [eC, if_neg hmm, e2]
          have T1 : SL (tkS s 40) (at1 (mop (mbz t))) := by
            rw [eP, at1_8]
            refine SL.m8 (hz.of ST (fun _ => z5) (fun o ho => tkS_o ho) (fun o ho => by unfold at1; exact up_o ho) (by unfold at1; exact up_k (by decide)) hLz) ?_
            left; unfold at1; rw [up_k (by decide)]; have := (pL_ct hLz z5).1; omega
          have L2 := okl.pL h2 h0.1 (by omega)
          have T2 := (hr hm6 _ _ T1 L1 o1).tk L2 (c := 41) (by decide)
          have L3 := okl.pL (okl.tr h2 (msg_l (c := 41) h2.1 (by decide))) h0.1 (by omega)
          unfold mcl8
          refine T2.m8 ?_
          by_cases y : msg (rec' (at1 (mop (mbz t)))) 41 111 5 = 0
          · left; have := (pL_ct L3 y).1; omega
          · right; exact y
        · have e6 : op = 6 := m6e.mpr (by omega)
          have eP := mop_six (t := mbz t) (z8.trans e6) z5
          have f5 : ¬ mop (mbz t) 111 5 = 0 := by rw [eP]; exact wr_5 (by decide)
          rw [if_pos (b2_f f5), eP]
          have e4 : tkS s 40 1 4 = mbz t 111 4 := by
            rw [eM, ← ep]; unfold tkS; rw [if_pos q, mvt_k (by decide), up_rd]
          have eS : moS (tkS s 40) op = bl (tkS s 40) 3 (mbz t 111 4) := by unfold moS; rw [if_neg (fun y => hm6 (h6lt.mp y)), e4]
          have S9 : SY (bl (tkS s 40) 3 (mbz t 111 4)) (wr (mbz t) 3 (mbz t 111 4)) := by
            refine SY0.yw ⟨hLz.1, ?_, ?_, ?_, ?_⟩ (by decide)
            · rw [ST.2.1]; unfold at1; exact up_k (by decide)
            · rw [ST.2.2.1]; unfold at1; exact up_o (by decide)
            · rw [c5, z5]
            · rw [ST.2.2.2.2.1]; unfold at1; exact up_k (by decide)
          have g5 : ¬ wr (mbz t) 3 (mbz t 111 4) 111 5 = 0 := wr_5 (by decide)
          have eC : lpB rec op (tkS s 40) = bl (tkS s 40) 3 (mbz t 111 4) := by
            unfold lpB; rw [eS, if_pos (b2_f (fun y => g5 (S9.2.2.2.1.symm.trans y)))]
          rw [eC]; exact SL.fa S9 g5
      · have eT : tkS s 40 = s := by unfold tkS; exact if_neg q
        have n40 : ¬ mbt (mbz t 111 2) (mbz t 112) (mbz t 111 4) = 40 := fun y => q (e40.mp y)
        rw [lpF_3 n0 (b2_f d) (b2_f q), eT]
        have woo : ∀ o, o ≠ 1 → woS s 2 o = s o := fun o ho => woS_o ho
        have nd : ¬ (48 ≤ mbt (mbl t 111 2) (mbl t 112) (mbl t 111 4) ∧ mbt (mbl t 111 2) (mbl t 112) (mbl t 111 4) ≤ 57) := fun y => d ((dn_iff h.1 h5).mpr y)
        rcases kw h.1 h5 with ⟨k1, k2, k3⟩ | ⟨kl, ⟨k, hk, k1, k2, k3⟩ | hh⟩
        · have eq : mqS (mbz t) = mbz t := by rw [mq_n (emq.trans k2), mbz_i]
          have e2 : mo1 rec' t = mnt (mnS (mbz t) 0 999) 0 (mnV (mbz t) 0 999) := by
            unfold mo1; rw [if_pos h5, if_pos k3, if_neg n40]; unfold moK; rw [if_pos (emq.trans k2), eq]
          have e1 : lpN rec op s = emt (woS s 2) 59 (woI s 2) 0 := by unfold lpN; rw [if_pos (by rw [k1]; decide)]
          rw [e1, e2]
          have hbl : mbl (mbz t) = mbz t := by rw [eM, mbl_i]
          obtain ⟨f5, f6⟩ := mnS_no (u := mbz t) (lo := 0) (hi := 999) z5 (by rw [hbl, eM]; exact nd)
          have g5 : ¬ mnS (mbz t) 0 999 111 5 = 0 := by rw [f5]; decide
          have S1 := h.1.ywn h5 k1
          have w5 : wr (mbz t) 1 (mbz t 111 4) 111 5 = 1 ∧ wr (mbz t) 1 (mbz t 111 4) 111 6 = mbz t 111 4 := by
            unfold wr; rw [if_pos z5]; exact ⟨by rw [up_k (by decide), up_rd], up_rd⟩
          have S2 : SY (woS s 2) (mnS (mbz t) 0 999) := by
            refine ⟨mnS_p hLz.1, ?_, ?_, ?_, ?_, fun y => absurd y g5⟩
            · rw [mnS_k (by decide) (by decide) (by decide), S1.2.1, wr_k (by decide) (by decide)]
            · rw [mnS_o (by decide), S1.2.2.1, wr_o (by decide)]
            · rw [f5, S1.2.2.2.1]; exact w5.1
            · rw [f6, S1.2.2.2.2.1, hbl]; exact w5.2
          exact (SL.fa S2 g5).nt (fun y => absurd y g5) (fun y => absurd y g5)
        · have n1 : ¬ mqV (mbz t) = -1 := by rw [emq, k2]; exact nI_ne (by omega)
          have eq : mqS (mbz t) = msk (mbz t) := by unfold mqS; rw [if_neg n1, mbz_i]
          have e2 : mo1 rec' t = mnt (msk (mbz t)) 1 (nI k) := by
            unfold mo1; rw [if_pos h5, if_pos k3, if_neg n40]; unfold moK; rw [if_neg n1, eq, emq, k2]
          have e1 : lpN rec op s = emt (woS s 2) 59 (nI k) 0 := by
            unfold lpN; rw [k1, if_pos (by rw [show (9 : Int32) = nI 9 from rfl, i_lt, i_nI (by omega), i_nI (by omega)]; omega)]
          have S1 : SY (woS s 2) (msk (mbz t)) := by rw [woS_1 (by rw [k1]; exact nI_ne (by omega)), eM]; exact h.1.ywo h5
          have h1 : okl 1 1 (mbz t) (msk (mbz t)) := by have := mq_l1 hLz.1 n1; rw [eq] at this; exact this
          rw [e1, e2]
          exact (hz.of S1 (fun _ => z5) woo (fun o ho => msk_o ho) (msk_k (by decide)) hLz).nt (okl_lt hLz h1) (fun _ => Or.inr (Or.inl ⟨rfl, rfl, by rw [i_nI (by omega)]; omega, by rw [i_nI (by omega)]; omega⟩))
        · have hw9 : ∃ how, moH t = how ∧ ¬ how = -1 ∧ ¬ woI s 2 < 9 ∧ ¬ woI s 2 = -1 ∧ LX (woI s 2) 0 how 0 := by
            rcases hh with ⟨a, b⟩ | ⟨a, b⟩
            · exact ⟨7, b, by decide, by rw [a]; decide, by rw [a]; decide, by rw [a]; exact Or.inr (Or.inr (Or.inr (Or.inr (Or.inr (Or.inr (Or.inr (Or.inl ⟨rfl, rfl⟩)))))))⟩
            · exact ⟨8, b, by decide, by rw [a]; decide, by rw [a]; decide, by rw [a]; exact Or.inr (Or.inr (Or.inr (Or.inr (Or.inr (Or.inr (Or.inr (Or.inr ⟨rfl, rfl⟩)))))))⟩
          obtain ⟨how, b1, b2', b3, b4, b5'⟩ := hw9
          have eB : mo1 rec' t = if b2 (mop (mbz t) 111 5 = 0) = 0 then mop (mbz t) else moA rec' (mbz t) how := by
            unfold mo1; rw [if_pos h5, b1, if_neg b2']
          have S1 : SY (woS s 2) (msk (mbz t)) := by rw [woS_1 b4, eM]; exact h.1.ywo h5
          have c5 : woS s 2 1 5 = 0 := S1.2.2.2.1.trans (by unfold msk; rw [up_k (by decide)]; exact z5)
          have eC0 : lpN rec op s = if b2 ((moS (woS s 2) op) 1 5 = 0) = 0 then emt (moS (woS s 2) op) 59 (woI s 2) 0 else emt (tkR (rec (tkR (rec (tkR (moS (woS s 2) op) 91)) 44)) 93) 59 (woI s 2) 0 := by unfold lpN; rw [if_neg b3]
          rw [eC0, eB]
          by_cases hm6 : m < 6
          · have n8 : ¬ mbz t 111 8 = 6 := by rw [z8]; exact fun y => by have := m6e.mp y; omega
            have eP := SY.mopn (s := s) hz.1 n8 z5
            have hmm : ¬ b2 (mop (mbz t) 111 5 = 0) = 0 := fun y => b2_z y (by rw [eP, up_k (by decide)]; exact z5)
            have hn : ¬ op = 6 := fun y => by have := m6e.mp y; omega
            have h0 := mop_L hLz hmm
            have k1 := msk_l h0.1.1
            have h1 := okl.tr k1 (msg_l (c := 91) k1.1 (by decide))
            have L0 := okl.pL k1 h0.1 (by omega)
            have L1 := okl.pL h1 h0.1 (by omega)
            have o1 : msg (msk (mop (mbz t))) 91 111 8 = op + 1 := by rw [h1.2.2.1, h0.2, z8]
            have h2 := okl.tr h1 (hf hn _ L1 o1)
            have L2 := okl.pL h2 h0.1 (by omega)
            have h3 := okl.tr h2 (msg_l (c := 44) h2.1 (by decide))
            have L3 := okl.pL h3 h0.1 (by omega)
            have o3 : msg (rec' (msg (msk (mop (mbz t))) 91)) 44 111 8 = op + 1 := by rw [h3.2.2.1, h0.2, z8]
            have h4 := okl.tr h3 (hf hn _ L3 o3)
            have L4 := okl.pL h4 h0.1 (by omega)
            have h5' := okl.tr h4 (msg_l (c := 93) h4.1 (by decide))
            have L5 := okl.pL h5' h0.1 (by omega)
            have h6 := okl_nt (w := how) (v := 0) h0.1 h5' (by omega)
            have L6 := okl.pL h6 h0.1 (by omega)
            have eC : moS (woS s 2) op = woS s 2 := by unfold moS; exact if_pos (h6lt.mpr hm6)
            rw [eC, if_neg (fun y => b2_z y c5), if_neg hmm]
            have T0 : SL (woS s 2) (msk (mop (mbz t))) := by
              rw [eP, msk_8]
              refine SL.m8 (hz.of S1 (fun _ => z5) woo (fun o ho => msk_o ho) (msk_k (by decide)) hLz) ?_
              left; unfold msk; rw [up_k (by decide)]; have := (pL_ct hLz z5).1; omega
            have T1 := T0.tk L0 (c := 91) (by decide)
            have T2 := (hr hm6 _ _ T1 L1 o1).tk L2 (c := 44) (by decide)
            have T3 := (hr hm6 _ _ T2 L3 o3).tk L4 (c := 93) (by decide)
            have T4 := T3.nt (kd := woI s 2) (num := 0) (w := how) (v := 0) (okl_lt h0.1 (okl.wk h5' (Int.le_refl _) (by omega))) (fun _ => b5')
            show SL _ (mcl8 (mnt (msg (rec' (msg (rec' (msg (msk (mop (mbz t))) 91)) 44)) 93) how 0))
            unfold mcl8
            refine T4.m8 ?_
            by_cases y : mnt (msg (rec' (msg (rec' (msg (msk (mop (mbz t))) 91)) 44)) 93) how 0 111 5 = 0
            · left; have := (pL_ct L6 y).1; omega
            · right; exact y
          · have e6 : op = 6 := m6e.mpr (by omega)
            have eP := mop_six (t := mbz t) (z8.trans e6) z5
            have f5 : ¬ mop (mbz t) 111 5 = 0 := by rw [eP]; exact wr_5 (by decide)
            rw [if_pos (b2_f f5), eP]
            have eS : moS (woS s 2) op = bl (woS s 2) 3 (mbz t 111 4) := by unfold moS; rw [if_neg (fun y => hm6 (h6lt.mp y)), woS_4, eM, ep]
            have S9 : SY (bl (woS s 2) 3 (mbz t 111 4)) (wr (mbz t) 3 (mbz t 111 4)) := by
              refine SY0.yw ⟨hLz.1, ?_, ?_, ?_, ?_⟩ (by decide)
              · rw [S1.2.1]; unfold msk; exact up_k (by decide)
              · rw [S1.2.2.1]; unfold msk; exact up_o (by decide)
              · rw [c5, z5]
              · rw [S1.2.2.2.2.1]; unfold msk; exact up_k (by decide)
            have g5 : ¬ wr (mbz t) 3 (mbz t 111 4) 111 5 = 0 := wr_5 (by decide)
            rw [eS, if_pos (b2_f (fun y => g5 (S9.2.2.2.1.symm.trans y)))]
            exact SL.fa S9.emt g5
  · have e2 : mo1 rec' t = t := by unfold mo1; exact if_neg h5
    rw [lpF_0 (b2_f (fun y => h5 (h.1.2.2.2.1.symm.trans y))), e2]; exact h
