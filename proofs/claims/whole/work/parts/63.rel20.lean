/-! ===== winter ===== -/
theorem drw {x : Int32} : (x.toUInt32 >>> ((16 : Int32).toUInt32 &&& Int32.toUInt32 31)).toInt32 &&& 32767 = (x >>> (16 &&& 31 : Int32)) &&& 32767 := by
  apply gB_ext
  intro b hb
  rw [gB_and, gB_and]
  by_cases q : b < 15
  · have e : gB (x.toUInt32 >>> ((16 : Int32).toUInt32 &&& Int32.toUInt32 31)).toInt32 b = gB (x >>> (16 &&& 31 : Int32)) b := by
      have e1 : (x.toUInt32 >>> ((16 : Int32).toUInt32 &&& Int32.toUInt32 31)).toInt32.toBitVec = x.toBitVec >>> (16 : Nat) := rfl
      have e2 : (x >>> (16 &&& 31 : Int32)).toBitVec = x.toBitVec.sshiftRight' 16#32 := rfl
      show (x.toUInt32 >>> ((16 : Int32).toUInt32 &&& Int32.toUInt32 31)).toInt32.toBitVec.getLsbD b = (x >>> (16 &&& 31 : Int32)).toBitVec.getLsbD b
      rw [e1, e2, BitVec.getLsbD_ushiftRight, BitVec.getLsbD_sshiftRight', show (16#32 : BitVec 32).toNat = 16 from rfl, if_pos (show 16 + b < 32 by omega), decide_eq_false (show ¬ 32 ≤ b by omega)]
      rfl
    rw [e]
  · have e : ∀ c : Fin 32, 15 ≤ c.val → gB (32767 : Int32) c.val = false := by decide +kernel
    have e2 : gB (32767 : Int32) b = false := e ⟨b, hb⟩ (show 15 ≤ b by omega)
    rw [e2, Bool.and_false, Bool.and_false]
theorem dr_e {s : St} {x b : Int32} (hx : s 98 1 = x) (hb : ¬ b = 0) : drV s b = mdv x b := by
  unfold drV drS
  rw [up_rd, drw, hx]
  unfold lft
  rw [if_neg hb]
  rfl
/-- the class's state but for what a winter writes -/
def WF (σ s : St) : Prop := ∀ o, o < 111 → o ≠ 56 → o ≠ 58 → o ≠ 86 → o ≠ 88 → o ≠ 90 → o ≠ 92 → o ≠ 98 → o ≠ 101 → s o = σ o
def KO (σ : St) (k : Nat) : Int32 := σ 122 (21 + k)
def WI (σ s u : St) : Prop := WF σ s ∧ UI σ u ∧ s 98 1 = u 111 48 ∧ s 98 2 = u 111 49 ∧ RK2 (KO σ) (tl σ 2) (tl σ 3) (tl σ 0) (s 101) (u 123)
/-- cargo is at most 40 -/
abbrev C40 (σ : St) : Prop := ∀ i, i < tl σ 3 → (σ (161 + i) 0).toInt ≤ 40
def fst (s u : St) : Nat → Int32 := fun k => if 2 ≤ k ∧ k < 6 then u 123 (21 + k) else s 101 k
theorem fst_rn {s u : St} {K : Nat → Int32} {nd ns nc : Nat} (h : RK2 K nd ns nc (s 101) (u 123)) : RN nd ns nc (fst s u) (u 123) ∧ u 123 29 = -1 := by
  obtain ⟨r0, r1, r2, r3, r4, r5, r6, r7, rd, rt, rc, r29⟩ := h
  have e : ∀ k, (k < 2 ∨ 6 ≤ k) → fst s u k = s 101 k := fun k hk => if_neg (by omega)
  have e2 : ∀ k, 2 ≤ k → k < 6 → fst s u k = u 123 (21 + k) := fun k h1 h2 => if_pos ⟨h1, h2⟩
  refine ⟨⟨?_, ?_, e2 2 (by decide) (by decide), e2 3 (by decide) (by decide), e2 4 (by decide) (by decide), e2 5 (by decide) (by decide), ?_, ?_, fun d hd => ?_, fun x hx => ?_, fun x hx => ?_⟩, r29⟩
  · rw [e 0 (by decide)]; exact r0
  · rw [e 1 (by decide)]; exact r1
  · rw [e 6 (by decide)]; exact r6
  · rw [e 7 (by decide)]; exact r7
  · rw [e (8 + d) (by omega)]; exact rd d hd
  · rw [e (11 + x) (by omega)]; exact rt x hx
  · rw [e (17 + x) (by omega)]; exact rc x hx
theorem win_strike {σ s u : St} (h : RC σ) (hL : LW σ σ) (hO : lawOK σ) (hW : WI σ s u) {i : Nat} (hi : i < tl σ 3) :
    (psk (pbS s 99) (nI i)).1 = trF u 123 i 111 42 ∧ (trF u 123 i 111 42 = -1 ∨ ∃ c, c < tl σ 0 ∧ trF u 123 i 111 42 = nI c) ∧
    alv (psk (pbS s 99) (nI i)).2 (nI i) (psk (pbS s 99) (nI i)).1 = mal (trF u 123 i) i ∧ pcg (psk (pbS s 99) (nI i)).2 (nI i) (psk (pbS s 99) (nI i)).1 = mpa (trF u 123 i) i := by
  obtain ⟨hF, hU, -, -, hR⟩ := hW
  have b3 : tl σ 3 ≤ 6 := h.b.2.2.2.1
  have hP : ∀ o, o < 56 → tau (fst s u) s o = σ o := fun o ho => by
    rw [tau_o (by omega)]; exact hF o (by omega) (by omega) (by omega) (by omega) (by omega) (by omega) (by omega) (by omega) (by omega)
  obtain ⟨k1, k2, k3, k4⟩ := mix_ok h hL hO hP hU
  obtain ⟨f1, f2⟩ := fst_rn hR
  have hRN : RNs (mix (tau (fst s u) s) u) := by
    refine ⟨?_, ?_⟩
    · rw [k4, k4, k4, mix_c (by decide), mix_122, tau_r]; exact f1
    · rw [mix_122]; exact f2
  have hPS : PS (mix (tau (fst s u) s) u) (pbS (tau (fst s u) s) 81) := PS_begin2 k1 hRN (fun o ho => (mix_c ho).symm)
  have hA : fA (fst s u) 99 s := fun k hk => by
    show s 101 k = fst s u k
    exact (if_neg (by omega)).symm
  have h3 : ct (cM s 2) ≤ 3 := by
    have e : cM s 2 = cM σ 2 := by unfold cM; rw [hF 6 (by decide) (by decide) (by decide) (by decide) (by decide) (by decide) (by decide) (by decide) (by decide)]
    rw [e, h.m2]; exact h.b.2.2.1
  have hi2 : i < tl (mix (tau (fst s u) s) u) 3 := by rw [k4]; exact hi
  obtain ⟨g1, g2, -⟩ := psk_e k1 k2 k3 hi2 hPS mix_sx (fun k hk => pbS_90 (by omega))
  have hc := trF_c (mix_sx (P := tau (fst s u) s) (u := u)) (i := i)
  obtain ⟨a1, a2⟩ := al_e k1 g2 ((mix_sx (P := tau (fst s u) s) (u := u)).tF (o := 122) (s := i)) hi2 g1 hc
  have eS : trF (sub u) 122 i = sub (trF u 123 i) := (trF_sub (hU.uB h hO) (by omega)).symm
  have e42 : sub (trF u 123 i) 111 42 = trF u 123 i 111 42 := by rw [sub_o (by decide)]
  rw [eS] at g1 hc a1 a2
  rw [e42] at g1 hc
  rw [(mpa_sub (by omega)).2] at a1
  rw [(mpa_sub (by omega)).1] at a2
  rw [k4] at hc
  rw [tau_pbS (Or.inr rfl) hA h3, tau_psk] at g1 a1 a2
  refine ⟨g1, hc, ?_, ?_⟩
  · rw [← a1]; exact (alv_eq (tau_o (by decide)) (tau_o (by decide))).symm
  · rw [← a2]; exact (pcg_eq (tau_o (by decide)) (tau_o (by decide)) (tau_o (by decide))).symm
theorem pske_o {s : St} {i : Int32} {q o : Nat} (h1 : o ≠ 56) (h2 : o ≠ 58) (h3 : o ≠ 86) (h4 : o ≠ 88) (h5 : o ≠ 90) (h6 : o ≠ 92) : (psk (pbS s q) i).2 o = s o := by
  rw [psk_o h5 h6 h1 h2, pbS_o h1 h5 h6 h3 h4]
/-- bounds of what came ashore -/
abbrev PB (s : St) (n : Nat) : Prop := 0 ≤ (s 101 3).toInt ∧ (s 101 3).toInt ≤ 40 * n
theorem pcg_b {σ v : St} (h : RC σ) (hC : C40 σ) {i : Nat} (hi : i < tl σ 3) (hv : v (161 + i) = σ (161 + i)) : 0 ≤ (mpa v i).toInt ∧ (mpa v i).toInt ≤ 40 := by
  have g := (h.sh i hi).2 0 (by decide)
  have z0 : (0 : Int32).toInt = 0 := rfl
  unfold mpa; split
  · rw [hv]; exact ⟨g.1, hC i hi⟩
  · rw [z0]; exact ⟨by decide, by decide⟩
theorem win_pass {σ s u : St} (h : RC σ) (hL : LW σ σ) (hO : lawOK σ) (hC : C40 σ) (hW : WI σ s u) {i n : Nat} (hi : i < tl σ 3) (hn : n < 1000) (hB : PB s n) : WI σ (psP s 99 (nI i)) (mpS u 123 i) ∧ PB (psP s 99 (nI i)) (n + 1) := by
  obtain ⟨g1, gc, ga, gp⟩ := win_strike h hL hO hW hi
  obtain ⟨hF, hU, w1, w2, hR⟩ := hW
  have b3 : tl σ 3 ≤ 6 := h.b.2.2.2.1
  have b0 : tl σ 0 ≤ 12 := h.b.1
  have hq : sq u (trF u 123 i) := sq.rf.tF
  have hsh : trF u 123 i (161 + i) = σ (161 + i) := by rw [hq.1 _ (by omega) (by omega) (by omega), hU.1 _ (by omega) (by omega) (by omega) (by omega)]
  have e18 : (psk (pbS s 99) (nI i)).2 18 = σ 18 := by
    rw [pske_o (by decide) (by decide) (by decide) (by decide) (by decide) (by decide)]; exact hF 18 (by decide) (by decide) (by decide) (by decide) (by decide) (by decide) (by decide) (by decide) (by decide)
  have hsc : sC (psk (pbS s 99) (nI i)).2 (nI i) = trF u 123 i (161 + i) 0 := by
    rw [sC_eq e18, hsh]; exact h.s0 hi
  have e101 : (psk (pbS s 99) (nI i)).2 101 = s 101 := pske_o (by decide) (by decide) (by decide) (by decide) (by decide) (by decide)
  have r := rk_pass (s := (psk (pbS s 99) (nI i)).2) (o := 99) (ro := 123) (by decide) (by decide) (show i < 6 by omega) h.b.2.2.1 b3 b0 g1 (gc.imp id (fun ⟨c, a, b⟩ => ⟨c, by omega, b⟩)) ga gp hsc (by
    show RK2 _ _ _ _ ((psk (pbS s 99) (nI i)).2 101) _
    rw [e101, hq.1 123 (by decide) (by decide) (by decide)]; exact hR)
  have fr : ∀ o, o ≠ 101 → psP s 99 (nI i) o = (psk (pbS s 99) (nI i)).2 o := fun o ho => by unfold psP; exact hps_o ho
  have fm : ∀ o, o ≠ 123 → mpS u 123 i o = trF u 123 i o := fun o ho => by rw [mpS_T]; exact mpT_o ho
  refine ⟨⟨fun o a b c d e f g x y => ?_, ⟨fun o a b c d => ?_, fun f a b => ?_⟩, ?_, ?_, ?_⟩, ?_⟩
  · rw [fr o y, pske_o b c d e f g]; exact hF o a b c d e f g x y
  · rw [fm o d, hq.1 o (by omega) b c]; exact hU.1 o a b c d
  · rw [fm 111 (by decide), hq.2 f b]; exact hU.2 f a b
  · rw [fr 98 (by decide), pske_o (by decide) (by decide) (by decide) (by decide) (by decide) (by decide), fm 111 (by decide), trF_f (by decide)]; exact w1
  · rw [fr 98 (by decide), pske_o (by decide) (by decide) (by decide) (by decide) (by decide) (by decide), fm 111 (by decide), trF_f (by decide)]; exact w2
  · rw [mpS_T]; exact r
  · have hp := pcg_b h hC hi hsh
    have e3 : psP s 99 (nI i) 101 3 = s 101 3 ∨ psP s 99 (nI i) 101 3 = s 101 3 + mpa (trF u 123 i) i := by
      unfold psP
      rcases gc with z | ⟨c, hc, z⟩
      · left
        rw [g1, z]
        have := hps_1 (s := (psk (pbS s 99) (nI i)).2) (o := 99) (i := i)
        rw [show (101 : Nat) = 99 + 2 from rfl, this, ud_k (by decide), e101]
      · right
        rw [← gp, g1, z]
        have := hps_2 (s := (psk (pbS s 99) (nI i)).2) (o := 99) (i := i) (c := c) (by decide) (by omega) (by omega)
        rw [show (101 : Nat) = 99 + 2 from rfl, this, (wkc_e (by omega) (by omega)).1.2.2.2.1, e101]
    rcases e3 with z | z
    · unfold PB at *; rw [z]; omega
    · unfold PB at *
      rw [z, i_add rfl rfl (by omega) (by omega)]; omega
/-! a night of a winter -/
theorem WI.draw {σ s u : St} (h : WI σ s u) : WI σ (drS s) (wy1 u) := by
  obtain ⟨hF, hU, w1, w2, hR⟩ := h
  refine ⟨fun o a b c d e f g x y => ?_, ⟨fun o a b c d => ?_, fun f a b => ?_⟩, ?_, ?_, ?_⟩
  · unfold drS; rw [up_o x]; exact hF o a b c d e f g x y
  · unfold wy1; rw [up_o (by omega)]; exact hU.1 o a b c d
  · unfold wy1; rw [up_k (by omega)]; exact hU.2 f a b
  · unfold drS wy1; rw [up_rd, up_rd, w1]; rfl
  · unfold drS wy1; rw [up_k (by decide), up_k (by decide)]; exact w2
  · unfold drS wy1; rw [up_o (by decide), up_o (by decide)]; exact hR
theorem RK2.fog1 {K : Nat → Int32} {nd ns nc : Nat} {f g f' : Nat → Int32} (hnd : nd ≤ 3) (hns : ns ≤ 6) (hnc : nc ≤ 12) (h : RK2 K nd ns nc f g) (h1 : f' 1 = 1) (hk : ∀ k, k ≠ 1 → f' k = f k) : RK2 K nd ns nc f' (upd g 28 1) := by
  obtain ⟨r0, r1, r2, r3, r4, r5, r6, r7, rd, rt, rc, r29⟩ := h
  have e : ∀ k, k ≠ 28 → upd g 28 1 k = g k := fun k hk => ud_k hk
  refine ⟨?_, ?_, ?_, ?_, ?_, ?_, ?_, ?_, fun d hd => ?_, fun x hx => ?_, fun x hx => ?_, ?_⟩
  · rw [hk 0 (by decide), e 27 (by decide)]; exact r0
  · rw [h1, ud_r]; exact ⟨rfl, Or.inr rfl⟩
  · rw [hk 2 (by decide), e 23 (by decide)]; exact r2
  · rw [hk 3 (by decide), e 24 (by decide)]; exact r3
  · rw [hk 4 (by decide), e 25 (by decide)]; exact r4
  · rw [hk 5 (by decide), e 26 (by decide)]; exact r5
  · rw [hk 6 (by decide), e 0 (by decide)]; exact r6
  · rw [hk 7 (by decide), e 4 (by decide)]; exact r7
  · rw [hk _ (by omega), e _ (by omega)]; exact rd d hd
  · rw [hk _ (by omega), e _ (by omega)]; exact rt x hx
  · rw [hk _ (by omega), e _ (by omega)]; exact rc x hx
  · rw [e 29 (by decide)]; exact r29
theorem nyc_e {f : Nat → Int32} : ((upd (upd (ad f 0 1) 1 0) 7 0) 0 = f 0 + 1 ∧ (upd (upd (ad f 0 1) 1 0) 7 0) 1 = 0 ∧ (upd (upd (ad f 0 1) 1 0) 7 0) 2 = f 2 ∧ (upd (upd (ad f 0 1) 1 0) 7 0) 3 = f 3 ∧ (upd (upd (ad f 0 1) 1 0) 7 0) 4 = f 4 ∧ (upd (upd (ad f 0 1) 1 0) 7 0) 5 = f 5 ∧ (upd (upd (ad f 0 1) 1 0) 7 0) 6 = f 6 ∧ (upd (upd (ad f 0 1) 1 0) 7 0) 7 = 0) ∧ ∀ k, 8 ≤ k → (upd (upd (ad f 0 1) 1 0) 7 0) k = f k := by
  refine ⟨⟨?_, ?_, ?_, ?_, ?_, ?_, ?_, ?_⟩, fun k hk => ?_⟩
  · repeat (first | rw [ad_r] | rw [ad_k (by omega)] | rw [ud_r] | rw [ud_k (by omega)])
  · repeat (first | rw [ad_r] | rw [ad_k (by omega)] | rw [ud_r] | rw [ud_k (by omega)])
  · repeat (first | rw [ad_r] | rw [ad_k (by omega)] | rw [ud_r] | rw [ud_k (by omega)])
  · repeat (first | rw [ad_r] | rw [ad_k (by omega)] | rw [ud_r] | rw [ud_k (by omega)])
  · repeat (first | rw [ad_r] | rw [ad_k (by omega)] | rw [ud_r] | rw [ud_k (by omega)])
  · repeat (first | rw [ad_r] | rw [ad_k (by omega)] | rw [ud_r] | rw [ud_k (by omega)])
  · repeat (first | rw [ad_r] | rw [ad_k (by omega)] | rw [ud_r] | rw [ud_k (by omega)])
  · repeat (first | rw [ad_r] | rw [ad_k (by omega)] | rw [ud_r] | rw [ud_k (by omega)])
  · repeat (first | rw [ad_r] | rw [ad_k (by omega)] | rw [ud_r] | rw [ud_k (by omega)])
theorem nym_e {g : Nat → Int32} : ((upd (upd (ad g 27 1) 28 0) 4 0) 0 = g 0 ∧ (upd (upd (ad g 27 1) 28 0) 4 0) 4 = 0 ∧ (upd (upd (ad g 27 1) 28 0) 4 0) 27 = g 27 + 1 ∧ (upd (upd (ad g 27 1) 28 0) 4 0) 28 = 0 ∧ (upd (upd (ad g 27 1) 28 0) 4 0) 29 = g 29) ∧ ∀ k, k ≠ 4 → k < 27 → (upd (upd (ad g 27 1) 28 0) 4 0) k = g k := by
  refine ⟨⟨?_, ?_, ?_, ?_, ?_⟩, fun k hk hk2 => ?_⟩
  · repeat (first | rw [ad_r] | rw [ad_k (by omega)] | rw [ud_r] | rw [ud_k (by omega)])
  · repeat (first | rw [ad_r] | rw [ad_k (by omega)] | rw [ud_r] | rw [ud_k (by omega)])
  · repeat (first | rw [ad_r] | rw [ad_k (by omega)] | rw [ud_r] | rw [ud_k (by omega)])
  · repeat (first | rw [ad_r] | rw [ad_k (by omega)] | rw [ud_r] | rw [ud_k (by omega)])
  · repeat (first | rw [ad_r] | rw [ad_k (by omega)] | rw [ud_r] | rw [ud_k (by omega)])
  · repeat (first | rw [ad_r] | rw [ad_k (by omega)] | rw [ud_r] | rw [ud_k (by omega)])
theorem RK2.night {K : Nat → Int32} {nd ns nc : Nat} {f g : Nat → Int32} (hnd : nd ≤ 3) (hns : ns ≤ 6) (hnc : nc ≤ 12) (h : RK2 K nd ns nc f g) : RK2 K nd ns nc (upd (upd (ad f 0 1) 1 0) 7 0) (upd (upd (ad g 27 1) 28 0) 4 0) := by
  obtain ⟨r0, r1, r2, r3, r4, r5, r6, r7, rd, rt, rc, r29⟩ := h
  obtain ⟨⟨c0, c1, c2, c3, c4, c5, c6, c7⟩, cr⟩ := nyc_e (f := f)
  obtain ⟨⟨m0, m4, m27, m28, m29⟩, mr⟩ := nym_e (g := g)
  refine ⟨?_, ?_, ?_, ?_, ?_, ?_, ?_, ?_, fun d hd => ?_, fun x hx => ?_, fun x hx => ?_, ?_⟩
  · rw [c0, m27, r0]
  · rw [c1, m28]; exact ⟨rfl, Or.inl rfl⟩
  · rw [c2, mr 23 (by decide) (by decide)]; exact r2
  · rw [c3, mr 24 (by decide) (by decide)]; exact r3
  · rw [c4, mr 25 (by decide) (by decide)]; exact r4
  · rw [c5, mr 26 (by decide) (by decide)]; exact r5
  · rw [c6, m0]; exact r6
  · rw [c7, m4]
  · rw [cr _ (by omega), mr _ (by omega) (by omega)]; exact rd d hd
  · rw [cr _ (by omega), mr _ (by omega) (by omega)]; exact rt x hx
  · rw [cr _ (by omega), mr _ (by omega) (by omega)]; exact rc x hx
  · rw [m29]; exact r29
theorem nnS_row {s : St} {o : Nat} : nnS s o (o + 2) = upd (upd (ad (s (o + 2)) 0 1) 1 0) 7 0 := by
  have e0 : nad s o 0 1 (o + 2) = ad (s (o + 2)) 0 1 := nad_row (k := 0) (by decide)
  unfold nnS
  rw [show (7 : Int32) = nI 7 from rfl, rs_nI (by decide) (by decide), show (1 : Int32) = nI 1 from rfl, rs_nI (by decide) (by decide)]
  rw [show o + 1 + 1 = o + 2 from rfl, up_row, up_row]
  rw [show nI 1 = (1 : Int32) from rfl, e0]
theorem nnS_o {s : St} {o q : Nat} (h : q ≠ o + 2) : nnS s o q = s q := by
  unfold nnS; rw [rs_o h, rs_o h, nad_o h]
theorem mne_row {u : St} {o : Nat} : mne u o o = upd (upd (ad (u o) 27 1) 28 0) 4 0 := by
  unfold mne; rw [up_row, up_row, up_row]; rfl
theorem mne_o {u : St} {o q : Nat} (h : q ≠ o) : mne u o q = u q := by unfold mne; rw [up_o h, up_o h, up_o h]
theorem fgS_row {s : St} {o : Nat} : fgS s o (o + 2) 1 = 1 ∧ (∀ k, k ≠ 1 → fgS s o (o + 2) k = s (o + 2) k) ∧ ∀ q, q ≠ o + 2 → fgS s o q = s q := by
  have e : rg (s (o + 2)) 29 1 = s (o + 2) 1 := rg_nI (i := 1) (by decide) (by decide)
  unfold fgS
  rw [e]
  split
  · rename_i z; exact ⟨z, fun _ _ => rfl, fun _ _ => rfl⟩
  · refine ⟨?_, fun k hk => ?_, fun q hq => rs_o hq⟩
    · rw [show rs s (o + 1) 29 1 1 = up s (o + 1 + 1) 1 1 from rs_nI (d := 1) (by decide) (by decide)]; exact up_rd
    · rw [show rs s (o + 1) 29 1 1 = up s (o + 1 + 1) 1 1 from rs_nI (d := 1) (by decide) (by decide)]; exact up_k hk
theorem lt_le {a b : Int32} (h : ¬ a ≤ b) : b < a := by rw [i_le] at h; rw [i_lt]; omega
theorem win_fog {σ s u : St} (h : RC σ) (hW : WI σ s u) {q : Int32} {n : Nat} (hB : PB s n) : WI σ (wl2 (wl1 s q)) (wy3 (wy2 q u)) ∧ PB (wl2 (wl1 s q)) n := by
  have b := h.b
  have hV : drV s 16 = mdv (u 111 48) 16 := dr_e hW.2.2.1 (by decide)
  have hD := hW.draw
  have hBD : PB (drS s) n := by unfold PB drS at *; rw [up_o (by decide)]; exact hB
  have h1 : WI σ (wl1 s q) (wy2 q u) ∧ PB (wl1 s q) n := by
    unfold wl1 wy2
    rw [hV]
    by_cases z : q ≤ mdv (u 111 48) 16
    · rw [if_pos z, if_neg (fun y => by rw [i_le] at z; rw [i_lt] at y; omega)]; exact ⟨hD, hBD⟩
    · rw [if_neg z, if_pos (lt_le z)]
      obtain ⟨hF, hU, w1, w2, hR⟩ := hD
      obtain ⟨f1, f2, f3⟩ := fgS_row (s := drS s) (o := 99)
      refine ⟨⟨fun o a b c d e f g x y => ?_, ⟨fun o a b c d => ?_, fun f a b => ?_⟩, ?_, ?_, ?_⟩, ?_⟩
      · rw [f3 o y]; exact hF o a b c d e f g x y
      · rw [up_o d]; exact hU.1 o a b c d
      · rw [up_o (by decide)]; exact hU.2 f a b
      · rw [f3 98 (by decide), up_o (by decide)]; exact w1
      · rw [f3 98 (by decide), up_o (by decide)]; exact w2
      · rw [up_row]; exact hR.fog1 b.2.2.1 b.2.2.2.1 b.1 f1 f2
      · unfold PB at *; rw [show fgS (drS s) 99 101 3 = drS s 101 3 from f2 3 (by decide)]; exact hBD
  obtain ⟨⟨hF, hU, w1, w2, hR⟩, hB1⟩ := h1
  have ef : rg (wl1 s q 101) 29 1 = wy2 q u 123 28 := by
    rw [show (1 : Int32) = nI 1 from rfl, rg_nI (by decide) (by decide)]; exact hR.2.1.1
  unfold wl2 wy3
  refine ⟨⟨fun o a b c d e f g x y => ?_, ⟨fun o a b c d => ?_, fun f a b => ?_⟩, ?_, ?_, ?_⟩, ?_⟩
  · rw [up_o x]; exact hF o a b c d e f g x y
  · rw [up_o (by omega)]; exact hU.1 o a b c d
  · rw [up_k (by omega)]; exact hU.2 f a b
  · rw [up_k (by decide), up_k (by decide)]; exact w1
  · rw [up_rd, up_rd, w2, ef]
  · rw [up_o (by decide), up_o (by decide)]; exact hR
  · unfold PB at *; rw [up_o (by decide)]; exact hB1
theorem win_step {σ s u : St} (h : RC σ) (hL : LW σ σ) (hO : lawOK σ) (hC : C40 σ) (hW : WI σ s u) {q : Int32} {n : Nat} (hn : n < 1000) (hB : PB s n) : WI σ (wlB (wsh σ) q s) (wyS q u) ∧ PB (wlB (wsh σ) q s) (n + 1) := by
  have b := h.b
  obtain ⟨hW2, hB2⟩ := win_fog h hW (q := q) hB
  have h3 : WI σ (wl3 (wl2 (wl1 s q)) (wsh σ)) (wy4 (wy3 (wy2 q u))) ∧ PB (wl3 (wl2 (wl1 s q)) (wsh σ)) (n + 1) := by
    generalize wl2 (wl1 s q) = s2 at hW2 hB2
    generalize wy3 (wy2 q u) = u2 at hW2
    have e0 : u2 115 0 = σ 115 0 := by rw [hW2.2.1.1 115 (by decide) (by decide) (by decide) (by decide)]
    have e3 : u2 115 3 = σ 115 3 := by rw [hW2.2.1.1 115 (by decide) (by decide) (by decide) (by decide)]
    have p0 := h.p 0 (by decide)
    have p3 := h.p 3 (by decide)
    have z0 : (0 : Int32).toInt = 0 := rfl
    have key : (wsh σ ≤ 0) ↔ ¬ (0 < u2 115 3 ∧ 0 < u2 115 0) := by
      rw [e0, e3]; unfold wsh; rw [h.m0, h.m3]
      by_cases y : σ 115 0 = 0
      · rw [if_pos y, y]; exact ⟨fun _ q => absurd q.2 (by decide), fun _ => by decide⟩
      · rw [if_neg y]
        have y2 : ¬ (σ 115 0).toInt = 0 := fun q => y (Int32.toInt_inj.mp (by rw [q]; rfl))
        rw [i_le, i_lt, i_lt]; omega
    unfold wl3 wy4
    by_cases y : wsh σ ≤ 0
    · rw [if_pos y, if_neg (key.mp y)]; exact ⟨hW2, by unfold PB at *; omega⟩
    · have y2 : 0 < u2 115 3 ∧ 0 < u2 115 0 := Decidable.not_not.mp (fun z => y (key.mpr z))
      rw [if_neg y, if_pos y2]
      have ews : wsh σ = u2 115 3 := by
        rw [e3]; unfold wsh; rw [h.m0, h.m3, if_neg]
        intro z; have := y2.2; rw [e0, z] at this; exact absurd this (by decide)
      have hc3 := ct_pos y2.1
      have hm := mdn_s (u2 111 48) hc3.2 (by have := b.2.2.2.1; have e : ct (u2 115 3) = tl σ 3 := by unfold tl; rw [e3]
                                             omega)
      rw [hc3.1] at hm
      have hi : mdn (u2 111 48) (u2 115 3) < tl σ 3 := by have e : ct (u2 115 3) = tl σ 3 := by unfold tl; rw [e3]
                                                          omega
      have hV : drV s2 (wsh σ) = nI (mdn (u2 111 48) (u2 115 3)) := by
        rw [← hm.1, ews]; exact dr_e hW2.2.2.1 (fun z => by have := y2.1; rw [z] at this; exact absurd this (by decide))
      rw [hV]
      exact win_pass h hL hO hC hW2.draw hi hn (by unfold PB drS at *; rw [up_o (by decide)]; exact hB2)
  obtain ⟨⟨hF, hU, w1, w2, hR⟩, hB3⟩ := h3
  unfold wlB wyS
  refine ⟨⟨fun o a b c d e f g x y => ?_, ⟨fun o a b c d => ?_, fun f a b => ?_⟩, ?_, ?_, ?_⟩, ?_⟩
  · rw [nnS_o y]; exact hF o a b c d e f g x y
  · rw [mne_o d]; exact hU.1 o a b c d
  · rw [mne_o (by decide)]; exact hU.2 f a b
  · rw [nnS_o (by decide), mne_o (by decide)]; exact w1
  · rw [nnS_o (by decide), mne_o (by decide)]; exact w2
  · rw [show nnS (wl3 (wl2 (wl1 s q)) (wsh σ)) 99 101 = _ from nnS_row (o := 99), mne_row]; exact hR.night b.2.2.1 b.2.2.2.1 b.1
  · unfold PB at *
    rw [show nnS (wl3 (wl2 (wl1 s q)) (wsh σ)) 99 101 = _ from nnS_row (o := 99), (nyc_e).1.2.2.2.1]; exact hB3
/-! the beginning -/
theorem cpy_o {σ : St} {o n q m : Nat} {a b c : Int32} {x : Nat} (h : x ≠ o + 1) : cpy σ o n q m a b c x = σ x := by
  unfold cpy
  generalize ct c = k
  induction k with
  | zero => rfl
  | succ k ih => rw [it_s, rs_o h, ih]
theorem cpy29 {σ : St} {o q : Nat} (h : o ≠ q) : ∀ n, n ≤ 29 → ∀ k, k < n → it (fun k s => rs s o 29 (0 + nI k) (rg (s (q + 1)) 29 (0 + nI k))) σ n (o + 1) k = σ (q + 1) k := by
  have f : ∀ n, it (fun k s => rs s o 29 (0 + nI k) (rg (s (q + 1)) 29 (0 + nI k))) σ n (q + 1) = σ (q + 1) := fun n => by
    induction n with
    | zero => rfl
    | succ n ih => rw [it_s, rs_o (by omega), ih]
  intro n
  induction n with
  | zero => intro _ k hk; omega
  | succ n ih =>
    intro hn k hk
    rw [it_s, f n, Int32.zero_add, rs_nI (by omega) (by decide), rg_nI (by omega) (by decide)]
    by_cases z : k = n
    · rw [z, up_rd]
    · rw [up_k z]; exact ih (by omega) k (by omega)
theorem win_beg {σ P u : St} (h : RC σ) (hn : RNs σ) (hP : WF σ P) (hU : UI σ u) {seed : Int32} : WI σ (wbS P 81 seed) (wb0 u seed) ∧ PB (wbS P 81 seed) 0 ∧ wsh (wbS P 81 seed) = wsh σ := by
  have b := h.b
  have e1 : ∀ k, k < 29 → wb1 P 81 101 k = σ 83 k := fun k hk => by
    have := cpy29 (σ := P) (o := 100) (q := 82) (by decide) 29 (Nat.le_refl _) k hk
    show it (fun k s => rs s 100 29 (0 + nI k) (rg (s (82 + 1)) 29 (0 + nI k))) P (ct (Int32.ofNat 29)) (100 + 1) k = _
    rw [show ct (Int32.ofNat 29) = 29 from by decide, this, hP 83 (by decide) (by decide) (by decide) (by decide) (by decide) (by decide) (by decide) (by decide) (by decide)]
  have e1o : ∀ o, o ≠ 101 → wb1 P 81 o = P o := fun o ho => by unfold wb1; exact cpy_o ho
  have ef : fwS (wb1 P 81) = up (up (up (up (wb1 P 81) 101 2 0) 101 3 0) 101 4 0) 101 5 0 := by
    unfold fwS
    rw [show ∀ (s : St), rs s 100 29 2 0 = up s 101 2 0 from fun s => rs_nI (d := 2) (by decide) (by decide), show ∀ (s : St), rs s 100 29 3 0 = up s 101 3 0 from fun s => rs_nI (d := 3) (by decide) (by decide), show ∀ (s : St), rs s 100 29 4 0 = up s 101 4 0 from fun s => rs_nI (d := 4) (by decide) (by decide), show ∀ (s : St), rs s 100 29 5 0 = up s 101 5 0 from fun s => rs_nI (d := 5) (by decide) (by decide)]
  have ek : ∀ k, k < 29 → (k < 2 ∨ 6 ≤ k) → wbS P 81 seed 101 k = σ 83 k := fun k hk h2 => by
    unfold wbS; rw [up_o (by decide), up_o (by decide), ef, up_k (by omega), up_k (by omega), up_k (by omega), up_k (by omega)]; exact e1 k hk
  have ez : ∀ k, 2 ≤ k → k < 6 → wbS P 81 seed 101 k = 0 := fun k h1 h2 => by
    unfold wbS; rw [up_o (by decide), up_o (by decide), ef]
    have hk : k = 2 ∨ k = 3 ∨ k = 4 ∨ k = 5 := by omega
    rcases hk with z | z | z | z <;> subst z
    · rw [up_k (by decide), up_k (by decide), up_k (by decide), up_rd]
    · rw [up_k (by decide), up_k (by decide), up_rd]
    · rw [up_k (by decide), up_rd]
    · rw [up_rd]
  have eo : ∀ o, o ≠ 98 → o ≠ 101 → wbS P 81 seed o = P o := fun o h1 h2 => by
    unfold wbS; rw [up_o h1, up_o h1, ef, up_o h2, up_o h2, up_o h2, up_o h2, e1o o h2]
  have eu : ∀ k, k < 31 → wb0 u seed 123 k = σ 122 k := fun k hk => by
    unfold wb0; rw [up_o (by decide), up_o (by decide), fl_in hk, hU.1 122 (by decide) (by decide) (by decide) (by decide)]
  have euo : ∀ o, o ≠ 111 → o ≠ 123 → wb0 u seed o = u o := fun o h1 h2 => by unfold wb0; rw [up_o h1, up_o h1, fl_o h2]
  refine ⟨⟨fun o a b c d e f g x y => ?_, ⟨fun o a b c d => ?_, fun f a b => ?_⟩, ?_, ?_, ?_⟩, ?_, ?_⟩
  · rw [eo o x y]; exact hP o a b c d e f g x y
  · rw [euo o (by omega) d]; exact hU.1 o a b c d
  · unfold wb0; rw [up_k (by omega), up_k (by omega), fl_o (by decide)]; exact hU.2 f a b
  · unfold wbS wb0; rw [up_k (by decide), up_rd, up_k (by decide), up_rd]
  · unfold wbS wb0; rw [up_rd, up_rd]
  · obtain ⟨hR, h29⟩ := hn
    obtain ⟨r0, r1, r2, r3, r4, r5, r6, r7, rd, rt, rc⟩ := hR
    refine ⟨?_, ?_, ?_, ?_, ?_, ?_, ?_, ?_, fun d hd => ?_, fun x hx => ?_, fun x hx => ?_, ?_⟩
    · rw [ek 0 (by decide) (by decide), eu 27 (by decide)]; exact r0
    · rw [ek 1 (by decide) (by decide), eu 28 (by decide)]; exact r1
    · rw [ez 2 (by decide) (by decide), eu 23 (by decide), Int32.zero_add]; rfl
    · rw [ez 3 (by decide) (by decide), eu 24 (by decide), Int32.zero_add]; rfl
    · rw [ez 4 (by decide) (by decide), eu 25 (by decide), Int32.zero_add]; rfl
    · rw [ez 5 (by decide) (by decide), eu 26 (by decide), Int32.zero_add]; rfl
    · rw [ek 6 (by decide) (by decide), eu 0 (by decide)]; exact r6
    · rw [ek 7 (by decide) (by decide), eu 4 (by decide)]; exact r7
    · rw [ek (8 + d) (by omega) (by omega), eu (1 + d) (by omega)]; exact rd d hd
    · rw [ek (11 + x) (by omega) (by omega), eu (5 + x) (by omega)]; exact rt x hx
    · rw [ek (17 + x) (by omega) (by omega), eu (11 + x) (by omega)]; exact rc x hx
    · rw [eu 29 (by decide)]; exact h29
  · unfold PB; rw [ez 3 (by decide) (by decide)]; exact ⟨by decide, by decide⟩
  · have e6 : wbS P 81 seed 6 = σ 6 := by
      rw [eo 6 (by decide) (by decide)]; exact hP 6 (by decide) (by decide) (by decide) (by decide) (by decide) (by decide) (by decide) (by decide) (by decide)
    unfold wsh cM; rw [e6]
theorem win_all {σ P u : St} (h : RC σ) (hn : RNs σ) (hL : LW σ σ) (hO : lawOK σ) (hC : C40 σ) (hP : WF σ P) (hU : UI σ u) {seed q : Int32} : ∀ n, n < 1000 → WI σ (wlv (wbS P 81 seed) (wsh (wbS P 81 seed)) q n) (wyR (wb0 u seed) q n) ∧ PB (wlv (wbS P 81 seed) (wsh (wbS P 81 seed)) q n) n := by
  obtain ⟨h1, h2, h3⟩ := win_beg h hn hP hU (seed := seed)
  intro n
  induction n with
  | zero => intro _; exact ⟨h1, h2⟩
  | succ n ih =>
    intro hn
    obtain ⟨g1, g2⟩ := ih (by omega)
    show WI σ (wlB (wsh (wbS P 81 seed)) q (wlv (wbS P 81 seed) (wsh (wbS P 81 seed)) q n)) (wyS q (wyR (wb0 u seed) q n)) ∧ PB (wlB (wsh (wbS P 81 seed)) q (wlv (wbS P 81 seed) (wsh (wbS P 81 seed)) q n)) (n + 1)
    rw [h3] at g1 g2 ⊢
    exact win_step h hL hO hC g1 (by omega) g2
theorem WF.rf {σ : St} : WF σ σ := fun _ _ _ _ _ _ _ _ _ _ => rfl
theorem UI.sx {σ t : St} (h : sx σ t) : UI σ t := ⟨fun o a b c _ => h.1 o a b c, fun f a b => h.2 f a b⟩
theorem sub_e {a b c : Int32} (h : a + b = c) : c - b = a := by subst h; exact Int32.add_sub_cancel a b
theorem wi_ans {σ s u : St} (h : WI σ s u) : rg (s 101) 29 2 = u 123 23 - u 122 23 ∧ rg (s 101) 29 3 = u 123 24 - u 122 24 ∧ rg (s 101) 29 5 = u 123 26 - u 122 26 := by
  obtain ⟨-, hU, -, -, -, -, r2, r3, -, r5, -⟩ := h
  rw [hU.1 122 (by decide) (by decide) (by decide) (by decide), show (2 : Int32) = nI 2 from rfl, rg_nI (by decide) (by decide), show (3 : Int32) = nI 3 from rfl, rg_nI (by decide) (by decide), show (5 : Int32) = nI 5 from rfl, rg_nI (by decide) (by decide)]
  exact ⟨(sub_e r2).symm, (sub_e r3).symm, (sub_e r5).symm⟩
theorem q_winter {σ t : St} (h : RC σ) (hn : RNs σ) (hL : LW σ σ) (hO : lawOK σ) (hC : C40 σ) (hq : sx σ t) {seed n q w : Int32} (hN : ct n < 1000) :
    (if w = 0 then rg ((xwn σ seed n q) 101) 29 2 else if w = 1 then rg ((xwn σ seed n q) 101) 29 3 else if w = 2 then rg ((xwn σ seed n q) 101) 29 5 else (xwn σ seed n q) 98 2) = mwnV t seed (ct n) q w ∧ WF σ (xwn σ seed n q) ∧ UI σ (mwn t seed (ct n) q) := by
  obtain ⟨g1, -⟩ := win_all h hn hL hO hC WF.rf (UI.sx hq) (seed := seed) (q := q) (ct n) hN
  obtain ⟨a0, a1, a2⟩ := wi_ans g1
  refine ⟨?_, g1.1, g1.2.1⟩
  unfold mwnV xwn
  unfold mwn
  rw [a0, a1, a2, g1.2.2.2.1]
/-! the winters of many seeds -/
theorem q_span9 {σ t : St} (h : RC σ) (hn : RNs σ) (hL : LW σ σ) (hO : lawOK σ) (hC : C40 σ) (hq : sx σ t) {seed n q : Int32} (hN : ct n ≤ 96) : ∀ m, WF σ (xsp σ seed n q m).2 ∧ UI σ (mspn t seed (ct n) q m).2 ∧ (xsp σ seed n q m).1.2 = (mspn t seed (ct n) q m).1.2 ∧
    (m = 0 → (mspn t seed (ct n) q m).1.1 = -1 ∧ (xsp σ seed n q m).1.1 = 3840) ∧ (0 < m → ¬ (mspn t seed (ct n) q m).1.1 = -1 ∧ (xsp σ seed n q m).1.1 = (mspn t seed (ct n) q m).1.1) := by
  intro m
  induction m with
  | zero => exact ⟨WF.rf, UI.sx hq, rfl, fun _ => ⟨rfl, rfl⟩, fun z => absurd z (by decide)⟩
  | succ m ih =>
    obtain ⟨i1, i2, i3, i4, i5⟩ := ih
    obtain ⟨g1, g2⟩ := win_all h hn hL hO hC i1 i2 (seed := seed + nI m) (q := q) (ct n) (by omega)
    have g1' : WI σ (xwn (xsp σ seed n q m).2 (seed + nI m) n q) (mwn (mspn t seed (ct n) q m).2 (seed + nI m) (ct n) q) := g1
    have g2' : PB (xwn (xsp σ seed n q m).2 (seed + nI m) n q) (ct n) := g2
    obtain ⟨a0, a1, -⟩ := wi_ans g1'
    have eX := xsp_s (σ := σ) (seed := seed) (n := n) (q := q) (i := m) (s := xwn (xsp σ seed n q m).2 (seed + nI m) n q) rfl
    have hx : rg (xwn (xsp σ seed n q m).2 (seed + nI m) n q 101) 29 3 = xwn (xsp σ seed n q m).2 (seed + nI m) n q 101 3 := rg_nI (i := 3) (by decide) (by decide)
    have e2 : (mspn t seed (ct n) q (m + 1)).2 = mwn (mspn t seed (ct n) q m).2 (seed + nI m) (ct n) q := rfl
    have ec := mspn_c (σ := t) (seed := seed) (n := ct n) (q := q) (i := m)
    have k0 : mwn (mspn t seed (ct n) q m).2 (seed + nI m) (ct n) q 123 23 = mwn (mspn t seed (ct n) q m).2 (seed + nI m) (ct n) q 122 23 ↔ rg (xwn (xsp σ seed n q m).2 (seed + nI m) n q 101) 29 2 = 0 := by
      rw [a0]
      constructor
      · intro z; rw [z, Int32.sub_self]
      · intro z; have := congrArg (· + mwn (mspn t seed (ct n) q m).2 (seed + nI m) (ct n) q 122 23) z
        simp only [Int32.sub_add_cancel, Int32.zero_add] at this; exact this
    have ed : (mspn t seed (ct n) q (m + 1)).1.2.2 = (mspn t seed (ct n) q m).1.2.2 + (if rg (xwn (xsp σ seed n q m).2 (seed + nI m) n q 101) 29 2 = 0 then 1 else 0) := by
      by_cases z : rg (xwn (xsp σ seed n q m).2 (seed + nI m) n q 101) 29 2 = 0
      · rw [if_pos z]; exact mspn_d (k0.mpr z)
      · rw [if_neg z]; exact mspn_e (fun y => z (k0.mp y))
    rw [← a1] at ec
    refine ⟨by rw [eX]; exact g1'.1, by rw [e2]; exact g1'.2.1, ?_, fun z => absurd z (Nat.succ_ne_zero m), fun _ => ?_⟩
    · refine Prod.ext ?_ ?_
      · rw [eX, ec, ← i3]
        show (if (xsp σ seed n q m).1.2.1 < rg (xwn (xsp σ seed n q m).2 (seed + nI m) n q 101) 29 3 then rg (xwn (xsp σ seed n q m).2 (seed + nI m) n q 101) 29 3 else (xsp σ seed n q m).1.2.1) = _
        by_cases c1 : (xsp σ seed n q m).1.2.1 < rg (xwn (xsp σ seed n q m).2 (seed + nI m) n q 101) 29 3
        · rw [if_pos c1, if_neg (fun z => by rw [i_lt] at c1 z; omega)]
        · rw [if_neg c1]
          by_cases c2 : rg (xwn (xsp σ seed n q m).2 (seed + nI m) n q 101) 29 3 < (xsp σ seed n q m).1.2.1
          · rw [if_pos c2]
          · rw [if_neg c2, i_eq]; rw [i_lt] at c1 c2; omega
      · rw [eX, ed, ← i3]
    · have hb : ¬ rg (xwn (xsp σ seed n q m).2 (seed + nI m) n q 101) 29 3 = -1 ∧ ¬ 3840 < rg (xwn (xsp σ seed n q m).2 (seed + nI m) n q 101) 29 3 := by
        rw [hx]
        unfold PB at g2'
        refine ⟨fun z => ?_, fun z => ?_⟩
        · rw [z, show (-1 : Int32).toInt = -1 from rfl] at g2'; omega
        · rw [i_lt, show (3840 : Int32).toInt = 3840 from rfl] at z; omega
      rw [eX]
      show _ ∧ (if rg (xwn (xsp σ seed n q m).2 (seed + nI m) n q 101) 29 3 < (xsp σ seed n q m).1.1 then rg (xwn (xsp σ seed n q m).2 (seed + nI m) n q 101) 29 3 else (xsp σ seed n q m).1.1) = _
      rcases Nat.eq_zero_or_pos m with z | z
      · obtain ⟨j1, j2⟩ := i4 z
        rw [mspn_a j1, ← a1, j2]
        refine ⟨hb.1, ?_⟩
        by_cases c1 : rg (xwn (xsp σ seed n q m).2 (seed + nI m) n q 101) 29 3 < 3840
        · rw [if_pos c1]
        · rw [if_neg c1, i_eq]; have := hb.2; rw [i_lt] at c1 this; omega
      · obtain ⟨j1, j2⟩ := i5 z
        rw [mspn_b j1, ← a1, j2]
        by_cases c1 : rg (xwn (xsp σ seed n q m).2 (seed + nI m) n q 101) 29 3 < (mspn t seed (ct n) q m).1.1
        · rw [if_pos c1, if_neg (fun z => by rw [i_lt] at c1 z; omega)]; exact ⟨hb.1, rfl⟩
        · rw [if_neg c1]
          by_cases c2 : (mspn t seed (ct n) q m).1.1 < rg (xwn (xsp σ seed n q m).2 (seed + nI m) n q 101) 29 3
          · rw [if_pos c2]; exact ⟨j1, rfl⟩
          · rw [if_neg c2]
            refine ⟨hb.1, ?_⟩
            rw [i_eq]; rw [i_lt] at c1 c2; omega
theorem q_span {σ t : St} (h : RC σ) (hn : RNs σ) (hL : LW σ σ) (hO : lawOK σ) (hC : C40 σ) (hq : sx σ t) {seed n q w : Int32} (hN : ct n ≤ 96) {m : Nat} (hm : 0 < m) :
    (if w = 0 then (xsp σ seed n q m).1.1 else if w = 1 then (xsp σ seed n q m).1.2.1 else (xsp σ seed n q m).1.2.2) = mspV t seed m (ct n) q w ∧ WF σ (xsp σ seed n q m).2 ∧ UI σ (mspn t seed (ct n) q m).2 := by
  obtain ⟨g1, g2, g3, -, g5⟩ := q_span9 h hn hL hO hC hq (seed := seed) (q := q) hN m
  refine ⟨?_, g1, g2⟩
  unfold mspV
  rw [(g5 hm).2, g3]
