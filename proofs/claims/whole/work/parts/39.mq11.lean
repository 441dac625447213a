/-! ===== a law: readLawMany 24, open 8; rows 327 .. ===== -/
def pL (t : St) : Prop := pB t ∧ (t 111 2).toInt ≤ 150 ∧ (t 111 5 = 0 → 0 ≤ (t 111 24).toInt ∧ (t 111 24).toInt ≤ (t 111 4).toInt)
def okl (a g : Int) (t u : St) : Prop := pB u ∧ u 111 2 = t 111 2 ∧ u 111 8 = t 111 8 ∧ (u 111 5 = 0 → t 111 5 = 0 ∧ (t 111 24).toInt ≤ (u 111 24).toInt ∧ (t 111 4).toInt + a ≤ (u 111 4).toInt ∧ (u 111 24).toInt + (t 111 4).toInt + g ≤ (t 111 24).toInt + (u 111 4).toInt)
theorem okl.rf {t : St} (h : pB t) : okl 0 0 t t := ⟨h, rfl, rfl, fun z => ⟨z, by omega, by omega, by omega⟩⟩
theorem okl.tr {a g a' g' : Int} {t u v : St} (h : okl a g t u) (h2 : okl a' g' u v) : okl (a + a') (g + g') t v := by
  refine ⟨h2.1, h2.2.1.trans h.2.1, h2.2.2.1.trans h.2.2.1, fun z => ?_⟩
  obtain ⟨p, q, r, s⟩ := h2.2.2.2 z
  obtain ⟨p', q', r', s'⟩ := h.2.2.2 p
  exact ⟨p', by omega, by omega, by omega⟩
theorem okl.wk {a g a' g' : Int} {t u : St} (h : okl a g t u) (ha : a' ≤ a) (hg : g' ≤ g) : okl a' g' t u := by
  refine ⟨h.1, h.2.1, h.2.2.1, fun z => ?_⟩
  obtain ⟨p, q, r, s⟩ := h.2.2.2 z
  exact ⟨p, by omega, by omega, by omega⟩
theorem okr.l {g : Int} {t u : St} (h : okr g t u) (h8 : u 111 8 = t 111 8) (h24 : u 111 24 = t 111 24) : okl g g t u := by
  refine ⟨h.1, h.2.1, h8, fun z => ?_⟩
  obtain ⟨p, q⟩ := h.2.2 z
  exact ⟨p, by rw [h24]; omega, q, by rw [h24]; omega⟩
theorem okl.pL {a g : Int} {t u : St} (h : okl a g t u) (hL : pL t) (hg : 0 ≤ g) : pL u := by
  refine ⟨h.1, by rw [h.2.1]; exact hL.2.1, fun z => ?_⟩
  obtain ⟨p, q, r, s⟩ := h.2.2.2 z
  have := hL.2.2 p
  exact ⟨by omega, by omega⟩
theorem pL_m {t : St} (h : pL t) : t 111 5 = 0 → 0 ≤ (t 111 24).toInt ∧ (t 111 24).toInt < 160 := fun z => by
  have h1 := h.2.2 z
  have h2 := h.1.2.1
  have h3 := h.2.1
  exact ⟨h1.1, by omega⟩
theorem mnt_k {t : St} {w v : Int32} {k : Nat} (hk : k ≠ 24) : mnt t w v 111 k = t 111 k := by
  unfold mnt; split
  · rw [up_k hk, up_o (show 111 ≠ 327 + (t 111 24).toInt.toNat by omega), up_o (show 111 ≠ 327 + (t 111 24).toInt.toNat by omega)]
  · rfl
theorem mnt_24 {t : St} {w v : Int32} (h : t 111 5 = 0) : mnt t w v 111 24 = t 111 24 + 1 := by
  unfold mnt; rw [if_pos h, up_rd]
theorem okl_nt {a g : Int} {t u : St} {w v : Int32} (hL : pL t) (h : okl a g t u) (hg : 0 ≤ g) : okl a (g - 1) t (mnt u w v) := by
  have hu := okl.pL h hL hg
  refine ⟨?_, by rw [mnt_k (by decide)]; exact h.2.1, by rw [mnt_k (by decide)]; exact h.2.2.1, fun z => ?_⟩
  · have := h.1; unfold pB at *; rw [mnt_k (by decide), mnt_k (by decide)]; exact this
  · rw [mnt_k (by decide)] at z
    obtain ⟨p, q, r, s⟩ := h.2.2.2 z
    have hm := pL_m hu z
    have e : (u 111 24 + 1).toInt = (u 111 24).toInt + 1 := i_add rfl rfl (by omega) (by omega)
    rw [mnt_24 z, mnt_k (by decide), e]
    exact ⟨p, by omega, by omega, by omega⟩
theorem pL_nt {t : St} {w v : Int32} (a : Int) (hL : pL t) (h : okl a 1 t (mnt t w v)) : pL (mnt t w v) := okl.pL h hL (by omega)
/-! the pieces -/
theorem mbl_l {t : St} (h : pB t) : okl 0 0 t (mbl t) := okr.l (okr_bl h) (mbl_k (by decide)) (mbl_k (by decide))
theorem mbz_l {t : St} (h : pB t) : okl 0 0 t (mbz t) := by
  unfold mbz; split
  · exact mbl_l h
  · exact okl.rf h
theorem msk_k {t : St} {k : Nat} (hk : k ≠ 4) : msk t 111 k = t 111 k := by unfold msk; exact up_k hk
theorem msk_l {t : St} (h : pB t) : okl 0 0 t (msk t) := okr.l (okr_sk h) (msk_k (by decide)) (msk_k (by decide))
theorem msg_k {t : St} {c : Int32} {k : Nat} (h4 : k ≠ 4) (h5 : k ≠ 5) (h6 : k ≠ 6) : msg t c 111 k = t 111 k := by
  unfold msg at1; split
  · split
    · rw [up_k h4, mbl_k h4]
    · rw [wr_k h5 h6, mbl_k h4]
  · rfl
theorem msg_l {t : St} {c : Int32} (h : pB t) (h0 : 0 ≤ c) : okl 1 1 t (msg t c) := okr.l (okr_sg h h0) (msg_k (by decide) (by decide) (by decide)) (msg_k (by decide) (by decide) (by decide))
theorem mn2_k {t : St} {k : Nat} (h4 : k ≠ 4) (h5 : k ≠ 5) (h6 : k ≠ 6) : mn2 t 111 k = t 111 k := by
  unfold mn2; rw [up_k h4, mn1_k h5 h6, mbl_k h4]
theorem mnS_k {t : St} {lo hi : Int32} {k : Nat} (h4 : k ≠ 4) (h5 : k ≠ 5) (h6 : k ≠ 6) : mnS t lo hi 111 k = t 111 k := by
  unfold mnS mn3; split
  · split
    · rw [wr_k h5 h6, mn2_k h4 h5 h6]
    · exact mn2_k h4 h5 h6
  · rfl
theorem mnS_l {t : St} {lo hi : Int32} (h : pB t) : okl 1 1 t (mnS t lo hi) := okr.l (okr_nu h) (mnS_k (by decide) (by decide) (by decide)) (mnS_k (by decide) (by decide) (by decide))
theorem at1_l {t : St} {c : Int32} (h : pB t) (hc : mbt (t 111 2) (t 112) (t 111 4) = c) (h0 : 0 ≤ c) : okl 1 1 t (at1 t) := okr.l (okr_at h hc h0) (by unfold at1; exact up_k (by decide)) (by unfold at1; exact up_k (by decide))
theorem mts_l {t : St} {c : Int32} (h : pB t) (h0 : 0 ≤ c) : okl 0 0 t (mts t c) := by
  unfold mts; split
  · split
    · rename_i z; exact okl.wk (okl.tr (mbl_l h) (at1_l (mbl_p h).1 z h0)) (by omega) (by omega)
    · exact mbl_l h
  · exact okl.rf h
theorem mts_l1 {t : St} {c : Int32} (h : pB t) (h0 : 0 ≤ c) (hp : ¬ b2 (mtP t c) = 0) : okl 1 1 t (mts t c) := by
  have hq := b2_nz hp
  unfold mts
  rw [if_pos hq.1, if_pos hq.2]
  exact okl.wk (okl.tr (mbl_l h) (at1_l (mbl_p h).1 hq.2 h0)) (by omega) (by omega)
theorem mts_5 {t : St} {c : Int32} : mts t c 111 5 = t 111 5 := by
  unfold mts at1; split
  · split
    · rw [up_k (by decide), mbl_k (by decide)]
    · exact mbl_k (by decide)
  · rfl
theorem okr_sk1 {t : St} (h : pB t) (hw : ¬ wlen (t 111 2) (t 112) (t 111 4) = 0) : okr 1 t (msk t) := by
  refine ⟨msk_p h, msk_k (by decide), fun z => ⟨by rw [msk_k (by decide)] at z; exact z, ?_⟩⟩
  unfold wlen at hw
  unfold msk; rw [up_rd]; omega
theorem msk_l1 {t : St} (h : pB t) (hw : ¬ wlen (t 111 2) (t 112) (t 111 4) = 0) : okl 1 1 t (msk t) := okr.l (okr_sk1 h hw) (msk_k (by decide)) (msk_k (by decide))
theorem mIs_w {t : St} {c : Int32} (h : mIs t c) (hc : ¬ c = 0) : ¬ wlen (mbz t 111 2) (mbz t 112) (mbz t 111 4) = 0 := by
  intro z
  have e : mbz t = mbl t := if_pos h.1
  rw [e] at z
  have h2 := h.2
  unfold mwv at h2
  rw [z] at h2
  exact hc (h2.symm.trans rfl)
theorem mDr_w {t : St} (h : mDr t) : ¬ wlen (mbz t 111 2) (mbz t 112) (mbz t 111 4) = 0 := by
  intro z
  have e : mbz t = mbl t := if_pos h.1
  rw [e] at z
  have h2 := h.2.1
  rw [z] at h2
  exact absurd h2 (by decide)
theorem mq_w {t : St} (h : ¬ mqV t = -1) : ¬ wlen (mbz t 111 2) (mbz t 112) (mbz t 111 4) = 0 := by
  intro hw
  have k : ∀ c : Int32, ¬ c = 0 → b2 (mIs t c) = 0 := fun c hc => b2_f (fun z => mIs_w z hc hw)
  have kd : b2 (mDr t) = 0 := b2_f (fun z => mDr_w z hw)
  apply h
  unfold mqV
  rw [if_pos (k _ (by decide)), if_pos (k _ (by decide)), if_pos (k _ (by decide)), if_pos (k _ (by decide)), if_pos (k _ (by decide)), if_pos kd, if_pos (k _ (by decide)), if_pos (k _ (by decide)), if_pos (k _ (by decide))]
theorem mq_l0 {t : St} (h : pB t) : okl 0 0 t (mqS t) := by
  unfold mqS; split
  · exact mbz_l h
  · exact okl.wk (okl.tr (mbz_l h) (msk_l (mbz_p h))) (by omega) (by omega)
theorem mq_l1 {t : St} (h : pB t) (hv : ¬ mqV t = -1) : okl 1 1 t (mqS t) := by
  unfold mqS; rw [if_neg hv]
  exact okl.wk (okl.tr (mbz_l h) (msk_l1 (mbz_p h) (mq_w hv))) (by omega) (by omega)
/-! opening -/
theorem mop_1 {u : St} (h : ¬ b2 (mop u 111 5 = 0) = 0) : u 111 5 = 0 ∧ ¬ u 111 8 = 6 ∧ mop u = up u 111 8 (u 111 8 + 1) := by
  have h2 := b2_nz h
  by_cases h5 : u 111 5 = 0
  · by_cases h8 : u 111 8 = 6
    · unfold mop at h2
      rw [if_pos ⟨h5, h8⟩] at h2
      exact absurd h2 (wr_5 (by decide))
    · refine ⟨h5, h8, ?_⟩
      unfold mop
      rw [if_neg (fun z : u 111 5 = 0 ∧ u 111 8 = 6 => h8 z.2), if_pos h5]
  · unfold mop at h2
    rw [if_neg (fun z : u 111 5 = 0 ∧ u 111 8 = 6 => h5 z.1), if_neg h5] at h2
    exact absurd h2 h5
theorem mop_0 {u : St} {a g : Int} (hp : pB u) (h : b2 (mop u 111 5 = 0) = 0) : okl a g u (mop u) := by
  have h2 := b2_z h
  refine ⟨?_, ?_, ?_, fun z => absurd z h2⟩
  all_goals (unfold mop at *; split at h2)
  · rename_i q; rw [if_pos q]; exact wr_p hp
  · rename_i q; rw [if_neg q]; split at h2
    · rename_i q2; exact absurd (show up u 111 8 (u 111 8 + 1) 111 5 = 0 by rw [up_k (by decide)]; exact q2) h2
    · rename_i q2; rw [if_neg q2]; exact hp
  · rename_i q; rw [if_pos q]; exact wr_k (by decide) (by decide)
  · rename_i q; rw [if_neg q]; split at h2
    · rename_i q2; exact absurd (show up u 111 8 (u 111 8 + 1) 111 5 = 0 by rw [up_k (by decide)]; exact q2) h2
    · rename_i q2; rw [if_neg q2]
  · rename_i q; rw [if_pos q]; exact wr_k (by decide) (by decide)
  · rename_i q; rw [if_neg q]; split at h2
    · rename_i q2; exact absurd (show up u 111 8 (u 111 8 + 1) 111 5 = 0 by rw [up_k (by decide)]; exact q2) h2
    · rename_i q2; rw [if_neg q2]
theorem mop_p {u : St} (hp : pB u) : pB (mop u) := by
  unfold mop; split
  · exact wr_p hp
  · split
    · unfold pB at *; rw [up_k (by decide), up_k (by decide)]; exact hp
    · exact hp
theorem mop_L {u : St} (hL : pL u) (h : ¬ b2 (mop u 111 5 = 0) = 0) : pL (mop u) ∧ mop u 111 8 = u 111 8 + 1 := by
  rw [(mop_1 h).2.2]
  refine ⟨?_, up_rd⟩
  unfold pL pB at *
  rw [up_k (by decide), up_k (by decide), up_k (by decide), up_k (by decide)]
  exact hL
def mcl8 (v : St) : St := up v 111 8 (v 111 8 - 1)
theorem okl_par {a g : Int} {u v : St} (h : ¬ b2 (mop u 111 5 = 0) = 0) (hv : okl a g (mop u) v) : okl a g u (mcl8 v) := by
  have hm := (mop_1 h).2.2
  have h8 : (mop u) 111 8 = u 111 8 + 1 := by rw [hm, up_rd]
  have e : ∀ k, k ≠ 8 → mop u 111 k = u 111 k := fun k hk => by rw [hm, up_k hk]
  have f : ∀ k, k ≠ 8 → mcl8 v 111 k = v 111 k := fun k hk => up_k hk
  refine ⟨?_, ?_, ?_, fun z => ?_⟩
  · have := hv.1; unfold pB at *; rw [f 4 (by decide), f 2 (by decide)]; exact this
  · rw [f 2 (by decide), hv.2.1, e 2 (by decide)]
  · unfold mcl8; rw [up_rd, hv.2.2.1, h8]; exact Int32.add_sub_cancel _ _
  · rw [f 5 (by decide)] at z
    have q := hv.2.2.2 z
    rw [e 5 (by decide), e 24 (by decide), e 4 (by decide)] at q
    rw [f 24 (by decide), f 4 (by decide)]
    exact q
/-! one, product, sum -/
def moH (t : St) : Int32 := if b2 (mIs t (m6 12 5 1 19 20 0)) = 0 then (if b2 (mIs t (m6 13 15 19 20 0 0)) = 0 then -1 else 8) else 7
def moA (rec : St → St) (u : St) (how : Int32) : St := mcl8 (mnt (msg (rec (msg (rec (msg (msk (mop u)) 91)) 44)) 93) how 0)
def moP (rec : St → St) (u : St) : St := mcl8 (msg (rec (at1 (mop u))) 41)
def moK (u : St) : St := if mqV u = -1 then mnt (mnS (mqS u) 0 999) 0 (mnV (mqS u) 0 999) else mnt (mqS u) 1 (mqV u)
def mo1 (rec : St → St) (t : St) : St :=
  if t 111 5 = 0 then
    (if moH t = -1 then
      (if mbt (mbz t 111 2) (mbz t 112) (mbz t 111 4) = 40 then (if b2 (mop (mbz t) 111 5 = 0) = 0 then mop (mbz t) else moP rec (mbz t)) else moK (mbz t))
    else (if b2 (mop (mbz t) 111 5 = 0) = 0 then mop (mbz t) else moA rec (mbz t) (moH t)))
  else t
abbrev rcF (rec : St → St) (op : Int32) : Prop := ¬ op = 6 → ∀ t : St, pL t → t 111 8 = op + 1 → okl 0 0 t (rec t)
theorem okl_A {rec : St → St} {op how : Int32} {u : St} (hL : pL u) (ho : u 111 8 = op) (hm : ¬ b2 (mop u 111 5 = 0) = 0) (hfr : rcF rec op) : okl 0 0 u (moA rec u how) := by
  have hn : ¬ op = 6 := by rw [← ho]; exact (mop_1 hm).2.1
  have h0 := mop_L hL hm
  have h1 := okl.tr (msk_l h0.1.1) (msg_l (c := 91) (msk_l h0.1.1).1 (by decide))
  have h2 := okl.tr h1 (hfr hn _ (okl.pL h1 h0.1 (by omega)) (by rw [h1.2.2.1, h0.2, ho]))
  have h3 := okl.tr h2 (msg_l (c := 44) h2.1 (by decide))
  have h4 := okl.tr h3 (hfr hn _ (okl.pL h3 h0.1 (by omega)) (by rw [h3.2.2.1, h0.2, ho]))
  have h5 := okl.tr h4 (msg_l (c := 93) h4.1 (by decide))
  have h6 := okl_nt (w := how) (v := 0) h0.1 h5 (by omega)
  exact okl.wk (okl_par hm h6) (by omega) (by omega)
theorem okl_P {rec : St → St} {op : Int32} {u : St} (hL : pL u) (ho : u 111 8 = op) (hm : ¬ b2 (mop u 111 5 = 0) = 0) (hc : mbt (u 111 2) (u 112) (u 111 4) = 40) (hfr : rcF rec op) : okl 0 0 u (moP rec u) := by
  have hn : ¬ op = 6 := by rw [← ho]; exact (mop_1 hm).2.1
  have h0 := mop_L hL hm
  have hc' : mbt (mop u 111 2) (mop u 112) (mop u 111 4) = 40 := by rw [(mop_1 hm).2.2, up_k (by decide), up_k (by decide), up_o (by decide)]; exact hc
  have h1 := at1_l h0.1.1 hc' (by decide)
  have h2 := okl.tr h1 (hfr hn _ (okl.pL h1 h0.1 (by omega)) (by rw [h1.2.2.1, h0.2, ho]))
  have h3 := okl.tr h2 (msg_l (c := 41) h2.1 (by decide))
  exact okl.wk (okl_par hm h3) (by omega) (by omega)
theorem okl_K {u : St} (hL : pL u) : okl 0 0 u (moK u) := by
  unfold moK; split
  · have h1 := okl.tr (mq_l0 hL.1) (mnS_l (lo := 0) (hi := 999) (mq_l0 hL.1).1)
    exact okl.wk (okl_nt hL h1 (by omega)) (by omega) (by omega)
  · rename_i h
    exact okl.wk (okl_nt hL (mq_l1 hL.1 h) (by omega)) (by omega) (by omega)
theorem okl_1 {rec : St → St} {op : Int32} {t : St} (hL : pL t) (ho : t 111 8 = op) (hfr : rcF rec op) : okl 0 0 t (mo1 rec t) := by
  have hz := mbz_l hL.1
  have hL2 := okl.pL hz hL (by omega)
  have ho2 : mbz t 111 8 = op := by rw [hz.2.2.1, ho]
  have k : ∀ u, okl 0 0 (mbz t) u → okl 0 0 t u := fun u h => okl.wk (okl.tr hz h) (by omega) (by omega)
  unfold mo1
  split
  · split
    · split
      · split
        · rename_i h; exact k _ (mop_0 hL2.1 h)
        · rename_i hc h; exact k _ (okl_P hL2 ho2 h hc hfr)
      · exact k _ (okl_K hL2)
    · split
      · rename_i h; exact k _ (mop_0 hL2.1 h)
      · rename_i h; exact k _ (okl_A hL2 ho2 h hfr)
  · exact okl.rf hL.1
def mg3 (s : St) : Int32 × St := if ¬ b2 (mtP s 42) = 0 then (4, mts s 42) else if ¬ b2 (mtP (mts s 42) 47) = 0 then (5, mts (mts s 42) 47) else if ¬ b2 (mtP (mts (mts s 42) 47) 37) = 0 then (6, mts (mts (mts s 42) 47) 37) else (-1, mts (mts (mts s 42) 47) 37)
theorem mg3_1 {s : St} (h1 : ¬ b2 (mtP s 42) = 0) : mg3 s = (4, mts s 42) := if_pos h1
theorem mg3_2 {s : St} (h1 : b2 (mtP s 42) = 0) (h2 : ¬ b2 (mtP (mts s 42) 47) = 0) : mg3 s = (5, mts (mts s 42) 47) := by unfold mg3; rw [if_neg (fun z => z h1), if_pos h2]
theorem mg3_3 {s : St} (h1 : b2 (mtP s 42) = 0) (h2 : b2 (mtP (mts s 42) 47) = 0) (h3 : ¬ b2 (mtP (mts (mts s 42) 47) 37) = 0) : mg3 s = (6, mts (mts (mts s 42) 47) 37) := by unfold mg3; rw [if_neg (fun z => z h1), if_neg (fun z => z h2), if_pos h3]
theorem mg3_0 {s : St} (h1 : b2 (mtP s 42) = 0) (h2 : b2 (mtP (mts s 42) 47) = 0) (h3 : b2 (mtP (mts (mts s 42) 47) 37) = 0) : mg3 s = (-1, mts (mts (mts s 42) 47) 37) := by unfold mg3; rw [if_neg (fun z => z h1), if_neg (fun z => z h2), if_neg (fun z => z h3)]
def mg2 (s : St) : Int32 × St := if ¬ b2 (mtP s 43) = 0 then (2, mts s 43) else if ¬ b2 (mtP (mts s 43) 45) = 0 then (3, mts (mts s 43) 45) else (-1, mts (mts s 43) 45)
theorem mg2_1 {s : St} (h1 : ¬ b2 (mtP s 43) = 0) : mg2 s = (2, mts s 43) := if_pos h1
theorem mg2_2 {s : St} (h1 : b2 (mtP s 43) = 0) (h2 : ¬ b2 (mtP (mts s 43) 45) = 0) : mg2 s = (3, mts (mts s 43) 45) := by unfold mg2; rw [if_neg (fun z => z h1), if_pos h2]
theorem mg2_0 {s : St} (h1 : b2 (mtP s 43) = 0) (h2 : b2 (mtP (mts s 43) 45) = 0) : mg2 s = (-1, mts (mts s 43) 45) := by unfold mg2; rw [if_neg (fun z => z h1), if_neg (fun z => z h2)]
abbrev sgO (sg : St → Int32 × St) : Prop := ∀ s : St, pB s → okl 0 0 s (sg s).2 ∧ (sg s).2 111 5 = s 111 5 ∧ (¬ (sg s).1 = -1 → okl 1 1 s (sg s).2)
theorem mg2_O : sgO mg2 := by
  intro s hp
  have a1 := mts_l (c := 43) hp (by decide)
  have a2 := okl.tr a1 (mts_l (c := 45) a1.1 (by decide))
  by_cases h1 : b2 (mtP s 43) = 0
  · by_cases h2 : b2 (mtP (mts s 43) 45) = 0
    · rw [mg2_0 h1 h2]; exact ⟨okl.wk a2 (by omega) (by omega), mts_5.trans mts_5, fun z => absurd rfl z⟩
    · rw [mg2_2 h1 h2]; exact ⟨okl.wk a2 (by omega) (by omega), mts_5.trans mts_5, fun _ => okl.wk (okl.tr a1 (mts_l1 a1.1 (by decide) h2)) (by omega) (by omega)⟩
  · rw [mg2_1 h1]; exact ⟨a1, mts_5, fun _ => mts_l1 hp (by decide) h1⟩
theorem mg3_O : sgO mg3 := by
  intro s hp
  have a1 := mts_l (c := 42) hp (by decide)
  have a2 := okl.tr a1 (mts_l (c := 47) a1.1 (by decide))
  have a3 := okl.tr a2 (mts_l (c := 37) a2.1 (by decide))
  by_cases h1 : b2 (mtP s 42) = 0
  · by_cases h2 : b2 (mtP (mts s 42) 47) = 0
    · by_cases h3 : b2 (mtP (mts (mts s 42) 47) 37) = 0
      · rw [mg3_0 h1 h2 h3]; exact ⟨okl.wk a3 (by omega) (by omega), mts_5.trans (mts_5.trans mts_5), fun z => absurd rfl z⟩
      · rw [mg3_3 h1 h2 h3]; exact ⟨okl.wk a3 (by omega) (by omega), mts_5.trans (mts_5.trans mts_5), fun _ => okl.wk (okl.tr a2 (mts_l1 a2.1 (by decide) h3)) (by omega) (by omega)⟩
    · rw [mg3_2 h1 h2]; exact ⟨okl.wk a2 (by omega) (by omega), mts_5.trans mts_5, fun _ => okl.wk (okl.tr a1 (mts_l1 a1.1 (by decide) h2)) (by omega) (by omega)⟩
  · rw [mg3_1 h1]; exact ⟨a1, mts_5, fun _ => mts_l1 hp (by decide) h1⟩
def mpR (sg : St → Int32 × St) (f : St → St) : Nat → St → St
  | 0, s => s
  | n + 1, s => if s 111 5 = 0 then (if (sg s).1 = -1 then (sg s).2 else mpR sg f n (mnt (f (sg s).2) (sg s).1 0)) else s
abbrev fO (f : St → St) (op : Int32) : Prop := ∀ s : St, pL s → s 111 8 = op → okl 0 0 s (f s)
theorem mpR_stop {sg : St → Int32 × St} {f : St → St} {n : Nat} {s : St} (h : ¬ s 111 5 = 0) : mpR sg f n s = s := by
  cases n with
  | zero => rfl
  | succ n => rw [mpR, if_neg h]
theorem mpR_it {sg : St → Int32 × St} {f : St → St} {op : Int32} {s : St} (hsg : sgO sg) (hf : fO f op) (hL : pL s) (ho : s 111 8 = op) (hc : ¬ (sg s).1 = -1) : okl 1 0 s (mnt (f (sg s).2) (sg s).1 0) := by
  have h1 := (hsg s hL.1).2.2 hc
  have h2 := okl.tr h1 (hf _ (okl.pL h1 hL (by omega)) (by rw [h1.2.2.1, ho]))
  exact okl.wk (okl_nt hL h2 (by omega)) (by omega) (by omega)
theorem mpR_l {sg : St → Int32 × St} {f : St → St} {op : Int32} (hsg : sgO sg) (hf : fO f op) : ∀ (n : Nat) (s : St), pL s → s 111 8 = op → okl 0 0 s (mpR sg f n s) := by
  intro n
  induction n with
  | zero => intro s hL _; exact okl.rf hL.1
  | succ n ih =>
    intro s hL ho
    rw [mpR]
    split
    · split
      · exact (hsg s hL.1).1
      · rename_i hc
        have h := mpR_it hsg hf hL ho hc
        exact okl.wk (okl.tr h (ih _ (okl.pL h hL (by omega)) (by rw [h.2.2.1, ho]))) (by omega) (by omega)
    · exact okl.rf hL.1
theorem mpR_pos {s : St} {m : Nat} (hL : pL s) (hf9 : s 111 5 = 0 → (s 111 2).toInt - (s 111 4).toInt < m) (h5 : s 111 5 = 0) : 0 < m := by
  have := hf9 h5
  have := hL.1.2.1
  omega
theorem mpR_go {sg : St → Int32 × St} {f : St → St} {op c : Int32} {s t : St} {m : Nat} (hsg : sgO sg) (hf : fO f op) (hL : pL s) (ho : s 111 8 = op) (hf9 : s 111 5 = 0 → (s 111 2).toInt - (s 111 4).toInt < m) (h5 : s 111 5 = 0) (h1 : sg s = (c, t)) (hc : ¬ c = -1) :
    mpR sg f m s = mpR sg f (m - 1) (mnt (f t) c 0) ∧ 0 < m ∧ pL (mnt (f t) c 0) ∧ (mnt (f t) c 0) 111 8 = op ∧ ((mnt (f t) c 0) 111 5 = 0 → ((mnt (f t) c 0) 111 2).toInt - ((mnt (f t) c 0) 111 4).toInt < (m - 1 : Nat)) := by
  have hc2 : ¬ (sg s).1 = -1 := by rw [h1]; exact hc
  have hm := mpR_pos hL hf9 h5
  have h : okl 1 0 s (mnt (f t) c 0) := by have q := mpR_it hsg hf hL ho hc2; rw [h1] at q; exact q
  refine ⟨?_, hm, okl.pL h hL (by omega), by rw [h.2.2.1, ho], fun z => ?_⟩
  · obtain ⟨n, rfl⟩ : ∃ n, m = n + 1 := ⟨m - 1, by omega⟩
    rw [mpR, if_pos h5, if_neg hc2, h1]; rfl
  · have := (h.2.2.2 z)
    have := hf9 h5
    rw [h.2.1]; omega
theorem mpR_none {sg : St → Int32 × St} {f : St → St} {s t : St} {m : Nat} (hm : 0 < m) (h5 : s 111 5 = 0) (h1 : sg s = (-1, t)) : mpR sg f m s = t := by
  obtain ⟨n, rfl⟩ : ∃ n, m = n + 1 := ⟨m - 1, by omega⟩
  rw [mpR, if_pos h5, if_pos (by rw [h1]), h1]
def mpdF (rec : St → St) (s : St) : St := mpR mg3 (mo1 rec) 151 (mo1 rec s)
def msuF (rec : St → St) (s : St) : St := mpR mg2 (mpdF rec) 151 (mpdF rec s)
theorem okl_pd {rec : St → St} {op : Int32} (hfr : rcF rec op) : fO (mpdF rec) op := by
  intro s hL ho
  have h1 := okl_1 hL ho hfr
  have h2 := mpR_l mg3_O (fun s hL ho => okl_1 hL ho hfr) 151 _ (okl.pL h1 hL (by omega)) (by rw [h1.2.2.1]; exact ho)
  exact okl.wk (okl.tr h1 h2) (by omega) (by omega)
theorem okl_su {rec : St → St} {op : Int32} (hfr : rcF rec op) : fO (msuF rec) op := by
  intro s hL ho
  have h1 := okl_pd hfr s hL ho
  have h2 := mpR_l mg2_O (okl_pd hfr) 151 _ (okl.pL h1 hL (by omega)) (by rw [h1.2.2.1]; exact ho)
  exact okl.wk (okl.tr h1 h2) (by omega) (by omega)
def msN : Nat → St → St
  | 0 => msuF (fun s => s)
  | n + 1 => msuF (msN n)
theorem msN_f : ∀ (n : Nat) (op : Int32), op = nI (6 - n) → n ≤ 6 → fO (msN n) op := by
  intro n
  induction n with
  | zero => intro op h _; exact okl_su (fun h6 => absurd (show op = 6 from h) h6)
  | succ n ih => intro op h hn; exact okl_su (fun _ => ih (op + 1) (by rw [h, nI_s]; congr 1; omega) (by omega))

set_option maxRecDepth 20000 in
set_option maxHeartbeats 600000 in
theorem c_Mo_one {l : Launch} {G : Gz} (hG : zI G) (σ : St) {kr : Nat} {op : Int32} (hL : pL σ) (ho : σ 111 8 = op) (rec : St → St) (hrec : ¬ op = 6 → ∀ t : St, pL t → t 111 8 = op + 1 → MV l G y_Mo_sum prog_14_method_34_code 2 kr [.ref (G.1 111)] t (rec t)) (hfr : rcF rec op) : MV l G y_Mo_one prog_14_method_38_code 3 (kr + 8) [.ref (G.1 111)] σ (mo1 rec σ) := by
  refine MV.of hG (by decide) (Nat.le_of_ble_eq_true rfl) (fun X hx hq => ?_)
  show J l G X 3 σ 0 [(0, .ref (G.1 111))] []
  refine j_aload_n hx d_Mo_one_0 rfl 0 rfl ?_
  refine j_get hx ck_Mo 5 (by decide) t_1423 (by decide) (sh_111 _ _) rfl d_Mo_one_1 ?_
  refine j_if_eq (tgt := 8) hx d_Mo_one_4 (by decide) (fun zc4 => ?_) (fun zc4 => ?_)
  · skip
    refine j_aload_n hx d_Mo_one_8 rfl 0 rfl ?_
    refine j_callVv hx (c_Mo_blanks hG σ (by exact hL.1)) mo_Mo_blanks mv_Mo_blanks t_1592 (by omega) rfl (by decide) (sh_111 _ _) rfl rfl (Nat.le_of_ble_eq_true rfl) d_Mo_one_9 ?_
    obtain ⟨s9_1, eg_1⟩ : ∃ z : St, z = mbz σ := ⟨_, rfl⟩
    refine J.to (σ' := s9_1) (by rw [eg_1]; exact (if_pos zc4).symm) rfl ?_
    have hpz : pB (mbz σ) := mbz_p hL.1
    have hLz : pL (mbz σ) := okl.pL (mbz_l hL.1) hL (by omega)
    have hoz : mbz σ 111 8 = op := by rw [(mbz_l hL.1).2.2.1]; exact ho
    have hp1 : pB s9_1 := by rw [eg_1]; exact hpz
    refine j_aload_n hx d_Mo_one_12 rfl 0 rfl ?_
    refine j_bipush (v := 12) hx d_Mo_one_13 (by decide) ?_
    refine j_iconst (v := 5) hx d_Mo_one_15 (by decide) ?_
    refine j_iconst (v := 1) hx d_Mo_one_16 (by decide) ?_
    refine j_bipush (v := 19) hx d_Mo_one_17 (by decide) ?_
    refine j_bipush (v := 20) hx d_Mo_one_19 (by decide) ?_
    refine j_iconst (v := 0) hx d_Mo_one_21 (by decide) ?_
    refine j_callVi hx (c_Mo_isWord hG s9_1 12 5 1 19 20 0 (by exact hp1)) mo_Mo_isWord mv_Mo_isWord t_1608 (by omega) rfl (by decide) (sh_111 _ _) rfl rfl (Nat.le_of_ble_eq_true rfl) d_Mo_one_22 ?_
    obtain ⟨s9_2, eg_2⟩ : ∃ z : St, z = mbz σ := ⟨_, rfl⟩
    refine J.to (σ' := s9_2) (by rw [eg_2]; rw [eg_1]; exact mbz_i) rfl ?_
    have hp2 : pB s9_2 := by rw [eg_2]; exact hpz
    refine j_if_eq (tgt := 33) hx d_Mo_one_25 (by decide) (fun zc25 => ?_) (fun zc25 => ?_)
    · skip
      rw [eg_1, b2_mIs] at zc25
      refine j_aload_n hx d_Mo_one_33 rfl 0 rfl ?_
      refine j_bipush (v := 13) hx d_Mo_one_34 (by decide) ?_
      refine j_bipush (v := 15) hx d_Mo_one_36 (by decide) ?_
      refine j_bipush (v := 19) hx d_Mo_one_38 (by decide) ?_
      refine j_bipush (v := 20) hx d_Mo_one_40 (by decide) ?_
      refine j_iconst (v := 0) hx d_Mo_one_42 (by decide) ?_
      refine j_iconst (v := 0) hx d_Mo_one_43 (by decide) ?_
      refine j_callVi hx (c_Mo_isWord hG s9_2 13 15 19 20 0 0 (by exact hp2)) mo_Mo_isWord mv_Mo_isWord t_1608 (by omega) rfl (by decide) (sh_111 _ _) rfl rfl (Nat.le_of_ble_eq_true rfl) d_Mo_one_44 ?_
      obtain ⟨s9_3, eg_3⟩ : ∃ z : St, z = mbz σ := ⟨_, rfl⟩
      refine J.to (σ' := s9_3) (by rw [eg_3]; rw [eg_2]; exact mbz_i) rfl ?_
      have hp3 : pB s9_3 := by rw [eg_3]; exact hpz
      refine j_if_eq (tgt := 55) hx d_Mo_one_47 (by decide) (fun zc47 => ?_) (fun zc47 => ?_)
      · skip
        rw [eg_2, b2_mIs] at zc47
        refine j_iconst (v := (-1)) hx d_Mo_one_55 (by decide) ?_
        refine j_istore_n hx [(1, .int ((-1))), (0, .ref (G.1 111))] d_Mo_one_56 rfl (by decide) rfl ?_
        refine j_iload_n hx d_Mo_one_57 rfl 0 rfl ?_
        refine j_iconst (v := (-1)) hx d_Mo_one_58 (by decide) ?_
        refine j_icmp_eq (tgt := 117) hx d_Mo_one_59 (by decide) (fun _ => ?_) (fun zc59 => absurd (by decide) zc59)
        refine j_aload_n hx d_Mo_one_117 rfl 1 rfl ?_
        refine j_aload_n hx d_Mo_one_118 rfl 1 rfl ?_
        refine j_get hx ck_Mo 4 (by decide) t_1422 (by decide) (sh_111 _ _) rfl d_Mo_one_119 ?_
        refine j_callVi hx (c_Mo_byteAt hG s9_3 (s9_3 111 4) (by exact hp3.1) (by exact hp3.2.2)) mo_Mo_byteAt mv_Mo_byteAt t_1596 (by omega) rfl (by decide) (sh_111 _ _) rfl rfl (Nat.le_of_ble_eq_true rfl) d_Mo_one_122 ?_
        refine j_bipush (v := 40) hx d_Mo_one_125 (by decide) ?_
        refine j_icmp_ne (tgt := 169) hx d_Mo_one_127 (by decide) (fun zc127 => ?_) (fun zc127 => ?_)
        · skip
          rw [eg_3] at zc127
          refine j_aload_n hx d_Mo_one_169 rfl 1 rfl ?_
          refine j_callVi hx (c_Mo_knownHere hG s9_3 (by exact hp3)) mo_Mo_knownHere mv_Mo_knownHere t_1673 (by omega) rfl (by decide) (sh_111 _ _) rfl rfl (Nat.le_of_ble_eq_true rfl) d_Mo_one_170 ?_
          refine j_istore_n hx [(2, .int (mqV s9_3)), (1, .int ((-1))), (0, .ref (G.1 111))] d_Mo_one_173 rfl (by decide) rfl ?_
          refine j_iload_n hx d_Mo_one_174 rfl 0 rfl ?_
          refine j_iconst (v := (-1)) hx d_Mo_one_175 (by decide) ?_
          refine j_icmp_eq (tgt := 188) hx d_Mo_one_176 (by decide) (fun zc176 => ?_) (fun zc176 => ?_)
          · skip
            rw [eg_3] at zc176
            refine j_aload_n hx d_Mo_one_188 rfl 2 rfl ?_
            refine j_iconst (v := 0) hx d_Mo_one_189 (by decide) ?_
            refine j_aload_n hx d_Mo_one_190 rfl 2 rfl ?_
            refine j_iconst (v := 0) hx d_Mo_one_191 (by decide) ?_
            refine j_sipush (v := 999) hx d_Mo_one_192 (by decide) ?_
            refine j_callVi hx (c_Mo_number hG (mqS s9_3) 0 999 (by rw [eg_3]; exact (mq_l0 hpz).1)) mo_Mo_number mv_Mo_number t_1633 (by omega) rfl (by decide) (sh_111 _ _) rfl rfl (Nat.le_of_ble_eq_true rfl) d_Mo_one_195 ?_
            refine j_callVv hx (c_Mo_notes hG (mnS (mqS s9_3) 0 999) 0 (mnV (mqS s9_3) 0 999) (by rw [eg_3]; exact pL_m (okl.pL (okl.tr (mq_l0 hpz) (mnS_l (lo := 0) (hi := 999) (mq_l0 hpz).1)) hLz (by omega)))) mo_Mo_notes mv_Mo_notes t_1669 (by omega) rfl (by decide) (sh_111 _ _) rfl rfl (Nat.le_of_ble_eq_true rfl) d_Mo_one_198 ?_
            exact j_vret hx hq d_Mo_one_201 (by first | (first | (unfold mo1; rw [if_neg zc4]; done) | (have hH : moH σ = 7 := if_neg zc25; unfold mo1; rw [if_pos zc4, if_neg (show ¬ moH σ = -1 by rw [hH]; decide), if_pos zc66]; exact eg_3) | (have hH : moH σ = 7 := if_neg zc25; unfold mo1; rw [if_pos zc4, if_neg (show ¬ moH σ = -1 by rw [hH]; decide), if_neg zc66, hH]; unfold moA; rw [eg_3]; rfl) | (have hH : moH σ = 8 := (by unfold moH; rw [if_pos zc25, if_neg zc47]); unfold mo1; rw [if_pos zc4, if_neg (show ¬ moH σ = -1 by rw [hH]; decide), if_pos zc66]; exact eg_3) | (have hH : moH σ = 8 := (by unfold moH; rw [if_pos zc25, if_neg zc47]); unfold mo1; rw [if_pos zc4, if_neg (show ¬ moH σ = -1 by rw [hH]; decide), if_neg zc66, hH]; unfold moA; rw []; rfl) | (have hH : moH σ = -1 := (by unfold moH; rw [if_pos zc25, if_pos zc47]); unfold mo1; rw [if_pos zc4, if_pos hH, if_pos zc127, if_pos zc134]; exact eg_3) | (have hH : moH σ = -1 := (by unfold moH; rw [if_pos zc25, if_pos zc47]); unfold mo1; rw [if_pos zc4, if_pos hH, if_pos zc127, if_neg zc134]; unfold moP; rw []; rfl) | (have hH : moH σ = -1 := (by unfold moH; rw [if_pos zc25, if_pos zc47]); unfold mo1; rw [if_pos zc4, if_pos hH, if_neg zc127]; unfold moK; rw [if_pos zc176, eg_3]; done) | (have hH : moH σ = -1 := (by unfold moH; rw [if_pos zc25, if_pos zc47]); unfold mo1; rw [if_pos zc4, if_pos hH, if_neg zc127]; unfold moK; rw [if_neg zc176, eg_3]; done)) | fail)
          · skip
            rw [eg_3] at zc176
            refine j_aload_n hx d_Mo_one_179 rfl 2 rfl ?_
            refine j_iconst (v := 1) hx d_Mo_one_180 (by decide) ?_
            refine j_iload_n hx d_Mo_one_181 rfl 0 rfl ?_
            refine j_callVv hx (c_Mo_notes hG (mqS s9_3) 1 (mqV s9_3) (by rw [eg_3]; exact pL_m (okl.pL (mq_l0 hpz) hLz (by omega)))) mo_Mo_notes mv_Mo_notes t_1669 (by omega) rfl (by decide) (sh_111 _ _) rfl rfl (Nat.le_of_ble_eq_true rfl) d_Mo_one_182 ?_
            refine j_goto (tgt := 201) hx d_Mo_one_185 (by decide) ?_
            exact j_vret hx hq d_Mo_one_201 (by first | (first | (unfold mo1; rw [if_neg zc4]; done) | (have hH : moH σ = 7 := if_neg zc25; unfold mo1; rw [if_pos zc4, if_neg (show ¬ moH σ = -1 by rw [hH]; decide), if_pos zc66]; exact eg_3) | (have hH : moH σ = 7 := if_neg zc25; unfold mo1; rw [if_pos zc4, if_neg (show ¬ moH σ = -1 by rw [hH]; decide), if_neg zc66, hH]; unfold moA; rw [eg_3]; rfl) | (have hH : moH σ = 8 := (by unfold moH; rw [if_pos zc25, if_neg zc47]); unfold mo1; rw [if_pos zc4, if_neg (show ¬ moH σ = -1 by rw [hH]; decide), if_pos zc66]; exact eg_3) | (have hH : moH σ = 8 := (by unfold moH; rw [if_pos zc25, if_neg zc47]); unfold mo1; rw [if_pos zc4, if_neg (show ¬ moH σ = -1 by rw [hH]; decide), if_neg zc66, hH]; unfold moA; rw []; rfl) | (have hH : moH σ = -1 := (by unfold moH; rw [if_pos zc25, if_pos zc47]); unfold mo1; rw [if_pos zc4, if_pos hH, if_pos zc127, if_pos zc134]; exact eg_3) | (have hH : moH σ = -1 := (by unfold moH; rw [if_pos zc25, if_pos zc47]); unfold mo1; rw [if_pos zc4, if_pos hH, if_pos zc127, if_neg zc134]; unfold moP; rw []; rfl) | (have hH : moH σ = -1 := (by unfold moH; rw [if_pos zc25, if_pos zc47]); unfold mo1; rw [if_pos zc4, if_pos hH, if_neg zc127]; unfold moK; rw [if_pos zc176, eg_3]; done) | (have hH : moH σ = -1 := (by unfold moH; rw [if_pos zc25, if_pos zc47]); unfold mo1; rw [if_pos zc4, if_pos hH, if_neg zc127]; unfold moK; rw [if_neg zc176, eg_3]; done)) | fail)
        · skip
          rw [eg_3] at zc127
          refine j_aload_n hx d_Mo_one_130 rfl 1 rfl ?_
          refine j_callVi hx (c_Mo_opensOne hG s9_3) mo_Mo_opensOne mv_Mo_opensOne t_1665 (by omega) rfl (by decide) (sh_111 _ _) rfl rfl (Nat.le_of_ble_eq_true rfl) d_Mo_one_131 ?_
          obtain ⟨s9_4, eg_4⟩ : ∃ z : St, z = mop (mbz σ) := ⟨_, rfl⟩
          refine J.to (σ' := s9_4) (by rw [eg_4]; rw [eg_3]) rfl ?_
          refine j_if_ne (tgt := 138) hx d_Mo_one_134 (by decide) (fun zc134 => ?_) (fun zc134 => ?_)
          · skip
            rw [eg_3] at zc134
            have hn6 : ¬ op = 6 := by rw [← hoz]; exact (mop_1 zc134).2.1
            have hL4 : pL s9_4 := by rw [eg_4]; exact (mop_L hLz zc134).1
            have ho4 : s9_4 111 8 = op + 1 := by rw [eg_4, (mop_L hLz zc134).2, hoz]
            refine j_aload_n hx d_Mo_one_138 rfl 1 rfl ?_
            refine j_dup hx d_Mo_one_139 rfl ?_
            refine j_get hx ck_Mo 4 (by decide) t_1422 (by decide) (sh_111 _ _) rfl d_Mo_one_140 ?_
            refine j_iconst (v := 1) hx d_Mo_one_143 (by decide) ?_
            refine j_iadd hx d_Mo_one_144 ?_
            refine j_put hx ck_Mo 4 (by decide) t_1422 (by decide) (sh_111 _ _) rfl (Nat.le_of_ble_eq_true rfl) (sh_111 _ _) d_Mo_one_145 ?_
            obtain ⟨s9_5, eg_5⟩ : ∃ z : St, z = at1 s9_4 := ⟨_, rfl⟩
            refine J.to (σ' := s9_5) (by rw [eg_5]; first | done | rfl) rfl ?_
            have hk5 := at1_l hL4.1 (show mbt (s9_4 111 2) (s9_4 112) (s9_4 111 4) = 40 by rw [eg_4, (mop_1 zc134).2.2, up_k (by decide), up_k (by decide), up_o (by decide)]; exact zc127) (by decide)
            have hL5 : pL s9_5 := by rw [eg_5]; exact okl.pL hk5 hL4 (by omega)
            have ho5 : s9_5 111 8 = op + 1 := by rw [eg_5, hk5.2.2.1]; exact ho4
            refine j_aload_n hx d_Mo_one_148 rfl 1 rfl ?_
            refine j_callVv hx (hrec hn6 s9_5 hL5 ho5) mo_Mo_sum mv_Mo_sum t_1653 (by omega) rfl (by decide) (sh_111 _ _) rfl rfl (Nat.le_of_ble_eq_true rfl) d_Mo_one_149 ?_
            obtain ⟨s9_6, eg_6⟩ : ∃ z : St, z = rec s9_5 := ⟨_, rfl⟩
            refine J.to (σ' := s9_6) (by rw [eg_6]; first | done | rfl) rfl ?_
            have hk6 := hfr hn6 s9_5 hL5 ho5
            have hL6 : pL s9_6 := by rw [eg_6]; exact okl.pL hk6 hL5 (by omega)
            have ho6 : s9_6 111 8 = op + 1 := by rw [eg_6, hk6.2.2.1]; exact ho5
            refine j_aload_n hx d_Mo_one_152 rfl 1 rfl ?_
            refine j_bipush (v := 41) hx d_Mo_one_153 (by decide) ?_
            refine j_callVv hx (c_Mo_sign hG s9_6 41 (by exact hL6.1)) mo_Mo_sign mv_Mo_sign t_1641 (by omega) rfl (by decide) (sh_111 _ _) rfl rfl (Nat.le_of_ble_eq_true rfl) d_Mo_one_155 ?_
            obtain ⟨s9_7, eg_7⟩ : ∃ z : St, z = msg s9_6 41 := ⟨_, rfl⟩
            refine J.to (σ' := s9_7) (by rw [eg_7]; first | done | rfl) rfl ?_
            refine j_aload_n hx d_Mo_one_158 rfl 1 rfl ?_
            refine j_dup hx d_Mo_one_159 rfl ?_
            refine j_get hx ck_Mo 8 (by decide) t_1426 (by decide) (sh_111 _ _) rfl d_Mo_one_160 ?_
            refine j_iconst (v := 1) hx d_Mo_one_163 (by decide) ?_
            refine j_isub hx d_Mo_one_164 ?_
            refine j_put hx ck_Mo 8 (by decide) t_1426 (by decide) (sh_111 _ _) rfl (Nat.le_of_ble_eq_true rfl) (sh_111 _ _) d_Mo_one_165 ?_
            exact j_vret hx hq d_Mo_one_168 (by first | (first | (unfold mo1; rw [if_neg zc4]; done) | (have hH : moH σ = 7 := if_neg zc25; unfold mo1; rw [if_pos zc4, if_neg (show ¬ moH σ = -1 by rw [hH]; decide), if_pos zc66]; exact eg_7) | (have hH : moH σ = 7 := if_neg zc25; unfold mo1; rw [if_pos zc4, if_neg (show ¬ moH σ = -1 by rw [hH]; decide), if_neg zc66, hH]; unfold moA; rw [eg_7, eg_6, eg_5, eg_4, eg_3]; rfl) | (have hH : moH σ = 8 := (by unfold moH; rw [if_pos zc25, if_neg zc47]); unfold mo1; rw [if_pos zc4, if_neg (show ¬ moH σ = -1 by rw [hH]; decide), if_pos zc66]; exact eg_7) | (have hH : moH σ = 8 := (by unfold moH; rw [if_pos zc25, if_neg zc47]); unfold mo1; rw [if_pos zc4, if_neg (show ¬ moH σ = -1 by rw [hH]; decide), if_neg zc66, hH]; unfold moA; rw [eg_7, eg_6, eg_5, eg_4]; rfl) | (have hH : moH σ = -1 := (by unfold moH; rw [if_pos zc25, if_pos zc47]); unfold mo1; rw [if_pos zc4, if_pos hH, if_pos zc127, if_pos zc134]; exact eg_7) | (have hH : moH σ = -1 := (by unfold moH; rw [if_pos zc25, if_pos zc47]); unfold mo1; rw [if_pos zc4, if_pos hH, if_pos zc127, if_neg zc134]; unfold moP; rw [eg_7, eg_6, eg_5, eg_4]; rfl) | (have hH : moH σ = -1 := (by unfold moH; rw [if_pos zc25, if_pos zc47]); unfold mo1; rw [if_pos zc4, if_pos hH, if_neg zc127]; unfold moK; rw [if_pos zc176, eg_3]; done) | (have hH : moH σ = -1 := (by unfold moH; rw [if_pos zc25, if_pos zc47]); unfold mo1; rw [if_pos zc4, if_pos hH, if_neg zc127]; unfold moK; rw [if_neg zc176, eg_3]; done)) | fail)
          · skip
            rw [eg_3] at zc134
            exact j_vret hx hq d_Mo_one_137 (by first | (first | (unfold mo1; rw [if_neg zc4]; done) | (have hH : moH σ = 7 := if_neg zc25; unfold mo1; rw [if_pos zc4, if_neg (show ¬ moH σ = -1 by rw [hH]; decide), if_pos zc66]; exact eg_4) | (have hH : moH σ = 7 := if_neg zc25; unfold mo1; rw [if_pos zc4, if_neg (show ¬ moH σ = -1 by rw [hH]; decide), if_neg zc66, hH]; unfold moA; rw [eg_4, eg_3]; rfl) | (have hH : moH σ = 8 := (by unfold moH; rw [if_pos zc25, if_neg zc47]); unfold mo1; rw [if_pos zc4, if_neg (show ¬ moH σ = -1 by rw [hH]; decide), if_pos zc66]; exact eg_4) | (have hH : moH σ = 8 := (by unfold moH; rw [if_pos zc25, if_neg zc47]); unfold mo1; rw [if_pos zc4, if_neg (show ¬ moH σ = -1 by rw [hH]; decide), if_neg zc66, hH]; unfold moA; rw [eg_4]; rfl) | (have hH : moH σ = -1 := (by unfold moH; rw [if_pos zc25, if_pos zc47]); unfold mo1; rw [if_pos zc4, if_pos hH, if_pos zc127, if_pos zc134]; exact eg_4) | (have hH : moH σ = -1 := (by unfold moH; rw [if_pos zc25, if_pos zc47]); unfold mo1; rw [if_pos zc4, if_pos hH, if_pos zc127, if_neg zc134]; unfold moP; rw [eg_4]; rfl) | (have hH : moH σ = -1 := (by unfold moH; rw [if_pos zc25, if_pos zc47]); unfold mo1; rw [if_pos zc4, if_pos hH, if_neg zc127]; unfold moK; rw [if_pos zc176, eg_3]; done) | (have hH : moH σ = -1 := (by unfold moH; rw [if_pos zc25, if_pos zc47]); unfold mo1; rw [if_pos zc4, if_pos hH, if_neg zc127]; unfold moK; rw [if_neg zc176, eg_3]; done)) | fail)
      · skip
        rw [eg_2, b2_mIs] at zc47
        refine j_bipush (v := 8) hx d_Mo_one_50 (by decide) ?_
        refine j_goto (tgt := 56) hx d_Mo_one_52 (by decide) ?_
        refine j_istore_n hx [(1, .int 8), (0, .ref (G.1 111))] d_Mo_one_56 rfl (by decide) rfl ?_
        refine j_iload_n hx d_Mo_one_57 rfl 0 rfl ?_
        refine j_iconst (v := (-1)) hx d_Mo_one_58 (by decide) ?_
        refine j_icmp_eq (tgt := 117) hx d_Mo_one_59 (by decide) (fun zc59 => absurd zc59 (by decide)) (fun _ => ?_)
        refine j_aload_n hx d_Mo_one_62 rfl 1 rfl ?_
        refine j_callVi hx (c_Mo_opensOne hG s9_3) mo_Mo_opensOne mv_Mo_opensOne t_1665 (by omega) rfl (by decide) (sh_111 _ _) rfl rfl (Nat.le_of_ble_eq_true rfl) d_Mo_one_63 ?_
        obtain ⟨s9_4, eg_4⟩ : ∃ z : St, z = mop (mbz σ) := ⟨_, rfl⟩
        refine J.to (σ' := s9_4) (by rw [eg_4]; rw [eg_3]) rfl ?_
        refine j_if_ne (tgt := 70) hx d_Mo_one_66 (by decide) (fun zc66 => ?_) (fun zc66 => ?_)
        · skip
          first | rw [eg_3] at zc66 | rw [eg_2] at zc66
          have hn6 : ¬ op = 6 := by rw [← hoz]; exact (mop_1 zc66).2.1
          have hL4 : pL s9_4 := by rw [eg_4]; exact (mop_L hLz zc66).1
          have ho4 : s9_4 111 8 = op + 1 := by rw [eg_4, (mop_L hLz zc66).2, hoz]
          refine j_aload_n hx d_Mo_one_70 rfl 1 rfl ?_
          refine j_callVv hx (c_Mo_skipWord hG s9_4 (by exact hL4.1)) mo_Mo_skipWord mv_Mo_skipWord t_1629 (by omega) rfl (by decide) (sh_111 _ _) rfl rfl (Nat.le_of_ble_eq_true rfl) d_Mo_one_71 ?_
          obtain ⟨s9_5, eg_5⟩ : ∃ z : St, z = msk s9_4 := ⟨_, rfl⟩
          refine J.to (σ' := s9_5) (by rw [eg_5]; first | done | rfl) rfl ?_
          have hk5 := msk_l hL4.1
          have hL5 : pL s9_5 := by rw [eg_5]; exact okl.pL hk5 hL4 (by omega)
          have ho5 : s9_5 111 8 = op + 1 := by rw [eg_5, hk5.2.2.1]; exact ho4
          refine j_aload_n hx d_Mo_one_74 rfl 1 rfl ?_
          refine j_bipush (v := 91) hx d_Mo_one_75 (by decide) ?_
          refine j_callVv hx (c_Mo_sign hG s9_5 91 (by exact hL5.1)) mo_Mo_sign mv_Mo_sign t_1641 (by omega) rfl (by decide) (sh_111 _ _) rfl rfl (Nat.le_of_ble_eq_true rfl) d_Mo_one_77 ?_
          obtain ⟨s9_6, eg_6⟩ : ∃ z : St, z = msg s9_5 91 := ⟨_, rfl⟩
          refine J.to (σ' := s9_6) (by rw [eg_6]; first | done | rfl) rfl ?_
          have hk6 := msg_l (c := 91) hL5.1 (by decide)
          have hL6 : pL s9_6 := by rw [eg_6]; exact okl.pL hk6 hL5 (by omega)
          have ho6 : s9_6 111 8 = op + 1 := by rw [eg_6, hk6.2.2.1]; exact ho5
          refine j_aload_n hx d_Mo_one_80 rfl 1 rfl ?_
          refine j_callVv hx (hrec hn6 s9_6 hL6 ho6) mo_Mo_sum mv_Mo_sum t_1653 (by omega) rfl (by decide) (sh_111 _ _) rfl rfl (Nat.le_of_ble_eq_true rfl) d_Mo_one_81 ?_
          obtain ⟨s9_7, eg_7⟩ : ∃ z : St, z = rec s9_6 := ⟨_, rfl⟩
          refine J.to (σ' := s9_7) (by rw [eg_7]; first | done | rfl) rfl ?_
          have hk7 := hfr hn6 s9_6 hL6 ho6
          have hL7 : pL s9_7 := by rw [eg_7]; exact okl.pL hk7 hL6 (by omega)
          have ho7 : s9_7 111 8 = op + 1 := by rw [eg_7, hk7.2.2.1]; exact ho6
          refine j_aload_n hx d_Mo_one_84 rfl 1 rfl ?_
          refine j_bipush (v := 44) hx d_Mo_one_85 (by decide) ?_
          refine j_callVv hx (c_Mo_sign hG s9_7 44 (by exact hL7.1)) mo_Mo_sign mv_Mo_sign t_1641 (by omega) rfl (by decide) (sh_111 _ _) rfl rfl (Nat.le_of_ble_eq_true rfl) d_Mo_one_87 ?_
          obtain ⟨s9_8, eg_8⟩ : ∃ z : St, z = msg s9_7 44 := ⟨_, rfl⟩
          refine J.to (σ' := s9_8) (by rw [eg_8]; first | done | rfl) rfl ?_
          have hk8 := msg_l (c := 44) hL7.1 (by decide)
          have hL8 : pL s9_8 := by rw [eg_8]; exact okl.pL hk8 hL7 (by omega)
          have ho8 : s9_8 111 8 = op + 1 := by rw [eg_8, hk8.2.2.1]; exact ho7
          refine j_aload_n hx d_Mo_one_90 rfl 1 rfl ?_
          refine j_callVv hx (hrec hn6 s9_8 hL8 ho8) mo_Mo_sum mv_Mo_sum t_1653 (by omega) rfl (by decide) (sh_111 _ _) rfl rfl (Nat.le_of_ble_eq_true rfl) d_Mo_one_91 ?_
          obtain ⟨s9_9, eg_9⟩ : ∃ z : St, z = rec s9_8 := ⟨_, rfl⟩
          refine J.to (σ' := s9_9) (by rw [eg_9]; first | done | rfl) rfl ?_
          have hk9 := hfr hn6 s9_8 hL8 ho8
          have hL9 : pL s9_9 := by rw [eg_9]; exact okl.pL hk9 hL8 (by omega)
          have ho9 : s9_9 111 8 = op + 1 := by rw [eg_9, hk9.2.2.1]; exact ho8
          refine j_aload_n hx d_Mo_one_94 rfl 1 rfl ?_
          refine j_bipush (v := 93) hx d_Mo_one_95 (by decide) ?_
          refine j_callVv hx (c_Mo_sign hG s9_9 93 (by exact hL9.1)) mo_Mo_sign mv_Mo_sign t_1641 (by omega) rfl (by decide) (sh_111 _ _) rfl rfl (Nat.le_of_ble_eq_true rfl) d_Mo_one_97 ?_
          obtain ⟨s9_10, eg_10⟩ : ∃ z : St, z = msg s9_9 93 := ⟨_, rfl⟩
          refine J.to (σ' := s9_10) (by rw [eg_10]; first | done | rfl) rfl ?_
          have hk10 := msg_l (c := 93) hL9.1 (by decide)
          have hL10 : pL s9_10 := by rw [eg_10]; exact okl.pL hk10 hL9 (by omega)
          have ho10 : s9_10 111 8 = op + 1 := by rw [eg_10, hk10.2.2.1]; exact ho9
          refine j_aload_n hx d_Mo_one_100 rfl 1 rfl ?_
          refine j_iload_n hx d_Mo_one_101 rfl 0 rfl ?_
          refine j_iconst (v := 0) hx d_Mo_one_102 (by decide) ?_
          refine j_callVv hx (c_Mo_notes hG s9_10 8 0 (by exact pL_m hL10)) mo_Mo_notes mv_Mo_notes t_1669 (by omega) rfl (by decide) (sh_111 _ _) rfl rfl (Nat.le_of_ble_eq_true rfl) d_Mo_one_103 ?_
          obtain ⟨s9_11, eg_11⟩ : ∃ z : St, z = mnt s9_10 8 0 := ⟨_, rfl⟩
          refine J.to (σ' := s9_11) (by rw [eg_11]; first | done | rfl) rfl ?_
          refine j_aload_n hx d_Mo_one_106 rfl 1 rfl ?_
          refine j_dup hx d_Mo_one_107 rfl ?_
          refine j_get hx ck_Mo 8 (by decide) t_1426 (by decide) (sh_111 _ _) rfl d_Mo_one_108 ?_
          refine j_iconst (v := 1) hx d_Mo_one_111 (by decide) ?_
          refine j_isub hx d_Mo_one_112 ?_
          refine j_put hx ck_Mo 8 (by decide) t_1426 (by decide) (sh_111 _ _) rfl (Nat.le_of_ble_eq_true rfl) (sh_111 _ _) d_Mo_one_113 ?_
          exact j_vret hx hq d_Mo_one_116 (by first | (first | (unfold mo1; rw [if_neg zc4]; done) | (have hH : moH σ = 7 := if_neg zc25; unfold mo1; rw [if_pos zc4, if_neg (show ¬ moH σ = -1 by rw [hH]; decide), if_pos zc66]; exact eg_11) | (have hH : moH σ = 7 := if_neg zc25; unfold mo1; rw [if_pos zc4, if_neg (show ¬ moH σ = -1 by rw [hH]; decide), if_neg zc66, hH]; unfold moA; rw [eg_11, eg_10, eg_9, eg_8, eg_7, eg_6, eg_5, eg_4, eg_3]; rfl) | (have hH : moH σ = 8 := (by unfold moH; rw [if_pos zc25, if_neg zc47]); unfold mo1; rw [if_pos zc4, if_neg (show ¬ moH σ = -1 by rw [hH]; decide), if_pos zc66]; exact eg_11) | (have hH : moH σ = 8 := (by unfold moH; rw [if_pos zc25, if_neg zc47]); unfold mo1; rw [if_pos zc4, if_neg (show ¬ moH σ = -1 by rw [hH]; decide), if_neg zc66, hH]; unfold moA; rw [eg_11, eg_10, eg_9, eg_8, eg_7, eg_6, eg_5, eg_4]; rfl) | (have hH : moH σ = -1 := (by unfold moH; rw [if_pos zc25, if_pos zc47]); unfold mo1; rw [if_pos zc4, if_pos hH, if_pos zc127, if_pos zc134]; exact eg_11) | (have hH : moH σ = -1 := (by unfold moH; rw [if_pos zc25, if_pos zc47]); unfold mo1; rw [if_pos zc4, if_pos hH, if_pos zc127, if_neg zc134]; unfold moP; rw [eg_11, eg_10, eg_9, eg_8, eg_7, eg_6, eg_5, eg_4]; rfl) | (have hH : moH σ = -1 := (by unfold moH; rw [if_pos zc25, if_pos zc47]); unfold mo1; rw [if_pos zc4, if_pos hH, if_neg zc127]; unfold moK; rw [if_pos zc176, eg_3]; done) | (have hH : moH σ = -1 := (by unfold moH; rw [if_pos zc25, if_pos zc47]); unfold mo1; rw [if_pos zc4, if_pos hH, if_neg zc127]; unfold moK; rw [if_neg zc176, eg_3]; done)) | fail)
        · skip
          first | rw [eg_3] at zc66 | rw [eg_2] at zc66
          exact j_vret hx hq d_Mo_one_69 (by first | (first | (unfold mo1; rw [if_neg zc4]; done) | (have hH : moH σ = 7 := if_neg zc25; unfold mo1; rw [if_pos zc4, if_neg (show ¬ moH σ = -1 by rw [hH]; decide), if_pos zc66]; exact eg_4) | (have hH : moH σ = 7 := if_neg zc25; unfold mo1; rw [if_pos zc4, if_neg (show ¬ moH σ = -1 by rw [hH]; decide), if_neg zc66, hH]; unfold moA; rw [eg_4, eg_3]; rfl) | (have hH : moH σ = 8 := (by unfold moH; rw [if_pos zc25, if_neg zc47]); unfold mo1; rw [if_pos zc4, if_neg (show ¬ moH σ = -1 by rw [hH]; decide), if_pos zc66]; exact eg_4) | (have hH : moH σ = 8 := (by unfold moH; rw [if_pos zc25, if_neg zc47]); unfold mo1; rw [if_pos zc4, if_neg (show ¬ moH σ = -1 by rw [hH]; decide), if_neg zc66, hH]; unfold moA; rw [eg_4]; rfl) | (have hH : moH σ = -1 := (by unfold moH; rw [if_pos zc25, if_pos zc47]); unfold mo1; rw [if_pos zc4, if_pos hH, if_pos zc127, if_pos zc134]; exact eg_4) | (have hH : moH σ = -1 := (by unfold moH; rw [if_pos zc25, if_pos zc47]); unfold mo1; rw [if_pos zc4, if_pos hH, if_pos zc127, if_neg zc134]; unfold moP; rw [eg_4]; rfl) | (have hH : moH σ = -1 := (by unfold moH; rw [if_pos zc25, if_pos zc47]); unfold mo1; rw [if_pos zc4, if_pos hH, if_neg zc127]; unfold moK; rw [if_pos zc176, eg_3]; done) | (have hH : moH σ = -1 := (by unfold moH; rw [if_pos zc25, if_pos zc47]); unfold mo1; rw [if_pos zc4, if_pos hH, if_neg zc127]; unfold moK; rw [if_neg zc176, eg_3]; done)) | fail)
    · skip
      rw [eg_1, b2_mIs] at zc25
      refine j_bipush (v := 7) hx d_Mo_one_28 (by decide) ?_
      refine j_goto (tgt := 56) hx d_Mo_one_30 (by decide) ?_
      refine j_istore_n hx [(1, .int 7), (0, .ref (G.1 111))] d_Mo_one_56 rfl (by decide) rfl ?_
      refine j_iload_n hx d_Mo_one_57 rfl 0 rfl ?_
      refine j_iconst (v := (-1)) hx d_Mo_one_58 (by decide) ?_
      refine j_icmp_eq (tgt := 117) hx d_Mo_one_59 (by decide) (fun zc59 => absurd zc59 (by decide)) (fun _ => ?_)
      refine j_aload_n hx d_Mo_one_62 rfl 1 rfl ?_
      refine j_callVi hx (c_Mo_opensOne hG s9_2) mo_Mo_opensOne mv_Mo_opensOne t_1665 (by omega) rfl (by decide) (sh_111 _ _) rfl rfl (Nat.le_of_ble_eq_true rfl) d_Mo_one_63 ?_
      obtain ⟨s9_3, eg_3⟩ : ∃ z : St, z = mop (mbz σ) := ⟨_, rfl⟩
      refine J.to (σ' := s9_3) (by rw [eg_3]; rw [eg_2]) rfl ?_
      refine j_if_ne (tgt := 70) hx d_Mo_one_66 (by decide) (fun zc66 => ?_) (fun zc66 => ?_)
      · skip
        first | rw [eg_3] at zc66 | rw [eg_2] at zc66
        have hn6 : ¬ op = 6 := by rw [← hoz]; exact (mop_1 zc66).2.1
        have hL3 : pL s9_3 := by rw [eg_3]; exact (mop_L hLz zc66).1
        have ho3 : s9_3 111 8 = op + 1 := by rw [eg_3, (mop_L hLz zc66).2, hoz]
        refine j_aload_n hx d_Mo_one_70 rfl 1 rfl ?_
        refine j_callVv hx (c_Mo_skipWord hG s9_3 (by exact hL3.1)) mo_Mo_skipWord mv_Mo_skipWord t_1629 (by omega) rfl (by decide) (sh_111 _ _) rfl rfl (Nat.le_of_ble_eq_true rfl) d_Mo_one_71 ?_
        obtain ⟨s9_4, eg_4⟩ : ∃ z : St, z = msk s9_3 := ⟨_, rfl⟩
        refine J.to (σ' := s9_4) (by rw [eg_4]; first | done | rfl) rfl ?_
        have hk4 := msk_l hL3.1
        have hL4 : pL s9_4 := by rw [eg_4]; exact okl.pL hk4 hL3 (by omega)
        have ho4 : s9_4 111 8 = op + 1 := by rw [eg_4, hk4.2.2.1]; exact ho3
        refine j_aload_n hx d_Mo_one_74 rfl 1 rfl ?_
        refine j_bipush (v := 91) hx d_Mo_one_75 (by decide) ?_
        refine j_callVv hx (c_Mo_sign hG s9_4 91 (by exact hL4.1)) mo_Mo_sign mv_Mo_sign t_1641 (by omega) rfl (by decide) (sh_111 _ _) rfl rfl (Nat.le_of_ble_eq_true rfl) d_Mo_one_77 ?_
        obtain ⟨s9_5, eg_5⟩ : ∃ z : St, z = msg s9_4 91 := ⟨_, rfl⟩
        refine J.to (σ' := s9_5) (by rw [eg_5]; first | done | rfl) rfl ?_
        have hk5 := msg_l (c := 91) hL4.1 (by decide)
        have hL5 : pL s9_5 := by rw [eg_5]; exact okl.pL hk5 hL4 (by omega)
        have ho5 : s9_5 111 8 = op + 1 := by rw [eg_5, hk5.2.2.1]; exact ho4
        refine j_aload_n hx d_Mo_one_80 rfl 1 rfl ?_
        refine j_callVv hx (hrec hn6 s9_5 hL5 ho5) mo_Mo_sum mv_Mo_sum t_1653 (by omega) rfl (by decide) (sh_111 _ _) rfl rfl (Nat.le_of_ble_eq_true rfl) d_Mo_one_81 ?_
        obtain ⟨s9_6, eg_6⟩ : ∃ z : St, z = rec s9_5 := ⟨_, rfl⟩
        refine J.to (σ' := s9_6) (by rw [eg_6]; first | done | rfl) rfl ?_
        have hk6 := hfr hn6 s9_5 hL5 ho5
        have hL6 : pL s9_6 := by rw [eg_6]; exact okl.pL hk6 hL5 (by omega)
        have ho6 : s9_6 111 8 = op + 1 := by rw [eg_6, hk6.2.2.1]; exact ho5
        refine j_aload_n hx d_Mo_one_84 rfl 1 rfl ?_
        refine j_bipush (v := 44) hx d_Mo_one_85 (by decide) ?_
        refine j_callVv hx (c_Mo_sign hG s9_6 44 (by exact hL6.1)) mo_Mo_sign mv_Mo_sign t_1641 (by omega) rfl (by decide) (sh_111 _ _) rfl rfl (Nat.le_of_ble_eq_true rfl) d_Mo_one_87 ?_
        obtain ⟨s9_7, eg_7⟩ : ∃ z : St, z = msg s9_6 44 := ⟨_, rfl⟩
        refine J.to (σ' := s9_7) (by rw [eg_7]; first | done | rfl) rfl ?_
        have hk7 := msg_l (c := 44) hL6.1 (by decide)
        have hL7 : pL s9_7 := by rw [eg_7]; exact okl.pL hk7 hL6 (by omega)
        have ho7 : s9_7 111 8 = op + 1 := by rw [eg_7, hk7.2.2.1]; exact ho6
        refine j_aload_n hx d_Mo_one_90 rfl 1 rfl ?_
        refine j_callVv hx (hrec hn6 s9_7 hL7 ho7) mo_Mo_sum mv_Mo_sum t_1653 (by omega) rfl (by decide) (sh_111 _ _) rfl rfl (Nat.le_of_ble_eq_true rfl) d_Mo_one_91 ?_
        obtain ⟨s9_8, eg_8⟩ : ∃ z : St, z = rec s9_7 := ⟨_, rfl⟩
        refine J.to (σ' := s9_8) (by rw [eg_8]; first | done | rfl) rfl ?_
        have hk8 := hfr hn6 s9_7 hL7 ho7
        have hL8 : pL s9_8 := by rw [eg_8]; exact okl.pL hk8 hL7 (by omega)
        have ho8 : s9_8 111 8 = op + 1 := by rw [eg_8, hk8.2.2.1]; exact ho7
        refine j_aload_n hx d_Mo_one_94 rfl 1 rfl ?_
        refine j_bipush (v := 93) hx d_Mo_one_95 (by decide) ?_
        refine j_callVv hx (c_Mo_sign hG s9_8 93 (by exact hL8.1)) mo_Mo_sign mv_Mo_sign t_1641 (by omega) rfl (by decide) (sh_111 _ _) rfl rfl (Nat.le_of_ble_eq_true rfl) d_Mo_one_97 ?_
        obtain ⟨s9_9, eg_9⟩ : ∃ z : St, z = msg s9_8 93 := ⟨_, rfl⟩
        refine J.to (σ' := s9_9) (by rw [eg_9]; first | done | rfl) rfl ?_
        have hk9 := msg_l (c := 93) hL8.1 (by decide)
        have hL9 : pL s9_9 := by rw [eg_9]; exact okl.pL hk9 hL8 (by omega)
        have ho9 : s9_9 111 8 = op + 1 := by rw [eg_9, hk9.2.2.1]; exact ho8
        refine j_aload_n hx d_Mo_one_100 rfl 1 rfl ?_
        refine j_iload_n hx d_Mo_one_101 rfl 0 rfl ?_
        refine j_iconst (v := 0) hx d_Mo_one_102 (by decide) ?_
        refine j_callVv hx (c_Mo_notes hG s9_9 7 0 (by exact pL_m hL9)) mo_Mo_notes mv_Mo_notes t_1669 (by omega) rfl (by decide) (sh_111 _ _) rfl rfl (Nat.le_of_ble_eq_true rfl) d_Mo_one_103 ?_
        obtain ⟨s9_10, eg_10⟩ : ∃ z : St, z = mnt s9_9 7 0 := ⟨_, rfl⟩
        refine J.to (σ' := s9_10) (by rw [eg_10]; first | done | rfl) rfl ?_
        refine j_aload_n hx d_Mo_one_106 rfl 1 rfl ?_
        refine j_dup hx d_Mo_one_107 rfl ?_
        refine j_get hx ck_Mo 8 (by decide) t_1426 (by decide) (sh_111 _ _) rfl d_Mo_one_108 ?_
        refine j_iconst (v := 1) hx d_Mo_one_111 (by decide) ?_
        refine j_isub hx d_Mo_one_112 ?_
        refine j_put hx ck_Mo 8 (by decide) t_1426 (by decide) (sh_111 _ _) rfl (Nat.le_of_ble_eq_true rfl) (sh_111 _ _) d_Mo_one_113 ?_
        exact j_vret hx hq d_Mo_one_116 (by first | (first | (unfold mo1; rw [if_neg zc4]; done) | (have hH : moH σ = 7 := if_neg zc25; unfold mo1; rw [if_pos zc4, if_neg (show ¬ moH σ = -1 by rw [hH]; decide), if_pos zc66]; exact eg_10) | (have hH : moH σ = 7 := if_neg zc25; unfold mo1; rw [if_pos zc4, if_neg (show ¬ moH σ = -1 by rw [hH]; decide), if_neg zc66, hH]; unfold moA; rw [eg_10, eg_9, eg_8, eg_7, eg_6, eg_5, eg_4, eg_3]; rfl) | (have hH : moH σ = 8 := (by unfold moH; rw [if_pos zc25, if_neg zc47]); unfold mo1; rw [if_pos zc4, if_neg (show ¬ moH σ = -1 by rw [hH]; decide), if_pos zc66]; exact eg_10) | (have hH : moH σ = 8 := (by unfold moH; rw [if_pos zc25, if_neg zc47]); unfold mo1; rw [if_pos zc4, if_neg (show ¬ moH σ = -1 by rw [hH]; decide), if_neg zc66, hH]; unfold moA; rw [eg_10, eg_9, eg_8, eg_7, eg_6, eg_5, eg_4]; rfl) | (have hH : moH σ = -1 := (by unfold moH; rw [if_pos zc25, if_pos zc47]); unfold mo1; rw [if_pos zc4, if_pos hH, if_pos zc127, if_pos zc134]; exact eg_10) | (have hH : moH σ = -1 := (by unfold moH; rw [if_pos zc25, if_pos zc47]); unfold mo1; rw [if_pos zc4, if_pos hH, if_pos zc127, if_neg zc134]; unfold moP; rw [eg_10, eg_9, eg_8, eg_7, eg_6, eg_5, eg_4]; rfl) | (have hH : moH σ = -1 := (by unfold moH; rw [if_pos zc25, if_pos zc47]); unfold mo1; rw [if_pos zc4, if_pos hH, if_neg zc127]; unfold moK; rw [if_pos zc176, eg_3]; done) | (have hH : moH σ = -1 := (by unfold moH; rw [if_pos zc25, if_pos zc47]); unfold mo1; rw [if_pos zc4, if_pos hH, if_neg zc127]; unfold moK; rw [if_neg zc176, eg_3]; done)) | fail)
      · skip
        first | rw [eg_3] at zc66 | rw [eg_2] at zc66
        exact j_vret hx hq d_Mo_one_69 (by first | (first | (unfold mo1; rw [if_neg zc4]; done) | (have hH : moH σ = 7 := if_neg zc25; unfold mo1; rw [if_pos zc4, if_neg (show ¬ moH σ = -1 by rw [hH]; decide), if_pos zc66]; exact eg_3) | (have hH : moH σ = 7 := if_neg zc25; unfold mo1; rw [if_pos zc4, if_neg (show ¬ moH σ = -1 by rw [hH]; decide), if_neg zc66, hH]; unfold moA; rw [eg_3]; rfl) | (have hH : moH σ = 8 := (by unfold moH; rw [if_pos zc25, if_neg zc47]); unfold mo1; rw [if_pos zc4, if_neg (show ¬ moH σ = -1 by rw [hH]; decide), if_pos zc66]; exact eg_3) | (have hH : moH σ = 8 := (by unfold moH; rw [if_pos zc25, if_neg zc47]); unfold mo1; rw [if_pos zc4, if_neg (show ¬ moH σ = -1 by rw [hH]; decide), if_neg zc66, hH]; unfold moA; rw []; rfl) | (have hH : moH σ = -1 := (by unfold moH; rw [if_pos zc25, if_pos zc47]); unfold mo1; rw [if_pos zc4, if_pos hH, if_pos zc127, if_pos zc134]; exact eg_3) | (have hH : moH σ = -1 := (by unfold moH; rw [if_pos zc25, if_pos zc47]); unfold mo1; rw [if_pos zc4, if_pos hH, if_pos zc127, if_neg zc134]; unfold moP; rw []; rfl) | (have hH : moH σ = -1 := (by unfold moH; rw [if_pos zc25, if_pos zc47]); unfold mo1; rw [if_pos zc4, if_pos hH, if_neg zc127]; unfold moK; rw [if_pos zc176, eg_3]; done) | (have hH : moH σ = -1 := (by unfold moH; rw [if_pos zc25, if_pos zc47]); unfold mo1; rw [if_pos zc4, if_pos hH, if_neg zc127]; unfold moK; rw [if_neg zc176, eg_3]; done)) | fail)
  · skip
    exact j_vret hx hq d_Mo_one_7 (by first | (first | (unfold mo1; rw [if_neg zc4]; done) | (have hH : moH σ = 7 := if_neg zc25; unfold mo1; rw [if_pos zc4, if_neg (show ¬ moH σ = -1 by rw [hH]; decide), if_pos zc66]; exact eg_0) | (have hH : moH σ = 7 := if_neg zc25; unfold mo1; rw [if_pos zc4, if_neg (show ¬ moH σ = -1 by rw [hH]; decide), if_neg zc66, hH]; unfold moA; rw []; rfl) | (have hH : moH σ = 8 := (by unfold moH; rw [if_pos zc25, if_neg zc47]); unfold mo1; rw [if_pos zc4, if_neg (show ¬ moH σ = -1 by rw [hH]; decide), if_pos zc66]; exact eg_0) | (have hH : moH σ = 8 := (by unfold moH; rw [if_pos zc25, if_neg zc47]); unfold mo1; rw [if_pos zc4, if_neg (show ¬ moH σ = -1 by rw [hH]; decide), if_neg zc66, hH]; unfold moA; rw []; rfl) | (have hH : moH σ = -1 := (by unfold moH; rw [if_pos zc25, if_pos zc47]); unfold mo1; rw [if_pos zc4, if_pos hH, if_pos zc127, if_pos zc134]; exact eg_0) | (have hH : moH σ = -1 := (by unfold moH; rw [if_pos zc25, if_pos zc47]); unfold mo1; rw [if_pos zc4, if_pos hH, if_pos zc127, if_neg zc134]; unfold moP; rw []; rfl) | (have hH : moH σ = -1 := (by unfold moH; rw [if_pos zc25, if_pos zc47]); unfold mo1; rw [if_pos zc4, if_pos hH, if_neg zc127]; unfold moK; rw [if_pos zc176, eg_3]; done) | (have hH : moH σ = -1 := (by unfold moH; rw [if_pos zc25, if_pos zc47]); unfold mo1; rw [if_pos zc4, if_pos hH, if_neg zc127]; unfold moK; rw [if_neg zc176, eg_3]; done)) | fail)

set_option maxRecDepth 20000 in
set_option maxHeartbeats 600000 in
theorem c_Mo_product {l : Launch} {G : Gz} (hG : zI G) (σ : St) {kr : Nat} {op : Int32} (hL : pL σ) (ho : σ 111 8 = op) (rec : St → St) (hrec : ¬ op = 6 → ∀ t : St, pL t → t 111 8 = op + 1 → MV l G y_Mo_sum prog_14_method_34_code 2 kr [.ref (G.1 111)] t (rec t)) (hfr : rcF rec op) : MV l G y_Mo_product prog_14_method_35_code 2 (kr + 9) [.ref (G.1 111)] σ (mpdF rec σ) := by
  refine MV.of hG (by decide) (Nat.le_of_ble_eq_true rfl) (fun X hx hq => ?_)
  show J l G X 2 σ 0 [(0, .ref (G.1 111))] []
  refine j_aload_n hx d_Mo_product_0 rfl 0 rfl ?_
  refine j_callVv hx (c_Mo_one hG σ hL ho rec hrec hfr) mo_Mo_one mv_Mo_one t_1661 (by omega) rfl (by decide) (sh_111 _ _) rfl rfl (Nat.le_of_ble_eq_true rfl) d_Mo_product_1 ?_
  obtain ⟨s9_1, eg_1⟩ : ∃ z : St, z = mo1 rec σ := ⟨_, rfl⟩
  refine J.to (σ' := s9_1) (by rw [eg_1]; first | done | rfl) rfl ?_
  have hk1 : okl 0 0 σ s9_1 := by rw [eg_1]; exact (fun s hL ho => okl_1 hL ho hfr) σ hL ho
  have hL1 := okl.pL hk1 hL (by omega)
  have ho1 := hk1.2.2.1.trans ho
  have hl4 : ∀ (N9 : Nat) (m : Nat) (t : St), (pL t) → (t 111 8 = op) → (t 111 5 = 0 → (t 111 2).toInt - (t 111 4).toInt < m) → (mpR mg3 (mo1 rec) m t = mpR mg3 (mo1 rec) 151 s9_1) → m = N9 → J l G X 2 t 4 [(0, .ref (G.1 111))] [] := by
    intro N9
    induction N9 using Nat.strongRecOn with
    | _ N9 ih4 =>
      intro m t hL9 ho9 hf9 hr9 hm4
      refine j_aload_n hx d_Mo_product_4 rfl 0 rfl ?_
      refine j_get hx ck_Mo 5 (by decide) t_1423 (by decide) (sh_111 _ _) rfl d_Mo_product_5 ?_
      refine j_if_ne (tgt := 72) hx d_Mo_product_8 (by decide) (fun zc8 => ?_) (fun zc8 => ?_)
      · skip
        exact j_vret hx hq d_Mo_product_72 (by first | (rw [eg_1] at hr9; first | exact (mpR_stop zc8).symm.trans hr9 | exact (mpR_none (mpR_pos hL9 hf9 zc8) zc8 (mg3_0 zc17 zc30 zc43)).symm.trans hr9) | fail)
      · skip
        refine j_aload_n hx d_Mo_product_11 rfl 0 rfl ?_
        refine j_bipush (v := 42) hx d_Mo_product_12 (by decide) ?_
        refine j_callVi hx (c_Mo_takesSign hG t 42 (by exact hL9.1)) mo_Mo_takesSign mv_Mo_takesSign t_1685 (by omega) rfl (by decide) (sh_111 _ _) rfl rfl (Nat.le_of_ble_eq_true rfl) d_Mo_product_14 ?_
        refine j_if_eq (tgt := 24) hx d_Mo_product_17 (by decide) (fun zc17 => ?_) (fun zc17 => ?_)
        · skip
          refine j_aload_n hx d_Mo_product_24 rfl 0 rfl ?_
          refine j_bipush (v := 47) hx d_Mo_product_25 (by decide) ?_
          refine j_callVi hx (c_Mo_takesSign hG (mts t 42) 47 (by exact (mts_p hL9.1 (by decide)))) mo_Mo_takesSign mv_Mo_takesSign t_1685 (by omega) rfl (by decide) (sh_111 _ _) rfl rfl (Nat.le_of_ble_eq_true rfl) d_Mo_product_27 ?_
          refine j_if_eq (tgt := 37) hx d_Mo_product_30 (by decide) (fun zc30 => ?_) (fun zc30 => ?_)
          · skip
            refine j_aload_n hx d_Mo_product_37 rfl 0 rfl ?_
            refine j_bipush (v := 37) hx d_Mo_product_38 (by decide) ?_
            refine j_callVi hx (c_Mo_takesSign hG (mts (mts t 42) 47) 37 (by exact (mts_p (mts_p hL9.1 (by decide)) (by decide)))) mo_Mo_takesSign mv_Mo_takesSign t_1685 (by omega) rfl (by decide) (sh_111 _ _) rfl rfl (Nat.le_of_ble_eq_true rfl) d_Mo_product_40 ?_
            refine j_if_eq (tgt := 51) hx d_Mo_product_43 (by decide) (fun zc43 => ?_) (fun zc43 => ?_)
            · skip
              refine j_iconst (v := (-1)) hx d_Mo_product_51 (by decide) ?_
              refine j_istore_n hx [(1, .int ((-1))), (0, .ref (G.1 111))] d_Mo_product_52 rfl (by decide) rfl ?_
              refine j_iload_n hx d_Mo_product_53 rfl 0 rfl ?_
              refine j_iconst (v := (-1)) hx d_Mo_product_54 (by decide) ?_
              refine j_icmp_ne (tgt := 59) hx d_Mo_product_55 (by decide) (fun zc55 => absurd rfl zc55) (fun _ => ?_)
              exact j_vret hx hq d_Mo_product_58 (by first | (rw [eg_1] at hr9; first | exact (mpR_stop zc8).symm.trans hr9 | exact (mpR_none (mpR_pos hL9 hf9 zc8) zc8 (mg3_0 zc17 zc30 zc43)).symm.trans hr9) | fail)
            · skip
              refine j_bipush (v := 6) hx d_Mo_product_46 (by decide) ?_
              refine j_goto (tgt := 52) hx d_Mo_product_48 (by decide) ?_
              refine j_istore_n hx [(1, .int 6), (0, .ref (G.1 111))] d_Mo_product_52 rfl (by decide) rfl ?_
              refine j_iload_n hx d_Mo_product_53 rfl 0 rfl ?_
              refine j_iconst (v := (-1)) hx d_Mo_product_54 (by decide) ?_
              refine j_icmp_ne (tgt := 59) hx d_Mo_product_55 (by decide) (fun _ => ?_) (fun zc55 => absurd zc55 (by decide))
              have hsg : mg3 t = (6, mts (mts (mts t 42) 47) 37) := mg3_3 zc17 zc30 zc43
              have HGO := mpR_go mg3_O (fun s hL ho => okl_1 hL ho hfr) hL9 ho9 hf9 zc8 hsg (by decide)
              have hz : okl 0 0 t (mts (mts (mts t 42) 47) 37) := by have q := (mg3_O t hL9.1).1; rw [hsg] at q; exact q
              have hLx := okl.pL hz hL9 (by omega)
              have hox := hz.2.2.1.trans ho9
              refine j_aload_n hx d_Mo_product_59 rfl 1 rfl ?_
              refine j_callVv hx (c_Mo_one hG (mts (mts (mts t 42) 47) 37) hLx hox rec hrec hfr) mo_Mo_one mv_Mo_one t_1661 (by omega) rfl (by decide) (sh_111 _ _) rfl rfl (Nat.le_of_ble_eq_true rfl) d_Mo_product_60 ?_
              refine j_aload_n hx d_Mo_product_63 rfl 1 rfl ?_
              refine j_iload_n hx d_Mo_product_64 rfl 0 rfl ?_
              refine j_iconst (v := 0) hx d_Mo_product_65 (by decide) ?_
              refine j_callVv hx (c_Mo_notes hG (mo1 rec (mts (mts (mts t 42) 47) 37)) 6 0 (by exact pL_m (okl.pL (okl_1 hLx hox hfr) hLx (by omega)))) mo_Mo_notes mv_Mo_notes t_1669 (by omega) rfl (by decide) (sh_111 _ _) rfl rfl (Nat.le_of_ble_eq_true rfl) d_Mo_product_66 ?_
              refine j_goto (tgt := 4) hx d_Mo_product_69 (by decide) ?_
              refine J.lsub (ls' := [(0, .ref (G.1 111))]) [1] rfl ?_
              refine J.to ?_ ?_ (ih4 _ ?_ (m - 1) (mnt (mo1 rec (mts (mts (mts t 42) 47) 37)) 6 0) HGO.2.2.1 HGO.2.2.2.1 HGO.2.2.2.2 (HGO.1.symm.trans hr9) rfl)
              · first | (rfl) | fail
              · first | (rfl) | fail
              · first | (have h8 := HGO.2.1; omega) | fail
          · skip
            refine j_iconst (v := 5) hx d_Mo_product_33 (by decide) ?_
            refine j_goto (tgt := 52) hx d_Mo_product_34 (by decide) ?_
            refine j_istore_n hx [(1, .int 5), (0, .ref (G.1 111))] d_Mo_product_52 rfl (by decide) rfl ?_
            refine j_iload_n hx d_Mo_product_53 rfl 0 rfl ?_
            refine j_iconst (v := (-1)) hx d_Mo_product_54 (by decide) ?_
            refine j_icmp_ne (tgt := 59) hx d_Mo_product_55 (by decide) (fun _ => ?_) (fun zc55 => absurd zc55 (by decide))
            have hsg : mg3 t = (5, mts (mts t 42) 47) := mg3_2 zc17 zc30
            have HGO := mpR_go mg3_O (fun s hL ho => okl_1 hL ho hfr) hL9 ho9 hf9 zc8 hsg (by decide)
            have hz : okl 0 0 t (mts (mts t 42) 47) := by have q := (mg3_O t hL9.1).1; rw [hsg] at q; exact q
            have hLx := okl.pL hz hL9 (by omega)
            have hox := hz.2.2.1.trans ho9
            refine j_aload_n hx d_Mo_product_59 rfl 1 rfl ?_
            refine j_callVv hx (c_Mo_one hG (mts (mts t 42) 47) hLx hox rec hrec hfr) mo_Mo_one mv_Mo_one t_1661 (by omega) rfl (by decide) (sh_111 _ _) rfl rfl (Nat.le_of_ble_eq_true rfl) d_Mo_product_60 ?_
            refine j_aload_n hx d_Mo_product_63 rfl 1 rfl ?_
            refine j_iload_n hx d_Mo_product_64 rfl 0 rfl ?_
            refine j_iconst (v := 0) hx d_Mo_product_65 (by decide) ?_
            refine j_callVv hx (c_Mo_notes hG (mo1 rec (mts (mts t 42) 47)) 5 0 (by exact pL_m (okl.pL (okl_1 hLx hox hfr) hLx (by omega)))) mo_Mo_notes mv_Mo_notes t_1669 (by omega) rfl (by decide) (sh_111 _ _) rfl rfl (Nat.le_of_ble_eq_true rfl) d_Mo_product_66 ?_
            refine j_goto (tgt := 4) hx d_Mo_product_69 (by decide) ?_
            refine J.lsub (ls' := [(0, .ref (G.1 111))]) [1] rfl ?_
            refine J.to ?_ ?_ (ih4 _ ?_ (m - 1) (mnt (mo1 rec (mts (mts t 42) 47)) 5 0) HGO.2.2.1 HGO.2.2.2.1 HGO.2.2.2.2 (HGO.1.symm.trans hr9) rfl)
            · first | (rfl) | fail
            · first | (rfl) | fail
            · first | (have h8 := HGO.2.1; omega) | fail
        · skip
          refine j_iconst (v := 4) hx d_Mo_product_20 (by decide) ?_
          refine j_goto (tgt := 52) hx d_Mo_product_21 (by decide) ?_
          refine j_istore_n hx [(1, .int 4), (0, .ref (G.1 111))] d_Mo_product_52 rfl (by decide) rfl ?_
          refine j_iload_n hx d_Mo_product_53 rfl 0 rfl ?_
          refine j_iconst (v := (-1)) hx d_Mo_product_54 (by decide) ?_
          refine j_icmp_ne (tgt := 59) hx d_Mo_product_55 (by decide) (fun _ => ?_) (fun zc55 => absurd zc55 (by decide))
          have hsg : mg3 t = (4, mts t 42) := mg3_1 zc17
          have HGO := mpR_go mg3_O (fun s hL ho => okl_1 hL ho hfr) hL9 ho9 hf9 zc8 hsg (by decide)
          have hz : okl 0 0 t (mts t 42) := by have q := (mg3_O t hL9.1).1; rw [hsg] at q; exact q
          have hLx := okl.pL hz hL9 (by omega)
          have hox := hz.2.2.1.trans ho9
          refine j_aload_n hx d_Mo_product_59 rfl 1 rfl ?_
          refine j_callVv hx (c_Mo_one hG (mts t 42) hLx hox rec hrec hfr) mo_Mo_one mv_Mo_one t_1661 (by omega) rfl (by decide) (sh_111 _ _) rfl rfl (Nat.le_of_ble_eq_true rfl) d_Mo_product_60 ?_
          refine j_aload_n hx d_Mo_product_63 rfl 1 rfl ?_
          refine j_iload_n hx d_Mo_product_64 rfl 0 rfl ?_
          refine j_iconst (v := 0) hx d_Mo_product_65 (by decide) ?_
          refine j_callVv hx (c_Mo_notes hG (mo1 rec (mts t 42)) 4 0 (by exact pL_m (okl.pL (okl_1 hLx hox hfr) hLx (by omega)))) mo_Mo_notes mv_Mo_notes t_1669 (by omega) rfl (by decide) (sh_111 _ _) rfl rfl (Nat.le_of_ble_eq_true rfl) d_Mo_product_66 ?_
          refine j_goto (tgt := 4) hx d_Mo_product_69 (by decide) ?_
          refine J.lsub (ls' := [(0, .ref (G.1 111))]) [1] rfl ?_
          refine J.to ?_ ?_ (ih4 _ ?_ (m - 1) (mnt (mo1 rec (mts t 42)) 4 0) HGO.2.2.1 HGO.2.2.2.1 HGO.2.2.2.2 (HGO.1.symm.trans hr9) rfl)
          · first | (rfl) | fail
          · first | (rfl) | fail
          · first | (have h8 := HGO.2.1; omega) | fail
  refine J.lsub (ls' := [(0, .ref (G.1 111))]) [0] rfl ?_
  refine J.to ?_ ?_ (hl4 _ 151 s9_1 hL1 ho1 (fun z => by have h1 := hL1.2.1; have h2 := hL1.1.1; omega) rfl rfl)
  · first | (rfl) | fail
  · first | (rfl) | fail

set_option maxRecDepth 20000 in
set_option maxHeartbeats 600000 in
theorem c_Mo_sum {l : Launch} {G : Gz} (hG : zI G) (σ : St) {kr : Nat} {op : Int32} (hL : pL σ) (ho : σ 111 8 = op) (rec : St → St) (hrec : ¬ op = 6 → ∀ t : St, pL t → t 111 8 = op + 1 → MV l G y_Mo_sum prog_14_method_34_code 2 kr [.ref (G.1 111)] t (rec t)) (hfr : rcF rec op) : MV l G y_Mo_sum prog_14_method_34_code 2 (kr + 10) [.ref (G.1 111)] σ (msuF rec σ) := by
  refine MV.of hG (by decide) (Nat.le_of_ble_eq_true rfl) (fun X hx hq => ?_)
  show J l G X 2 σ 0 [(0, .ref (G.1 111))] []
  refine j_aload_n hx d_Mo_sum_0 rfl 0 rfl ?_
  refine j_callVv hx (c_Mo_product hG σ hL ho rec hrec hfr) mo_Mo_product mv_Mo_product t_1657 (by omega) rfl (by decide) (sh_111 _ _) rfl rfl (Nat.le_of_ble_eq_true rfl) d_Mo_sum_1 ?_
  obtain ⟨s9_1, eg_1⟩ : ∃ z : St, z = mpdF rec σ := ⟨_, rfl⟩
  refine J.to (σ' := s9_1) (by rw [eg_1]; first | done | rfl) rfl ?_
  have hk1 : okl 0 0 σ s9_1 := by rw [eg_1]; exact (okl_pd hfr) σ hL ho
  have hL1 := okl.pL hk1 hL (by omega)
  have ho1 := hk1.2.2.1.trans ho
  have hl4 : ∀ (N9 : Nat) (m : Nat) (t : St), (pL t) → (t 111 8 = op) → (t 111 5 = 0 → (t 111 2).toInt - (t 111 4).toInt < m) → (mpR mg2 (mpdF rec) m t = mpR mg2 (mpdF rec) 151 s9_1) → m = N9 → J l G X 2 t 4 [(0, .ref (G.1 111))] [] := by
    intro N9
    induction N9 using Nat.strongRecOn with
    | _ N9 ih4 =>
      intro m t hL9 ho9 hf9 hr9 hm4
      refine j_aload_n hx d_Mo_sum_4 rfl 0 rfl ?_
      refine j_get hx ck_Mo 5 (by decide) t_1423 (by decide) (sh_111 _ _) rfl d_Mo_sum_5 ?_
      refine j_if_ne (tgt := 58) hx d_Mo_sum_8 (by decide) (fun zc8 => ?_) (fun zc8 => ?_)
      · skip
        exact j_vret hx hq d_Mo_sum_58 (by first | (rw [eg_1] at hr9; first | exact (mpR_stop zc8).symm.trans hr9 | exact (mpR_none (mpR_pos hL9 hf9 zc8) zc8 (mg2_0 zc17 zc30)).symm.trans hr9) | fail)
      · skip
        refine j_aload_n hx d_Mo_sum_11 rfl 0 rfl ?_
        refine j_bipush (v := 43) hx d_Mo_sum_12 (by decide) ?_
        refine j_callVi hx (c_Mo_takesSign hG t 43 (by exact hL9.1)) mo_Mo_takesSign mv_Mo_takesSign t_1685 (by omega) rfl (by decide) (sh_111 _ _) rfl rfl (Nat.le_of_ble_eq_true rfl) d_Mo_sum_14 ?_
        refine j_if_eq (tgt := 24) hx d_Mo_sum_17 (by decide) (fun zc17 => ?_) (fun zc17 => ?_)
        · skip
          refine j_aload_n hx d_Mo_sum_24 rfl 0 rfl ?_
          refine j_bipush (v := 45) hx d_Mo_sum_25 (by decide) ?_
          refine j_callVi hx (c_Mo_takesSign hG (mts t 43) 45 (by exact (mts_p hL9.1 (by decide)))) mo_Mo_takesSign mv_Mo_takesSign t_1685 (by omega) rfl (by decide) (sh_111 _ _) rfl rfl (Nat.le_of_ble_eq_true rfl) d_Mo_sum_27 ?_
          refine j_if_eq (tgt := 37) hx d_Mo_sum_30 (by decide) (fun zc30 => ?_) (fun zc30 => ?_)
          · skip
            refine j_iconst (v := (-1)) hx d_Mo_sum_37 (by decide) ?_
            refine j_istore_n hx [(1, .int ((-1))), (0, .ref (G.1 111))] d_Mo_sum_38 rfl (by decide) rfl ?_
            refine j_iload_n hx d_Mo_sum_39 rfl 0 rfl ?_
            refine j_iconst (v := (-1)) hx d_Mo_sum_40 (by decide) ?_
            refine j_icmp_ne (tgt := 45) hx d_Mo_sum_41 (by decide) (fun zc41 => absurd rfl zc41) (fun _ => ?_)
            exact j_vret hx hq d_Mo_sum_44 (by first | (rw [eg_1] at hr9; first | exact (mpR_stop zc8).symm.trans hr9 | exact (mpR_none (mpR_pos hL9 hf9 zc8) zc8 (mg2_0 zc17 zc30)).symm.trans hr9) | fail)
          · skip
            refine j_iconst (v := 3) hx d_Mo_sum_33 (by decide) ?_
            refine j_goto (tgt := 38) hx d_Mo_sum_34 (by decide) ?_
            refine j_istore_n hx [(1, .int 3), (0, .ref (G.1 111))] d_Mo_sum_38 rfl (by decide) rfl ?_
            refine j_iload_n hx d_Mo_sum_39 rfl 0 rfl ?_
            refine j_iconst (v := (-1)) hx d_Mo_sum_40 (by decide) ?_
            refine j_icmp_ne (tgt := 45) hx d_Mo_sum_41 (by decide) (fun _ => ?_) (fun zc41 => absurd zc41 (by decide))
            have hsg : mg2 t = (3, mts (mts t 43) 45) := mg2_2 zc17 zc30
            have HGO := mpR_go mg2_O (okl_pd hfr) hL9 ho9 hf9 zc8 hsg (by decide)
            have hz : okl 0 0 t (mts (mts t 43) 45) := by have q := (mg2_O t hL9.1).1; rw [hsg] at q; exact q
            have hLx := okl.pL hz hL9 (by omega)
            have hox := hz.2.2.1.trans ho9
            refine j_aload_n hx d_Mo_sum_45 rfl 1 rfl ?_
            refine j_callVv hx (c_Mo_product hG (mts (mts t 43) 45) hLx hox rec hrec hfr) mo_Mo_product mv_Mo_product t_1657 (by omega) rfl (by decide) (sh_111 _ _) rfl rfl (Nat.le_of_ble_eq_true rfl) d_Mo_sum_46 ?_
            refine j_aload_n hx d_Mo_sum_49 rfl 1 rfl ?_
            refine j_iload_n hx d_Mo_sum_50 rfl 0 rfl ?_
            refine j_iconst (v := 0) hx d_Mo_sum_51 (by decide) ?_
            refine j_callVv hx (c_Mo_notes hG (mpdF rec (mts (mts t 43) 45)) 3 0 (by exact pL_m (okl.pL (okl_pd hfr _ hLx hox) hLx (by omega)))) mo_Mo_notes mv_Mo_notes t_1669 (by omega) rfl (by decide) (sh_111 _ _) rfl rfl (Nat.le_of_ble_eq_true rfl) d_Mo_sum_52 ?_
            refine j_goto (tgt := 4) hx d_Mo_sum_55 (by decide) ?_
            refine J.lsub (ls' := [(0, .ref (G.1 111))]) [1] rfl ?_
            refine J.to ?_ ?_ (ih4 _ ?_ (m - 1) (mnt (mpdF rec (mts (mts t 43) 45)) 3 0) HGO.2.2.1 HGO.2.2.2.1 HGO.2.2.2.2 (HGO.1.symm.trans hr9) rfl)
            · first | (rfl) | fail
            · first | (rfl) | fail
            · first | (have h8 := HGO.2.1; omega) | fail
        · skip
          refine j_iconst (v := 2) hx d_Mo_sum_20 (by decide) ?_
          refine j_goto (tgt := 38) hx d_Mo_sum_21 (by decide) ?_
          refine j_istore_n hx [(1, .int 2), (0, .ref (G.1 111))] d_Mo_sum_38 rfl (by decide) rfl ?_
          refine j_iload_n hx d_Mo_sum_39 rfl 0 rfl ?_
          refine j_iconst (v := (-1)) hx d_Mo_sum_40 (by decide) ?_
          refine j_icmp_ne (tgt := 45) hx d_Mo_sum_41 (by decide) (fun _ => ?_) (fun zc41 => absurd zc41 (by decide))
          have hsg : mg2 t = (2, mts t 43) := mg2_1 zc17
          have HGO := mpR_go mg2_O (okl_pd hfr) hL9 ho9 hf9 zc8 hsg (by decide)
          have hz : okl 0 0 t (mts t 43) := by have q := (mg2_O t hL9.1).1; rw [hsg] at q; exact q
          have hLx := okl.pL hz hL9 (by omega)
          have hox := hz.2.2.1.trans ho9
          refine j_aload_n hx d_Mo_sum_45 rfl 1 rfl ?_
          refine j_callVv hx (c_Mo_product hG (mts t 43) hLx hox rec hrec hfr) mo_Mo_product mv_Mo_product t_1657 (by omega) rfl (by decide) (sh_111 _ _) rfl rfl (Nat.le_of_ble_eq_true rfl) d_Mo_sum_46 ?_
          refine j_aload_n hx d_Mo_sum_49 rfl 1 rfl ?_
          refine j_iload_n hx d_Mo_sum_50 rfl 0 rfl ?_
          refine j_iconst (v := 0) hx d_Mo_sum_51 (by decide) ?_
          refine j_callVv hx (c_Mo_notes hG (mpdF rec (mts t 43)) 2 0 (by exact pL_m (okl.pL (okl_pd hfr _ hLx hox) hLx (by omega)))) mo_Mo_notes mv_Mo_notes t_1669 (by omega) rfl (by decide) (sh_111 _ _) rfl rfl (Nat.le_of_ble_eq_true rfl) d_Mo_sum_52 ?_
          refine j_goto (tgt := 4) hx d_Mo_sum_55 (by decide) ?_
          refine J.lsub (ls' := [(0, .ref (G.1 111))]) [1] rfl ?_
          refine J.to ?_ ?_ (ih4 _ ?_ (m - 1) (mnt (mpdF rec (mts t 43)) 2 0) HGO.2.2.1 HGO.2.2.2.1 HGO.2.2.2.2 (HGO.1.symm.trans hr9) rfl)
          · first | (rfl) | fail
          · first | (rfl) | fail
          · first | (have h8 := HGO.2.1; omega) | fail
  refine J.lsub (ls' := [(0, .ref (G.1 111))]) [0] rfl ?_
  refine J.to ?_ ?_ (hl4 _ 151 s9_1 hL1 ho1 (fun z => by have h1 := hL1.2.1; have h2 := hL1.1.1; omega) rfl rfl)
  · first | (rfl) | fail
  · first | (rfl) | fail


theorem c_Mo_sumN {l : Launch} {G : Gz} (hG : zI G) : ∀ (n : Nat) (op : Int32), op = nI (6 - n) → n ≤ 6 → ∀ σ : St, pL σ → σ 111 8 = op → MV l G y_Mo_sum prog_14_method_34_code 2 (10 + 10 * n) [.ref (G.1 111)] σ (msN n σ) := by
  intro n
  induction n with
  | zero =>
    intro op hop _ σ hL ho
    exact c_Mo_sum hG σ (kr := 0) hL ho (fun s => s) (fun h => absurd (show op = 6 from hop) h) (fun h => absurd (show op = 6 from hop) h)
  | succ n ih =>
    intro op hop hn σ hL ho
    have hs : op + 1 = nI (6 - n) := by rw [hop, nI_s]; congr 1; omega
    have h := c_Mo_sum hG σ (kr := 10 + 10 * n) hL ho (msN n) (fun _ => ih (op + 1) hs (by omega)) (fun _ => msN_f n (op + 1) hs (by omega))
    rw [show 10 + 10 * (n + 1) = 10 + 10 * n + 10 by omega]
    exact h
