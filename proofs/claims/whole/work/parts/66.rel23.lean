/-! ===== two readers on one tape ===== -/
def SY (s t : St) : Prop := pB t ∧ s 1 2 = t 111 2 ∧ s 3 = t 112 ∧ s 1 5 = t 111 5 ∧ s 1 6 = t 111 6 ∧ (t 111 5 = 0 → s 1 3 = mbl t 111 4 ∧ t 111 6 = -1)
theorem mvt_3 {s : St} {b : Int32} : mvt s b 1 3 = rn (s 1 2) (isB (s 3)) b := by unfold mvt; exact up_rd
theorem mvt_k {s : St} {b : Int32} {k : Nat} (h : k ≠ 3) : mvt s b 1 k = s 1 k := by unfold mvt; exact up_k h
theorem mvt_o {s : St} {b : Int32} {o : Nat} (h : o ≠ 1) : mvt s b o = s o := by unfold mvt; exact up_o h
theorem bl_o {s : St} {k p : Int32} {o : Nat} (h : o ≠ 1) : bl s k p o = s o := by
  unfold bl; split
  · rw [up_o h, up_o h]
  · rfl
theorem bl_k {s : St} {k p : Int32} {f : Nat} (h5 : f ≠ 5) (h6 : f ≠ 6) : bl s k p 1 f = s 1 f := by
  unfold bl; split
  · rw [up_k h6, up_k h5]
  · rfl
theorem SY.cl {s s' t : St} (h : SY s t) (h2 : s' 1 2 = s 1 2) (h3 : s' 1 3 = s 1 3) (h5 : s' 1 5 = s 1 5) (h6 : s' 1 6 = s 1 6) (hb : s' 3 = s 3) : SY s' t := by
  obtain ⟨a, b, c, d, e, f⟩ := h
  exact ⟨a, h2.trans b, hb.trans c, h5.trans d, h6.trans e, fun z => ⟨h3.trans (f z).1, (f z).2⟩⟩
theorem mbl_eq {t t' : St} (h2 : t' 111 2 = t 111 2) (h4 : t' 111 4 = t 111 4) (hb : t' 112 = t 112) : mbl t' 111 4 = mbl t 111 4 := by unfold mbl; rw [up_rd, up_rd, h2, h4, hb]
theorem SY.cr {s t t' : St} (h : SY s t) (h2 : t' 111 2 = t 111 2) (h4 : t' 111 4 = t 111 4) (h5 : t' 111 5 = t 111 5) (h6 : t' 111 6 = t 111 6) (hb : t' 112 = t 112) : SY s t' := by
  obtain ⟨a, b, c, d, e, f⟩ := h
  exact ⟨by unfold pB at *; rw [h2, h4]; exact a, b.trans h2.symm, c.trans hb.symm, d.trans h5.symm, e.trans h6.symm, fun z => ⟨(f (h5 ▸ z)).1.trans (mbl_eq h2 h4 hb).symm, by rw [h6]; exact (f (h5 ▸ z)).2⟩⟩
theorem SY.ybl {s t : St} (h : SY s t) : SY s (mbl t) := by
  obtain ⟨a, b, c, d, e, f⟩ := h
  refine ⟨(mbl_p a).1, by rw [mbl_k (by decide)]; exact b, by rw [mbl_o (by decide)]; exact c, by rw [mbl_k (by decide)]; exact d, by rw [mbl_k (by decide)]; exact e, fun z => ?_⟩
  rw [mbl_k (by decide)] at z
  rw [mbl_i, mbl_k (show 6 ≠ 4 by decide)]; exact f z
theorem SY.ybz {s t : St} (h : SY s t) : SY s (mbz t) := by
  unfold mbz; split
  · exact h.ybl
  · exact h
theorem SY.ywr {s t : St} (h : SY s t) {k p : Int32} (hk : ¬ k = 0) : SY (bl s k p) (wr t k p) := by
  obtain ⟨a, b, c, d, e, f⟩ := h
  refine ⟨wr_p a, ?_, ?_, ?_, ?_, fun z => absurd z (wr_5 hk)⟩
  · rw [bl_k (by decide) (by decide), wr_k (by decide) (by decide)]; exact b
  · rw [bl_o (by decide), wr_o (by decide)]; exact c
  · unfold bl wr
    by_cases z : t 111 5 = 0
    · rw [if_pos z, if_pos (d.trans z), up_k (by decide), up_rd, up_k (by decide), up_rd]
    · rw [if_neg z, if_neg (fun y => z (d.symm.trans y))]; exact d
  · unfold bl wr
    by_cases z : t 111 5 = 0
    · rw [if_pos z, if_pos (d.trans z), up_rd, up_rd]
    · rw [if_neg z, if_neg (fun y => z (d.symm.trans y))]; exact e
theorem SY.ymv {s t : St} (h : SY s t) {b : Int32} (hp : pB (up t 111 4 b)) : SY (mvt s b) (up t 111 4 b) := by
  obtain ⟨-, q2, q3, q5, q6, q7⟩ := h
  refine ⟨hp, ?_, ?_, ?_, ?_, fun z => ⟨?_, by rw [up_k (by decide)] at z; rw [up_k (by decide)]; exact (q7 z).2⟩⟩
  · rw [mvt_k (by decide), up_k (by decide)]; exact q2
  · rw [mvt_o (by decide), up_o (by decide)]; exact q3
  · rw [mvt_k (by decide), up_k (by decide)]; exact q5
  · rw [mvt_k (by decide), up_k (by decide)]; exact q6
  · rw [mvt_3]; unfold mbl; rw [up_rd, up_k (by decide), up_o (by decide), up_rd, q2, q3]
theorem SY.yop {σ τ : St} {n : Int32} (hb : σ 3 = τ 112) (h0 : 0 ≤ n.toInt) (h1 : n.toInt ≤ 600) : SY (opn σ n) (mst τ n) := by
  unfold opn mst
  have e : SY (up (up (up (up σ 1 2 n) 1 1 0) 1 5 0) 1 6 (-1)) (up (up (up (up (up (up (up τ 111 1 0) 111 2 n) 111 4 0) 111 5 0) 111 6 (-1)) 111 7 0) 111 8 0) ∨ True := Or.inr trivial
  have hp := pB_st (t := τ) (n := n) h0 h1
  refine SY.ybl ⟨hp, ?_, ?_, ?_, ?_, fun _ => ⟨?_, by rw [up_k (by decide), up_k (by decide), up_rd]⟩⟩
  · rw [mvt_k (by decide), up_k (by decide), up_k (by decide), up_k (by decide), up_rd, up_k (by decide), up_k (by decide), up_k (by decide), up_k (by decide), up_k (by decide), up_rd]
  · rw [mvt_o (by decide), up_o (by decide), up_o (by decide), up_o (by decide), up_o (by decide), up_o (by decide), up_o (by decide), up_o (by decide), up_o (by decide), up_o (by decide), up_o (by decide), up_o (by decide)]; exact hb
  · rw [mvt_k (by decide), up_k (by decide), up_rd, up_k (by decide), up_k (by decide), up_k (by decide), up_rd]
  · rw [mvt_k (by decide), up_rd, up_k (by decide), up_k (by decide), up_rd]
  · rw [mvt_3]; unfold mbl
    rw [up_rd, up_k (by decide), up_k (by decide), up_k (by decide), up_rd, up_o (by decide), up_o (by decide), up_o (by decide), up_o (by decide), up_k (by decide), up_k (by decide), up_k (by decide), up_k (by decide), up_k (by decide), up_rd, up_o (by decide), up_o (by decide), up_o (by decide), up_o (by decide), up_o (by decide), up_o (by decide), up_o (by decide), hb]
    rw [up_k (by decide), up_k (by decide), up_k (by decide), up_k (by decide), up_rd]
/-- the place, when all went well: within the tape -/
theorem SY.pl {s t : St} (h : SY s t) (h5 : t 111 5 = 0) : s 1 3 = mbl t 111 4 ∧ 0 ≤ (s 1 3).toInt ∧ (s 1 3).toInt ≤ (s 1 2).toInt ∧ (s 1 2).toInt ≤ 600 := by
  obtain ⟨a, b, c, d, e, f⟩ := h
  obtain ⟨p1, p2, p3⟩ := (mbl_p a).1
  rw [mbl_k (show 2 ≠ 4 by decide)] at p2 p3
  rw [(f h5).1, b]; exact ⟨rfl, p1, p2, p3⟩
theorem SY.by_ {s t : St} (h : SY s t) (h5 : t 111 5 = 0) : mbt (mbl t 111 2) (mbl t 112) (mbl t 111 4) = mbt (s 1 2) (s 3) (s 1 3) := by
  obtain ⟨e, -, -, -⟩ := h.pl h5
  rw [mbl_k (by decide), mbl_o (by decide), ← e, ← h.2.1, ← h.2.2.1]
theorem tk_iff {s t : St} (h : SY s t) {c : Int32} (hc : 0 ≤ c) : tkP s c ↔ mtP t c := by
  unfold tkP mtP msP9
  rw [h.2.2.2.1]
  constructor
  · rintro ⟨a, b, d⟩
    obtain ⟨-, p1, p2, p3⟩ := h.pl a
    refine ⟨a, ?_⟩
    rw [h.by_ a, mbt_rg p1 p3 b]; exact d
  · rintro ⟨a, d⟩
    obtain ⟨-, p1, p2, p3⟩ := h.pl a
    rw [h.by_ a] at d
    have hlt : s 1 3 < s 1 2 := Decidable.not_not.mp (fun z => by rw [mbt_e z] at d; rw [← d] at hc; exact absurd hc (by decide))
    exact ⟨a, hlt, by rw [← mbt_rg p1 p3 hlt]; exact d⟩
theorem SY.yts {s t : St} (h : SY s t) {c : Int32} (hc : 0 ≤ c) : SY (tkS s c) (mts t c) := by
  by_cases q : tkP s c
  · have q2 := (tk_iff h hc).mp q
    have e := (h.pl q2.1).1
    have e1 : tkS s c = mvt (up s 1 4 (s 1 3)) (s 1 3 + 1) := by unfold tkS; rw [if_pos q, up_k (by decide)]
    have e2 : mts t c = up (mbl t) 111 4 (s 1 3 + 1) := by unfold mts; rw [if_pos q2.1, if_pos q2.2]; unfold at1; rw [e]
    rw [e1, e2]
    refine SY.ymv (SY.cl h.ybl ?_ ?_ ?_ ?_ ?_) ?_
    · exact up_k (by decide)
    · exact up_k (by decide)
    · exact up_k (by decide)
    · exact up_k (by decide)
    · exact up_o (by decide)
    · have := (at1_p (mbl_p h.1).1 q2.2 hc).1; unfold at1 at this; rw [e]; exact this
  · have e1 : tkS s c = s := by unfold tkS; exact if_neg q
    have e2 : mts t c = mbz t := by
      unfold mts mbz
      by_cases z : t 111 5 = 0
      · rw [if_pos z, if_pos z, if_neg (fun y => q ((tk_iff h hc).mpr ⟨z, y⟩))]
      · rw [if_neg z, if_neg z]
    rw [e1, e2]; exact h.ybz
theorem SY.ysg {s t : St} (h : SY s t) {c : Int32} (hc : 0 ≤ c) : SY (tkR s c) (msg t c) := by
  unfold tkR rq
  by_cases q : tkP s c
  · have q2 := (tk_iff h hc).mp q
    rw [if_neg (fun z => b2_z z q)]
    have e2 : msg t c = mts t c := by unfold msg mts; rw [if_pos q2.1, if_pos q2.2, if_pos q2.1, if_pos q2.2]
    rw [e2]; exact h.yts hc
  · have e1 : tkS s c = s := by unfold tkS; exact if_neg q
    rw [if_pos (b2_f q), e1]
    unfold msg
    by_cases z : t 111 5 = 0
    · rw [if_pos z, if_neg (fun y => q ((tk_iff h hc).mpr ⟨z, y⟩)), (h.pl z).1]
      exact h.ybl.ywr (by decide)
    · rw [if_neg z]
      unfold bl
      rw [if_neg (fun y => z (h.2.2.2.1.symm.trans y))]; exact h
/-! numbers -/
def VR (v w : Int32) : Prop := 0 ≤ w.toInt ∧ w.toInt ≤ 100000 ∧ v.toInt ≤ 1000000 ∧ (v = w ∨ (w.toInt = 100000 ∧ 100000 ≤ v.toInt))
theorem vr_step {v w d : Int32} (h : VR v w) (hd : 48 ≤ d.toInt ∧ d.toInt ≤ 57) : VR (if 1000000 < v * 10 + d - 48 then 1000000 else v * 10 + d - 48) (if 100000 < 10 * w + d - 48 then 100000 else 10 * w + d - 48) := by
  obtain ⟨h0, h1, h2, h3⟩ := h
  have hv : 0 ≤ v.toInt := by
    rcases h3 with z | z
    · rw [z]; exact h0
    · omega
  have e10 : (10 : Int32).toInt = 10 := rfl
  have e48 : (48 : Int32).toInt = 48 := rfl
  have em : (1000000 : Int32).toInt = 1000000 := rfl
  have eh : (100000 : Int32).toInt = 100000 := rfl
  have ev : (v * 10 + d - 48).toInt = v.toInt * 10 + d.toInt - 48 := i_sub (i_add (i_mul rfl e10 (by omega) (by omega)) rfl (by omega) (by omega)) e48 (by omega) (by omega)
  have ew : (10 * w + d - 48).toInt = 10 * w.toInt + d.toInt - 48 := i_sub (i_add (i_mul e10 rfl (by omega) (by omega)) rfl (by omega) (by omega)) e48 (by omega) (by omega)
  unfold VR
  by_cases c1 : 100000 < 10 * w + d - 48
  · rw [if_pos c1]
    rw [i_lt, eh, ew] at c1
    refine ⟨by rw [eh]; decide, by rw [eh]; decide, ?_, Or.inr ⟨eh, ?_⟩⟩
    · split
      · rw [em]; decide
      · rename_i c2; rw [i_lt, em] at c2; omega
    · split
      · rw [em]; decide
      · rw [ev]
        rcases h3 with z | z
        · rw [z]; omega
        · omega
  · rw [if_neg c1]
    rw [i_lt, eh, ew] at c1
    have z : v = w := by
      rcases h3 with z | z
      · exact z
      · omega
    have c2 : ¬ 1000000 < v * 10 + d - 48 := by rw [i_lt, em, ev, z]; omega
    rw [if_neg c2, ew, ev]
    refine ⟨by omega, by omega, by rw [z]; omega, Or.inl ?_⟩
    rw [i_eq, ev, ew, z]; omega
theorem vr_run {len : Int32} {f : Nat → Int32} (hl : len.toInt ≤ 600) : ∀ (n : Nat) (v w p : Int32), 0 ≤ p.toInt → VR v w → VR (rvn len (isD f) (nuG f) n v p) (rvn len (isD f) (mgG len f) n w p) := by
  intro n
  induction n with
  | zero => intro v w p _ h; exact h
  | succ n ih =>
    intro v w p hp h
    rw [rvn, rvn]
    by_cases q : p < len ∧ isD f p = true
    · rw [if_pos q, if_pos q]
      have h1 := i_s1 q.1
      have hd := of_decide_eq_true q.2
      rw [i_le, i_le] at hd
      refine ih _ _ _ (by omega) ?_
      unfold nuG mgG
      rw [mbt_rg hp hl q.1]
      exact vr_step h hd
    · rw [if_neg q, if_neg q]; exact h
theorem vr_in {v w lo hi : Int32} (h : VR v w) (hlo : lo.toInt ≤ 100000) (hhi : hi.toInt < 100000) : (¬ (v < lo ∨ hi < v) ↔ (lo ≤ w ∧ w ≤ hi)) ∧ ((lo ≤ w ∧ w ≤ hi) → v = w) := by
  obtain ⟨h0, h1, h2, h3⟩ := h
  rcases h3 with z | z
  · subst z
    refine ⟨?_, fun _ => rfl⟩
    rw [i_lt, i_lt, i_le, i_le]; omega
  · refine ⟨?_, fun y => ?_⟩
    · rw [i_lt, i_lt, i_le, i_le]; omega
    · have := y.2; rw [i_le] at this; omega
theorem dn_iff {s t : St} (h : SY s t) (h5 : t 111 5 = 0) : dnP s ↔ (48 ≤ mbt (mbl t 111 2) (mbl t 112) (mbl t 111 4) ∧ mbt (mbl t 111 2) (mbl t 112) (mbl t 111 4) ≤ 57) := by
  obtain ⟨e, p1, p2, p3⟩ := h.pl h5
  rw [h.by_ h5, mbtD p1 p3]
  unfold dnP isD
  rw [decide_eq_true_iff]
theorem nu1_k {s : St} {k : Nat} (h4 : k ≠ 4) (h5 : k ≠ 5) (h6 : k ≠ 6) : nu1 s 1 k = s 1 k := by
  unfold nu1; rw [up_k h4]; unfold rq; split
  · exact bl_k h5 h6
  · rfl
theorem nu1_o {s : St} {o : Nat} (h : o ≠ 1) : nu1 s o = s o := by
  unfold nu1; rw [up_o h]; unfold rq; split
  · exact bl_o h
  · rfl
theorem nu1_4 {s : St} : nu1 s 1 4 = s 1 3 := by
  unfold nu1; rw [up_rd]; unfold rq; split
  · exact bl_k (by decide) (by decide)
  · rfl
theorem SY.yn1 {s t : St} (h : SY s t) (h5 : t 111 5 = 0) : SY (nu1 s) (mn1 t) := by
  have e : SY (rq s (b2 (dnP s))) (mn1 t) := by
    unfold rq mn1
    by_cases q : dnP s
    · rw [if_neg (fun z => b2_z z q), if_neg (fun z => b2_z z ((dn_iff h h5).mp q))]; exact h.ybl
    · rw [if_pos (b2_f q), if_pos (b2_f (fun z => q ((dn_iff h h5).mpr z))), (h.pl h5).1]; exact h.ybl.ywr (by decide)
  unfold nu1
  exact e.cl (up_k (by decide)) (up_k (by decide)) (up_k (by decide)) (up_k (by decide)) (up_o (by decide))
theorem SY.ynu {s t : St} (h : SY s t) {lo hi : Int32} (hlo : lo.toInt ≤ 100000) (hhi : hi.toInt < 100000) : SY (nuS s lo hi) (mnS t lo hi) ∧ (mnS t lo hi 111 5 = 0 → nuV (nu1 s) = mnV t lo hi ∧ lo ≤ mnV t lo hi ∧ mnV t lo hi ≤ hi) := by
  by_cases h5 : t 111 5 = 0
  · obtain ⟨e, p1, p2, p3⟩ := h.pl h5
    have hN := h.yn1 h5
    have e2 : mn1 t 111 2 = s 1 2 := by rw [mn1_k (by decide) (by decide), mbl_k (by decide)]; exact h.2.1.symm
    have e4 : mn1 t 111 4 = s 1 3 := by rw [mn1_k (by decide) (by decide)]; exact e.symm
    have eb : mn1 t 112 = s 3 := by rw [mn1_o (by decide)]; exact h.2.2.1.symm
    have eE : nuE (nu1 s) = rn (mn1 t 111 2) (isD (mn1 t 112)) (mn1 t 111 4) := by
      unfold nuE; rw [nu1_k (by decide) (by decide) (by decide), nu1_k (by decide) (by decide) (by decide), nu1_o (by decide), e2, e4, eb]
    have hv : VR (nuV (nu1 s)) (mnv (mn1 t)) := by
      unfold nuV mnv rv
      rw [nu1_k (by decide) (by decide) (by decide), nu1_k (by decide) (by decide) (by decide), nu1_o (by decide), e2, e4, eb]
      exact vr_run p3 _ _ _ _ p1 ⟨by decide, by decide, by decide, Or.inl rfl⟩
    obtain ⟨v1, v2⟩ := vr_in hv hlo hhi
    have hM : SY (mvt (nu1 s) (nuE (nu1 s))) (mn2 t) := by
      have := mn2_p h.1
      unfold mn2 at this ⊢
      rw [eE]; exact hN.ymv this
    have eS : mnS t lo hi = mn3 t lo hi := by unfold mnS; exact if_pos h5
    rw [eS]
    unfold nuS mnV
    rw [if_pos h5]
    by_cases c : lo ≤ mnv (mn1 t) ∧ mnv (mn1 t) ≤ hi
    · have e3 : mn3 t lo hi = mn2 t := by unfold mn3; exact if_neg (fun z => b2_z z c)
      rw [if_neg (v1.mpr c), e3]
      refine ⟨hM, fun z => ?_⟩
      rw [if_pos z]; exact ⟨v2 c, c⟩
    · have e3 : mn3 t lo hi = wr (mn2 t) 2 (mbl t 111 4) := by unfold mn3; exact if_pos (b2_f c)
      rw [if_pos (Decidable.not_not.mp (fun z => c (v1.mp z))), e3, mvt_k (show 4 ≠ 3 by decide), nu1_4, e]
      exact ⟨hM.ywr (by decide), fun z => absurd z (wr_5 (by decide))⟩
  · have eS : mnS t lo hi = t := by unfold mnS; exact if_neg h5
    rw [eS]
    refine ⟨?_, fun z => absurd z h5⟩
    have hs : ¬ s 1 5 = 0 := fun z => h5 (h.2.2.2.1.symm.trans z)
    have eb : ∀ (u : St) (k p : Int32), u 1 5 = s 1 5 → bl u k p = u := fun u k p hu => by unfold bl; rw [if_neg (by rw [hu]; exact hs)]
    have e1 : ∀ k, k ≠ 4 → nu1 s 1 k = s 1 k := fun k hk => by
      unfold nu1; rw [up_k hk]; unfold rq; split
      · rw [eb s _ _ rfl]
      · rfl
    have eM : ∀ k, k ≠ 3 → k ≠ 4 → mvt (nu1 s) (nuE (nu1 s)) 1 k = s 1 k := fun k h3 h4 => by rw [mvt_k h3, e1 k h4]
    have eO : mvt (nu1 s) (nuE (nu1 s)) 3 = s 3 := by rw [mvt_o (by decide), nu1_o (by decide)]
    have eT : ∀ u : St, (∀ k, k ≠ 3 → k ≠ 4 → u 1 k = s 1 k) → u 3 = s 3 → SY u t := fun u hu hb => by
      obtain ⟨a, b, c, d, e, f⟩ := h
      exact ⟨a, (hu 2 (by decide) (by decide)).trans b, hb.trans c, (hu 5 (by decide) (by decide)).trans d, (hu 6 (by decide) (by decide)).trans e, fun z => absurd z h5⟩
    unfold nuS
    split
    · rw [eb _ _ _ (eM 5 (by decide) (by decide))]; exact eT _ eM eO
    · exact eT _ eM eO
/-- .. but for the place -/
def SY0 (s t : St) : Prop := pB t ∧ s 1 2 = t 111 2 ∧ s 3 = t 112 ∧ s 1 5 = t 111 5 ∧ s 1 6 = t 111 6
theorem SY.y0 {s t : St} (h : SY s t) : SY0 s t := ⟨h.1, h.2.1, h.2.2.1, h.2.2.2.1, h.2.2.2.2.1⟩
theorem SY0.yw {s t : St} (h : SY0 s t) {k p : Int32} (hk : ¬ k = 0) : SY (bl s k p) (wr t k p) := by
  obtain ⟨a, b, c, d, e⟩ := h
  refine ⟨wr_p a, ?_, ?_, ?_, ?_, fun z => absurd z (wr_5 hk)⟩
  · rw [bl_k (by decide) (by decide), wr_k (by decide) (by decide)]; exact b
  · rw [bl_o (by decide), wr_o (by decide)]; exact c
  · unfold bl wr
    by_cases z : t 111 5 = 0
    · rw [if_pos z, if_pos (d.trans z), up_k (by decide), up_rd, up_k (by decide), up_rd]
    · rw [if_neg z, if_neg (fun y => z (d.symm.trans y))]; exact d
  · unfold bl wr
    by_cases z : t 111 5 = 0
    · rw [if_pos z, if_pos (d.trans z), up_rd, up_rd]
    · rw [if_neg z, if_neg (fun y => z (d.symm.trans y))]; exact e
theorem SY.yfl {s s' t t' : St} (h : SY s t) (h5 : ¬ t 111 5 = 0) (hp : pB t') (k2 : s' 1 2 = s 1 2) (k3 : s' 3 = s 3) (k5 : s' 1 5 = s 1 5) (k6 : s' 1 6 = s 1 6) (m2 : t' 111 2 = t 111 2) (m3 : t' 112 = t 112) (m5 : t' 111 5 = t 111 5) (m6 : t' 111 6 = t 111 6) : SY s' t' := by
  obtain ⟨a, b, c, d, e, f⟩ := h
  exact ⟨hp, by rw [k2, m2]; exact b, by rw [k3, m3]; exact c, by rw [k5, m5]; exact d, by rw [k6, m6]; exact e, fun z => absurd (m5 ▸ z) h5⟩
