/-! ===== what the law knows; a ship's passing ===== -/
theorem rs9 {σ : St} {k : Nat} {v : Int32} (h : k < 9) : rs σ 55 9 (nI k) v = up σ 56 k v := rs_nI h (by decide)
theorem tls_e {s : St} {ship seen dark m c : Int32} : tls s ship seen dark m c = up (up (up (up (up (up (up s 56 4 (sT s ship)) 56 5 (sD s ship)) 56 6 (sW s ship)) 56 0 seen) 56 1 dark) 56 2 m) 56 3 c := by
  unfold tls ts3 ts2 ts1
  have r : ∀ (σ : St) (k : Nat) (v : Int32), k < 9 → rs σ 55 9 (nI k) v = up σ 56 k v := fun σ k v h => rs9 h
  rw [show rs s 55 9 4 (sT s ship) = up s 56 4 (sT s ship) from r s 4 _ (by decide)]
  rw [show sD (up s 56 4 (sT s ship)) ship = sD s ship from by unfold sD; rw [up_o (by decide)]]
  rw [show rs (up s 56 4 (sT s ship)) 55 9 5 (sD s ship) = up (up s 56 4 (sT s ship)) 56 5 (sD s ship) from r _ 5 _ (by decide)]
  rw [show sW (up (up s 56 4 (sT s ship)) 56 5 (sD s ship)) ship = sW s ship from by unfold sW; rw [up_o (by decide), up_o (by decide)]]
  rw [show rs (up (up s 56 4 (sT s ship)) 56 5 (sD s ship)) 55 9 6 (sW s ship) = up (up (up s 56 4 (sT s ship)) 56 5 (sD s ship)) 56 6 (sW s ship) from r _ 6 _ (by decide)]
  rw [show ∀ σ : St, rs σ 55 9 0 seen = up σ 56 0 seen from fun σ => r σ 0 _ (by decide)]
  rw [show ∀ σ : St, rs σ 55 9 1 dark = up σ 56 1 dark from fun σ => r σ 1 _ (by decide)]
  rw [show ∀ σ : St, rs σ 55 9 2 m = up σ 56 2 m from fun σ => r σ 2 _ (by decide)]
  rw [show ∀ σ : St, rs σ 55 9 3 c = up σ 56 3 c from fun σ => r σ 3 _ (by decide)]
theorem j9 {P : Nat → Prop} (h0 : P 0) (h1 : P 1) (h2 : P 2) (h3 : P 3) (h4 : P 4) (h5 : P 5) (h6 : P 6) (h7 : P 7) (h8 : P 8) : ∀ j, j < 9 → P j := by
  intro j hj
  have hc : j = 0 ∨ j = 1 ∨ j = 2 ∨ j = 3 ∨ j = 4 ∨ j = 5 ∨ j = 6 ∨ j = 7 ∨ j = 8 := by omega
  rcases hc with rfl | rfl | rfl | rfl | rfl | rfl | rfl | rfl | rfl <;> assumption
theorem kn_LK {s t : St} {i : Nat} {seen dark m c ng' fg : Int32} (h2 : sT s (nI i) = t (161 + i) 2) (h3 : sD s (nI i) = t (161 + i) 3) (h1 : sW s (nI i) = t (161 + i) 1) (h7 : s 56 7 = ng') (h8 : s 56 8 = fg) : LK (tls s (nI i) seen dark m c) (knS t i seen dark m c ng' fg) := by
  unfold LK
  rw [tls_e, h2, h3, h1]
  have e : ∀ k, t (161 + i) k = (kn1 t seen dark m c) (161 + i) k := fun k => by unfold kn1; rw [up_o (by omega), up_o (by omega), up_o (by omega), up_o (by omega)]
  unfold knS kn2
  rw [e 2, e 3, e 1]
  generalize (kn1 t seen dark m c) (161 + i) 2 = x2
  generalize (kn1 t seen dark m c) (161 + i) 3 = x3
  generalize (kn1 t seen dark m c) (161 + i) 1 = x1
  unfold kn1
  apply j9
  · simp [up, upd]
  · simp [up, upd]
  · simp [up, upd]
  · simp [up, upd]
  · simp [up, upd]
  · simp [up, upd]
  · simp [up, upd]
  · simp [up, upd]; exact h7
  · simp [up, upd]; exact h8
theorem and31 (x : Int32) : ∃ k, k < 32 ∧ x &&& 31 = nI k := by
  refine ⟨x.toBitVec.toNat % 32, Nat.mod_lt _ (by decide), ?_⟩
  apply Int32.toBitVec_inj.mp
  apply BitVec.eq_of_toNat_eq
  rw [Int32.toBitVec_and]
  show (x.toBitVec &&& 31#32).toNat = (BitVec.ofNat 32 (x.toBitVec.toNat % 32)).toNat
  rw [BitVec.toNat_and, BitVec.toNat_ofNat, BitVec.toNat_ofNat]
  show x.toBitVec.toNat &&& (2 ^ 5 - 1) = _
  rw [Nat.and_two_pow_sub_one_eq_mod]
  exact (Nat.mod_eq_of_lt (by omega)).symm
theorem sh1 : ∀ k : Fin 32, ¬ (1 : Int32) <<< nI k.val = 0 := by decide
theorem sh1_ne (x : Int32) : ¬ (1 : Int32) <<< (x &&& 31) = 0 := by
  obtain ⟨k, hk, e⟩ := and31 x
  rw [e]; exact sh1 ⟨k, hk⟩
/-- what a passing has looked at stands in 86 and 88: flashes seen, minutes in the dark -/
def dkM (σ : St) (m : Nat) : Int32 := it (fun k la => trL σ 122 k la) 0 m
theorem dkM_s {σ : St} {m : Nat} : dkM σ (m + 1) = trL σ 122 m (dkM σ m) := rfl
def PS (σ s : St) : Prop := (∀ o, o ≠ 56 → o ≠ 58 → o ≠ 86 → o ≠ 88 → o ≠ 90 → o ≠ 92 → o < 111 → s o = σ o) ∧ (∀ m, m < tl σ 0 → s 86 m = msb σ 122 (nI m) (nI m) ∧ s 88 m = nI m - dkM σ (m + 1)) ∧ s 56 7 = σ 122 27 ∧ s 56 8 = σ 122 28
theorem lfl_eq {s σ : St} {c m r : Int32} (h83 : s 83 = σ 83) (h10 : s 10 = σ 10) (h12 : s 12 = σ 12) (h6 : s 6 = σ 6) : lfl s 81 c m r = lfl σ 81 c m r := by
  unfold lfl lfP ng lX lP cM; simp only [h10, h12, h6, show s (81 + 2) = σ (81 + 2) from h83]
theorem dfl_eq {s σ : St} {c m r : Int32} (h83 : s 83 = σ 83) (h16 : s 16 = σ 16) (h6 : s 6 = σ 6) : dfl s 81 c m r = dfl σ 81 c m r := by
  unfold dfl dfP Jvm.Pilot.CDonkeyLightLaw_law_r8509_9544ed.dat ng dP cM; simp only [h16, h6, show s (81 + 2) = σ (81 + 2) from h83]
theorem rch_eq {s σ : St} (h83 : s 83 = σ 83) (h4 : s 4 = σ 4) : rch s 81 = rch σ 81 := by
  unfold rch ng; rw [show s (81 + 2) = σ (81 + 2) from h83, h4]
theorem pb0_56 {σ : St} : pb0 σ 81 56 7 = ng σ 81 0 ∧ pb0 σ 81 56 8 = ng σ 81 1 := by
  have e : ∀ i, ng (fl (fl σ 90 72 (fun _ => 0)) 92 72 (fun _ => 0)) 81 i = ng σ 81 i := fun i => by unfold ng; rw [fl_o (by decide), fl_o (by decide)]
  unfold pb0 tln
  rw [e, e]
  rw [show ∀ (u : St) (v : Int32), rs u 55 9 7 v = up u 56 7 v from fun u v => rs9 (k := 7) (by decide), show ∀ (u : St) (v : Int32), rs u 55 9 8 v = up u 56 8 v from fun u v => rs9 (k := 8) (by decide)]
  exact ⟨by rw [up_k (by decide), up_rd], up_rd⟩
theorem pb1_86 {s : St} {r : Int32} : ∀ n, n ≤ 12 → ∀ m, m < n → pb1 s 81 r n 86 m = lfl s 81 (nI m) (nI m) r + dfl s 81 (nI m) (nI m) r := by
  intro n
  induction n with
  | zero => intro _ m hm; omega
  | succ n ih =>
    intro hn m hm
    have eS : pb1 s 81 r (n + 1) = rs (pb1 s 81 r n) 85 12 (nI n) (lfl (pb1 s 81 r n) 81 (nI n) (nI n) r + dfl (pb1 s 81 r n) 81 (nI n) (nI n) r) := rfl
    rw [eS, rs_nI (by omega) (by decide), lfl_eq (σ := s) (pb1_o (by decide)) (pb1_o (by decide)) (pb1_o (by decide)) (pb1_o (by decide)), dfl_eq (σ := s) (pb1_o (by decide)) (pb1_o (by decide)) (pb1_o (by decide))]
    show up (pb1 s 81 r n) 86 n _ 86 m = _
    by_cases q : m = n
    · subst q; rw [up_rd]
    · rw [up_k q]; exact ih (by omega) m (by omega)
theorem rdk_88 {σ s : St} (h : ∀ m, m < tl σ 0 → s 86 m = msb σ 122 (nI m) (nI m)) (hb : tl σ 0 ≤ 12) : ∀ n, n ≤ tl σ 0 → (rdk s n).2 = dkM σ n ∧ ∀ m, m < n → (rdk s n).1 88 m = nI m - dkM σ (m + 1) := by
  intro n
  induction n with
  | zero => intro _; exact ⟨rfl, fun m hm => absurd hm (Nat.not_lt_zero m)⟩
  | succ n ih =>
    intro hn
    obtain ⟨h1, h2⟩ := ih (by omega)
    have e86 : rg ((rdk s n).1 86) 12 (nI n) = msb σ 122 (nI n) (nI n) := by rw [rdk_o (by decide), rg_nI (by omega) (by decide)]; exact h n (by omega)
    have key : ∀ v la : Int32, rdk s (n + 1) = (rs (rdk s n).1 87 12 (nI n) v, la) → dkM σ (n + 1) = la → v = nI n - la → (rdk s (n + 1)).2 = dkM σ (n + 1) ∧ ∀ m, m < n + 1 → (rdk s (n + 1)).1 88 m = nI m - dkM σ (m + 1) := by
      intro v la e1 e2 e3
      rw [e1]
      refine ⟨e2.symm, fun m hm => ?_⟩
      rw [rs_nI (by omega) (by decide)]
      show up (rdk s n).1 88 n v 88 m = _
      by_cases q : m = n
      · subst q; rw [up_rd, e2]; exact e3
      · rw [up_k q]; exact h2 m (by omega)
    by_cases hc : msb σ 122 (nI n) (nI n) ≤ 0
    · refine key _ _ (rdk_1 (by rw [e86]; exact hc)) ?_ (by rw [h1])
      rw [dkM_s]; unfold trL; rw [if_pos hc, h1]
    · refine key _ _ (rdk_2 (by rw [e86]; exact hc)) ?_ rfl
      rw [dkM_s]; unfold trL; rw [if_neg hc]
theorem PS_begin {σ : St} (h : RC σ) (hn : RNs σ) : PS σ (pbS σ 81) := by
  have b0 := h.b.1
  have o0 : ∀ o, o ≠ 56 → o ≠ 90 → o ≠ 92 → pb0 σ 81 o = σ o := fun o a b c => pb0_o a b c
  have e6 : ct (cM (pb0 σ 81) 0) = tl σ 0 := by
    unfold cM; rw [o0 6 (by decide) (by decide) (by decide)]; show ct (cM σ 0) = _; rw [h.m0]
  have eb : pbS σ 81 = (rdk (pb1 (pb0 σ 81) 81 (rch (pb0 σ 81) 81) (tl σ 0)) (tl σ 0)).1 := by unfold pbS; rw [e6]
  have h86 : ∀ m, m < tl σ 0 → pb1 (pb0 σ 81) 81 (rch (pb0 σ 81) 81) (tl σ 0) 86 m = msb σ 122 (nI m) (nI m) := fun m hm => by
    rw [pb1_86 _ b0 m hm, lfl_eq (σ := σ) (o0 83 (by decide) (by decide) (by decide)) (o0 10 (by decide) (by decide) (by decide)) (o0 12 (by decide) (by decide) (by decide)) (o0 6 (by decide) (by decide) (by decide)), dfl_eq (σ := σ) (o0 83 (by decide) (by decide) (by decide)) (o0 16 (by decide) (by decide) (by decide)) (o0 6 (by decide) (by decide) (by decide)), rch_eq (σ := σ) (o0 83 (by decide) (by decide) (by decide)) (o0 4 (by decide) (by decide) (by decide))]
    exact q_seen h hn (by omega) (by rw [i_nI (by omega)]; omega) (by rw [i_nI (by omega)]; omega)
  obtain ⟨-, h88⟩ := rdk_88 h86 b0 (tl σ 0) (Nat.le_refl _)
  refine ⟨fun o a b c d e f _ => pbS_o a e f c d, fun m hm => ⟨?_, ?_⟩, ?_, ?_⟩
  · rw [eb, rdk_o (by decide)]; exact h86 m hm
  · rw [eb]; exact h88 m hm
  · rw [eb, rdk_o (by decide), pb1_o (by decide), pb0_56.1]; exact (ng_nI (i := 0) (by decide)).trans hn.1.night
  · rw [eb, rdk_o (by decide), pb1_o (by decide), pb0_56.2]; exact (ng_nI (i := 1) (by decide)).trans hn.1.fog.1
/-- t's reference part is that of σ but for what the reference reckons with on the way (and the place of a refusal) -/
def sx (σ t : St) : Prop := (∀ o, 111 < o → o ≠ 120 → o ≠ 121 → t o = σ o) ∧ ∀ f, 0 < f → f < 41 → t 111 f = σ 111 f
theorem sx.rf {σ : St} : sx σ σ := ⟨fun _ _ _ _ => rfl, fun _ _ _ => rfl⟩
theorem sx.tr {σ t u : St} (h : sx σ t) (h2 : sx t u) : sx σ u := ⟨fun o a b c => (h2.1 o a b c).trans (h.1 o a b c), fun f a b => (h2.2 f a b).trans (h.2 f a b)⟩
theorem sq.x {σ t : St} (h : sq σ t) : sx σ t := ⟨fun o a b c => h.1 o (by omega) b c, fun f _ b => h.2 f b⟩
theorem sx.t9 {σ t : St} (h : sx σ t) : sx σ (up t 111 0 0) := ⟨fun o a b c => by rw [up_o (by omega)]; exact h.1 o a b c, fun f a b => by rw [up_k (by omega)]; exact h.2 f a b⟩
theorem sx.bS {σ t : St} (h : sx σ t) : sx σ (mbS t) := h.tr (sq.rf.bS).x
theorem sx.up1 {σ t : St} (h : sx σ t) {k : Nat} {v : Int32} (hk : 41 ≤ k) : sx σ (up t 111 k v) := h.tr (sq.rf.up1 hk).x
theorem sx.t0 {σ t : St} (h : sx σ t) : sx σ (tr0 t) := h.tr (sq.rf.t0).x
theorem sx.t3 {σ t : St} (h : sx σ t) {o s m : Nat} {la : Int32} : sx σ (tr3 t o s m la) := h.tr (sq.rf.t3).x
theorem sx.tS {σ t : St} (h : sx σ t) {o s m : Nat} {la : Int32} : sx σ (trS t o s m la) := h.tr (sq.rf.tS).x
theorem sx.tF {σ t : St} (h : sx σ t) {o s : Nat} : sx σ (trF t o s) := h.tr (sq.rf.tF).x
theorem sx.sf {σ t : St} (h : sx σ t) {o n : Nat} : sx σ (msf t o n).2 := h.tr (sq.rf.sf).x
theorem sx.wr {σ t : St} (h : sx σ t) {ships : Int32} {n : Nat} : sx σ (mwr t ships n).2 := h.tr (sq.rf.wr).x
theorem sx.law {σ t : St} (h : sx σ t) (hL : lawOK σ) : lawOK t := lawOK_eq (fun o h1 h2 => h.1 o (by omega) (by omega) (by omega)) (h.2 23 (by decide) (by decide)) hL
theorem sx.w {σ t : St} (h : sx σ t) (hw : mW σ) : mW t := mW_eq (h.1 115 (by decide) (by decide) (by decide)) (fun o h1 h2 => h.1 o (by omega) (by omega) (by omega)) (h.2 23 (by decide) (by decide)) (h.2 37 (by decide) (by decide)) hw
