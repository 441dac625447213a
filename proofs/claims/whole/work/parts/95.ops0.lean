/-! WHAT THE REFERENCE LEAVES; the invariant RV of the law's loop -/
def RS (s u : St) : Prop := (∀ o, o ≠ 111 → o ≠ 120 → o ≠ 121 → o ≠ 123 → u o = s o) ∧ ∀ f, 0 < f → f < 41 → u 111 f = s 111 f
theorem RS.rf {s : St} : RS s s := ⟨fun _ _ _ _ _ => rfl, fun _ _ _ => rfl⟩
theorem RS.tr {s u v : St} (h : RS s u) (h2 : RS u v) : RS s v := ⟨fun o a b c d => (h2.1 o a b c d).trans (h.1 o a b c d), fun f a b => (h2.2 f a b).trans (h.2 f a b)⟩
theorem RS.t {s : St} : RS s (t0 s) := ⟨fun o a _ _ _ => up_o a, fun f a _ => up_k (by omega)⟩
theorem RS.q {s u : St} (h : sq s u) : RS s u := ⟨fun o a b c _ => h.1 o a b c, fun f _ b => h.2 f b⟩
theorem RS.wq {s u : St} (h : wq s u) : RS s u := ⟨h.1, fun f _ b => h.2.1 f b⟩
theorem RS.vq {s u : St} (h : vq s u) : RS s u := ⟨h.1, fun f _ b => h.2.1 f b⟩
theorem RS.p0 {s : St} : RS s (pt0 s) := ⟨fun o _ _ _ d => fl_o d, fun f _ _ => by unfold pt0; rw [fl_o (by decide)]⟩
theorem RS.b0 {s : St} {seed : Int32} : RS s (wb0 s seed) := ⟨fun o a _ _ d => by unfold wb0; rw [up_o a, up_o a, fl_o d], fun f _ b => by unfold wb0; rw [up_k (by omega), up_k (by omega), fl_o (by decide)]⟩
theorem pt0_0 {s : St} : pt0 s 111 0 = s 111 0 := by unfold pt0; rw [fl_o (by decide)]
theorem wb0_0 {s : St} {seed : Int32} : wb0 s seed 111 0 = s 111 0 := by unfold wb0; rw [up_k (by decide), up_k (by decide), fl_o (by decide)]
theorem rs_wn {s : St} {seed q : Int32} {n : Nat} (hw : mW s) : RS s (mwn s seed n q) ∧ mwn s seed n q 111 0 = s 111 0 ∧ mW (mwn s seed n q) := by
  have h0 : RS s (wb0 s seed) := RS.b0
  have hw0 : mW (wb0 s seed) := mW_eq (h0.1 115 (by decide) (by decide) (by decide) (by decide)) (fun o a b => h0.1 o (by omega) (by omega) (by omega) (by omega)) (h0.2 23 (by decide) (by decide)) (h0.2 37 (by decide) (by decide)) hw
  have h1 : wq (wb0 s seed) (mwn s seed n q) := by
    unfold mwn
    exact wq.yR wq.rf hw0
  exact ⟨h0.tr (RS.wq h1), (h1.2.1 0 (by decide)).trans wb0_0, h1.w hw0⟩
theorem rs_sp {s : St} {seed q : Int32} {n : Nat} (hw : mW s) : ∀ m, RS s (mspn s seed n q m).2 ∧ (mspn s seed n q m).2 111 0 = s 111 0 ∧ mW (mspn s seed n q m).2
  | 0 => ⟨RS.rf, rfl, hw⟩
  | m + 1 => by
    obtain ⟨a, b, c⟩ := rs_sp (s := s) (seed := seed) (q := q) (n := n) hw m
    obtain ⟨d, e, f⟩ := rs_wn (s := (mspn s seed n q m).2) (seed := seed + nI m) (q := q) (n := n) c
    exact ⟨a.tr d, e.trans b, f⟩
theorem mco_rt : ∀ (N : Nat) (t : St), rtW (t 114) → rtW (mcoR N t 114) := by
  intro N
  induction N with
  | zero => intro t h; exact h
  | succ N ih =>
    intro t hr
    rw [mcoR]; split
    · exact ih _ (by rw [mbl_o (by decide)]; exact mcl_rt hr)
    · exact hr
/-- a coast read: nothing thrown; the steps stay -/
theorem co_fr {τ : St} {n : Int32} : mcoS τ n 111 0 = 0 ∧ ∀ s, s < 80 → mcoS τ n (511 + s) = τ (511 + s) := by
  obtain ⟨fo, ff, f1⟩ := mcoF_f (τ := τ) (n := n)
  have hrt0 : rtW (mco0 τ n 114) := by unfold mco0; exact mtn_rt
  have f0 : mcoF τ n 111 0 = 0 := by
    show mcoR 601 (mco0 τ n) 111 0 = _
    rw [(MF_mco 601 (mco0 τ n) hrt0).2 0 (by decide)]; unfold mco0; rw [mtn_o (by decide), mst_3 (by decide)]; unfold t0; rw [up_rd]
  have hrt : rtW (mcoF τ n 114) := mco_rt 601 _ hrt0
  unfold mcoS
  split
  · obtain ⟨-, -, -, b9, b10⟩ := ba_e (s := up (mcoF τ n) 111 3 (-1)) (by rw [up_o (by decide)]; exact hrt)
    refine ⟨by rw [b10 0 (by decide) (by decide) (by decide) (by decide) (by decide), up_k (by decide)]; exact f0, fun s hs => ?_⟩
    rw [b9 _ (by omega) (by omega) (by omega) (by omega) (by omega) (by omega), up_o (by omega)]
    exact fo _ ⟨by omega, by omega, by omega, by omega, by omega, by omega, by omega⟩
  · refine ⟨by rw [up_k (by decide)]; exact f0, fun s hs => ?_⟩
    rw [up_o (by omega)]
    exact fo _ ⟨by omega, by omega, by omega, by omega, by omega, by omega, by omega⟩
/-- a law read -/
theorem lw_fr {σ τ : St} {n : Int32} (hb : σ 3 = τ 112) (h0 : 0 ≤ n.toInt) (h1 : n.toInt ≤ 150) : mlwS τ n 111 0 = 0 ∧ ∀ s, s < 80 → mlwS τ n (511 + s) = τ (511 + s) := by
  obtain ⟨fo, ff, f3, f1⟩ := mlwG_f (τ := τ) (n := n) h0 h1
  obtain ⟨-, hD⟩ := lw_read (σ := σ) (τ := τ) (n := n) hb h0 h1
  have f0 : mlwG τ n 111 0 = 0 := by
    have g := gf_N 6 0 rfl (by decide) _ (mlw0_L (σ := τ) h0 h1) mlw0_8
    have gb : MG (mlw0 τ n) (mlwG τ n) := by
      unfold mlwG mlwF
      have gb : MG (msN 6 (mlw0 τ n)) (mbl (msN 6 (mlw0 τ n))) := ⟨fun o a _ => mbl_o a, fun k a _ _ _ _ => mbl_k a⟩
      split
      · exact (g.tr gb).tr MG_wr
      · exact g.tr gb
    rw [gb.2 0 (by decide) (by decide) (by decide) (by decide) (by decide)]; unfold mlw0; rw [up_k (by decide), mst_3 (by decide)]; unfold t0; rw [up_rd]
  by_cases f : mlwG τ n 111 5 = 0
  · have e : mlwS τ n = lay (mlwH (mlwG τ n)) 327 167 2 (ct (mlwH (mlwG τ n) 111 23)) := by unfold mlwS; exact if_pos f
    obtain ⟨-, -, d1, d2⟩ := hD f
    have c : ct (mlwH (mlwG τ n) 111 23) ≤ 150 := by
      unfold mlwH; rw [up_rd]; unfold ct; omega
    rw [e]
    refine ⟨by rw [lay_o (by omega)]; unfold mlwH; rw [up_k (by decide), up_k (by decide)]; exact f0, fun s hs => ?_⟩
    rw [lay_o (by omega)]; unfold mlwH; rw [up_o (by omega), up_o (by omega)]
    exact fo _ (by omega) (by omega)
  · have e : mlwS τ n = up (mlwG τ n) 111 3 (mlwG τ n 111 6) := by unfold mlwS; exact if_neg f
    rw [e]
    refine ⟨by rw [up_k (by decide)]; exact f0, fun s hs => ?_⟩
    rw [up_o (by omega)]
    exact fo _ (by omega) (by omega)
/-- a log read -/
theorem lg_fr {τ : St} {n : Int32} (h0 : 0 ≤ n.toInt) (h1 : n.toInt ≤ 100) : mlgS τ n 111 0 = 0 ∧ ∀ s, s < 80 → mlgS τ n (511 + s) = τ (511 + s) := by
  obtain ⟨fo, ff, f1⟩ := mlgF_f (τ := τ) (n := n) h0 h1
  obtain ⟨g, g2⟩ := MHL_R 101 0 (mst (t0 τ) n) (mst_p h0 (by omega)) (by decide)
  have f0 : (mlgF τ n).1 111 0 = 0 := by
    show (mlgR 101 (mst (t0 τ) n) 0).1 111 0 = _
    rw [g.2 0 (by decide) (by decide) (by decide), mst_3 (by decide)]; unfold t0; rw [up_rd]
  have g3 : (mlgF τ n).2 ≤ 12 := g2
  unfold mlgS
  split
  · have c : ct (nI (mlgF τ n).2) ≤ 12 := by unfold ct; rw [i_nI (by omega)]; omega
    refine ⟨by rw [lay_o (by omega), up_k (by decide), up_k (by decide)]; exact f0, fun s hs => ?_⟩
    rw [lay_o (by omega), up_o (by omega), up_o (by omega)]
    exact fo _ (by omega) (by omega)
  · refine ⟨by rw [up_k (by decide)]; exact f0, fun s hs => ?_⟩
    rw [up_o (by omega)]
    exact fo _ (by omega) (by omega)
/-- a work read and done: nothing thrown -/
theorem wk_fr {σ : St} {n : Int32} {w : Nat} (h0 : 0 ≤ n.toInt) (h1 : n.toInt ≤ 150) (hw : mW (t0 σ)) (hr : rW (t0 σ) 122) (h2 : 0 ≤ ((t0 σ) 115 2).toInt ∧ ((t0 σ) 115 2).toInt ≤ 3) (h3 : 0 ≤ ((t0 σ) 115 3).toInt ∧ ((t0 σ) 115 3).toInt ≤ 6) (hst : ∀ s, s < 80 → 0 ≤ ((t0 σ) (511 + s) 1).toInt) (h38 : (t0 σ) 111 38 = nI w) (hw16 : w < 16) : wkS σ n w 111 0 = 0 := by
  have hF : fk (wk0 σ n) (wkF σ n) := fk_R (fk_N 6) 151 _ _ fk.rf
  have f0 : wkF σ n 111 0 = 0 := by
    rw [hF 0 (by decide)]; unfold wk0; rw [up_k (by decide), mst_3 (by decide)]; unfold t0; rw [up_rd]
  by_cases f : wkF σ n 111 5 = 0
  · obtain ⟨-, -, w3, w4, w5, -, -⟩ := wk_facts (w := w) h0 h1 hw hr h2 h3 hst h38 hw16 f
    have e : wkS σ n w = mgN 6 0 (sN (wkF σ n)) (wkG (wkF σ n) w) := by unfold wkS; exact if_pos f
    rw [e, (gfr_N 6 0 _ _ w3 w4 w5.1.1).2.1 0 (by decide) (by decide)]
    unfold wkG
    rw [up_k (by decide), up_k (by decide), up_k (by decide), up_k (by decide), fl_o (by omega), up_k (by decide)]
    exact f0
  · have e : wkS σ n w = up (wkF σ n) 111 3 (wkF σ n 111 6) := by unfold wkS; exact if_neg f
    rw [e, up_k (by decide)]; exact f0
/-- THE INVARIANT of the law's loop -/
def RV (σ : St) : Prop := RA σ ∧ ∀ s, s < 80 → 0 ≤ (σ (511 + s) 1).toInt
/-- a question: the class wrote scratch alone, the reference its own -/
theorem RV.q {σ s u : St} (h : RV σ) (hs : FS σ s) (hu : RS s u) : RV u := by
  have e : ∀ o, o ≠ 111 → o ≠ 120 → o ≠ 121 → o ≠ 123 → scr o = false → u o = σ o := fun o a b c d k => (hu.1 o a b c d).trans (hs o k)
  refine ⟨RA_sc h.1 (fun o ho => e o (by omega) (by omega) (by omega) (by omega) ?_) (e 0 (by decide) (by decide) (by decide) (by decide) rfl) (e 1 (by decide) (by decide) (by decide) (by decide) rfl) (e 3 (by decide) (by decide) (by decide) (by decide) rfl) (e 68 (by decide) (by decide) (by decide) (by decide) rfl) (e 102 (by decide) (by decide) (by decide) (by decide) rfl) (e 112 (by decide) (by decide) (by decide) (by decide) rfl) (e 113 (by decide) (by decide) (by decide) (by decide) rfl) (fun f a b => (hu.2 f a b).trans (by rw [hs 111 rfl])), fun k hk => ?_⟩
  · unfold scr; simp; omega
  · rw [e (511 + k) (by omega) (by omega) (by omega) (by omega) (by unfold scr; simp; omega)]
    exact h.2 k hk
theorem mrf_t {σ : St} {w : Int32} {r : Nat} : mrf σ w r 111 0 = w := by unfold mrf; rw [up_o (by decide), up_rd]
/-- a call that both refuse -/
theorem RV.i {σ : St} (h : RV σ) {w : Int32} : RV (mrf (up σ 0 16 (σ 0 16 + 1)) w 1) := by
  have e : ∀ o, o ≠ 0 → o ≠ 111 → o ≠ 113 → mrf (up σ 0 16 (σ 0 16 + 1)) w 1 o = σ o := fun o a b c => by unfold mrf t0; rw [up_o c, up_o b, up_o b, up_o a]
  refine ⟨RA_ref h.1 (fun o ho => e o (by omega) (by omega) (by omega)) (e 1 (by decide) (by decide) (by decide)) (e 3 (by decide) (by decide) (by decide)) (e 68 (by decide) (by decide) (by decide)) (e 102 (by decide) (by decide) (by decide)) (e 112 (by decide) (by decide) (by decide)) (fun f a b => ?_) rfl (Or.inr ⟨rfl, rfl, rfl, rfl⟩), fun k hk => by rw [e _ (by omega) (by omega) (by omega)]; exact h.2 k hk⟩
  unfold mrf t0; rw [up_o (by decide), up_k (by omega), up_k (by omega), up_o (by decide)]
theorem RV.n {σ : St} (h : RV σ) {w : Int32} : RV (mrf (up σ 0 15 (σ 0 15 + 1)) w 0) := by
  have e : ∀ o, o ≠ 0 → o ≠ 111 → o ≠ 113 → mrf (up σ 0 15 (σ 0 15 + 1)) w 0 o = σ o := fun o a b c => by unfold mrf t0; rw [up_o c, up_o b, up_o b, up_o a]
  refine ⟨RA_ref h.1 (fun o ho => e o (by omega) (by omega) (by omega)) (e 1 (by decide) (by decide) (by decide)) (e 3 (by decide) (by decide) (by decide)) (e 68 (by decide) (by decide) (by decide)) (e 102 (by decide) (by decide) (by decide)) (e 112 (by decide) (by decide) (by decide)) (fun f a b => ?_) rfl (Or.inl ⟨rfl, rfl, rfl, rfl⟩), fun k hk => by rw [e _ (by omega) (by omega) (by omega)]; exact h.2 k hk⟩
  unfold mrf t0; rw [up_o (by decide), up_k (by omega), up_k (by omega), up_o (by decide)]
theorem RV.c {σ : St} (h : RV σ) : RC σ := h.1.1.1
theorem RV.ns {σ : St} (h : RV σ) : RNs σ := h.1.2.1
theorem RV.l {σ : St} (h : RV σ) : LW σ σ := h.1.1.2.1
theorem RV.o {σ : St} (h : RV σ) : lawOK σ := h.1.1.2.2.1
theorem RV.g {σ : St} (h : RV σ) : RG σ σ := h.1.1.2.2.2.1
theorem RV.cd {σ : St} (h : RV σ) : tl σ 2 = 0 ∨ 0 < tl σ 0 := h.1.1.2.2.2.2.1
theorem RV.dr {σ : St} (h : RV σ) : ∀ k, k < tl σ 4 → 1 ≤ (σ 119 k).toInt := h.1.1.2.2.2.2.2.1
theorem RV.c40 {σ : St} (h : RV σ) : C40 σ := h.1.1.2.2.2.2.2.2
theorem RV.mw {σ s : St} (h : RV σ) (hs : FS σ s) : mW (t0 s) := (hs.sx.t9).w h.1.1.mw
theorem RV.rw_ {σ s : St} (h : RV σ) (hs : FS σ s) : rW (t0 s) 122 := by
  have := RX.rw_ (o := 122) h.1.2.1
  unfold rW t0 at *; rw [up_o (by decide), hs 122 rfl]; exact this
theorem RV.qq {σ : St} (h : RV σ) : RQ σ := h.1.2.2.2
/-! numbers -/
theorem ix_of {x c : Int32} (h0 : ¬ x < 0) (h1 : x < c) : ∃ i : Nat, x = nI i ∧ i < ct c := by
  have a : 0 ≤ x.toInt := by rw [i_lt] at h0; have : (0 : Int32).toInt = 0 := rfl; omega
  rw [i_lt] at h1
  exact ⟨x.toInt.toNat, (nI_bk a).symm, by unfold ct; omega⟩
theorem lit_of {x : Int32} {n : Nat} (hn : n < 100000) (h0 : ¬ x < 0) (h1 : x ≤ nI n) : ∃ i : Nat, x = nI i ∧ i ≤ n := by
  have a : 0 ≤ x.toInt := by rw [i_lt] at h0; have : (0 : Int32).toInt = 0 := rfl; omega
  rw [i_le, i_nI (by omega)] at h1
  exact ⟨x.toInt.toNat, (nI_bk a).symm, by omega⟩
theorem nn0 {x : Int32} (h : ¬ x < 0) : 0 ≤ x := by rw [i_lt] at h; rw [i_le]; omega
theorem nn1 {x : Int32} (h : 0 ≤ x) : ¬ x < 0 := by rw [i_le] at h; rw [i_lt]; omega
theorem nn2 {x : Int32} (h : ¬ x < 1) : 1 ≤ x := by rw [i_lt] at h; rw [i_le]; omega
theorem nn3 {x : Int32} (h : 1 ≤ x) : ¬ x < 1 := by rw [i_le] at h; rw [i_lt]; omega
theorem nnz {x : Int32} (h : ¬ x < 0) : 0 ≤ x.toInt := by rw [i_lt] at h; have : (0 : Int32).toInt = 0 := rfl; omega
theorem nnl {x : Int32} {n : Nat} (hn : n < 100000) (h : x ≤ nI n) : x.toInt ≤ n := by rw [i_le, i_nI (by omega)] at h; exact h
