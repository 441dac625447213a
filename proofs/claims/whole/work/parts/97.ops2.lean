/-! the law's calls: would, tried, blind, put, save, fits, look, code, wink, carriers, share, drawn, flash, reefs, brightest, wrecks, winter, span -/
theorem oc_would {l : Launch} (hl : l.stackTraces = false) {G : Gz} (hG : zI G) {ao : Nat} {cL : ClassId} (hao : ∀ o, o < 610 → G.1 o ≠ ao) {A : Nat → Prop} {X : Cx} {sb L j : Nat} {ks : Nat → Int32} {σ : St} {w9 : Int64} {c9 n9 : Nat} (hg : Gl G ao cL A X sb L ks) (hj : 8 * j + 8 ≤ L) (h : RV σ) (hr : c9 + 1 ≤ (xR X).cells ∧ n9 + 6 ≤ (xR X).slots) (K : ∀ (σ2 : St) (v1 : Int64), RV σ2 → JO l G ao cL A X 8 σ2 v1 (c9 + 1) (n9 + 6) 2417 (zLS G ao sb j) []) : JO l G ao cL A X 8 σ w9 c9 n9 927 (zLS G ao sb j) [] := by
  obtain ⟨a1, e1⟩ : ∃ a, ks (8 * j + 1) = a := ⟨_, rfl⟩
  obtain ⟨a2, e2⟩ : ∃ a, ks (8 * j + 2) = a := ⟨_, rfl⟩
  obtain ⟨a3, e3⟩ : ∃ a, ks (8 * j + 3) = a := ⟨_, rfl⟩
  obtain ⟨a4, e4⟩ : ∃ a, ks (8 * j + 4) = a := ⟨_, rfl⟩
  obtain ⟨a5, e5⟩ : ∃ a, ks (8 * j + 5) = a := ⟨_, rfl⟩
  obtain ⟨a6, e6⟩ : ∃ a, ks (8 * j + 6) = a := ⟨_, rfl⟩
  obtain ⟨a7, e7⟩ : ∃ a, ks (8 * j + 7) = a := ⟨_, rfl⟩
  have h0 : RV (t0 σ) := h.q FS.rf RS.t
  by_cases u : ((¬ a1 < 0) ∧ (a1 < rg (σ 6) 6 3))
  · by_cases v : (((¬ a2 < 0) ∧ (a2 ≤ 20)) ∧ ((¬ a3 < 0) ∧ (a3 ≤ 20)) ∧ ((¬ a4 < 0) ∧ (a4 ≤ 11)) ∧ ((¬ a5 < 0) ∧ (a5 ≤ 11)) ∧ ((¬ a6 < 0) ∧ (a6 ≤ 500)) ∧ ((¬ a7 < 0) ∧ (a7 ≤ 1)))
    · skip
      obtain ⟨i, qi, hi⟩ := ix_of u.1 (lt_of_lt_of_eq' u.2 h.c.m3)
      subst qi
      have hi : i < tl σ 3 := hi
      have hs : FS σ (lwS (tls (tln σ a6 a7) (nI i) a2 a3 a4 a5)) := fs_would FS.rf
      have hC := c_DL_would (l := l) hG σ (nI i) a2 a3 a4 a5 a6 a7 u.1 u.2 v.1.1 v.1.2 v.2.1.1 v.2.1.2 v.2.2.1.1 v.2.2.1.2 v.2.2.2.1.1 v.2.2.2.1.2 v.2.2.2.2.1.1 v.2.2.2.2.1.2 v.2.2.2.2.2.1 v.2.2.2.2.2.2
      have q := q_would (t := t0 (lwS (tls (tln σ a6 a7) (nI i) a2 a3 a4 a5))) h.c h.l h.o hs.sx.t9 hi (seen := a2) (dark := a3) (m := a4) (c := a5) (n9 := a6) (fg := a7)
      exact lc_would hg hG hj e1 e2 e3 e4 e5 e6 e7 (wv_would hG hao _ _ _ _ _ _ _ hC) (by decide) (c_Mo_would hG (lwS (tls (tln σ a6 a7) (nI i) a2 a3 a4 a5)) i a2 a3 a4 a5 a6 a7 (h.mw hs) (RV_ct hs hi) ⟨nn0 v.1.1, v.1.2⟩ ⟨nn0 v.2.1.1, v.2.1.2⟩ ⟨nn0 v.2.2.1.1, v.2.2.1.2⟩ ⟨nn0 v.2.2.2.1.1, v.2.2.2.1.2⟩ ⟨nn0 v.2.2.2.2.1.1, v.2.2.2.2.1.2⟩ ⟨nn0 v.2.2.2.2.2.1, v.2.2.2.2.2.2⟩) (by decide) ((sq.rf.kn.bS).2 0 (by decide)) (fun _ => (by rw [b2_congr q])) hr (K _ _ (h.q hs (RS.t.tr (RS.q sq.rf.kn.bS))))
    · skip
      have u2 : ¬ a1 < 0 ∧ a1 < σ 115 3 := ⟨u.1, lt_of_lt_of_eq' u.2 h.c.m3⟩
      exact lc_would hg hG hj e1 e2 e3 e4 e5 e6 e7 (wxI_would hG hao _ _ _ _ _ _ _ (xI_DL_would hl hG σ a1 a2 a3 a4 a5 a6 a7 u v)) (by decide) (c_Mo_wouldI hG _ a1 a2 a3 a4 a5 a6 a7 u2 (fun z => v ⟨⟨nn1 z.1.1, z.1.2⟩, ⟨nn1 z.2.1.1, z.2.1.2⟩, ⟨nn1 z.2.2.1.1, z.2.2.1.2⟩, ⟨nn1 z.2.2.2.1.1, z.2.2.2.1.2⟩, ⟨nn1 z.2.2.2.2.1.1, z.2.2.2.2.1.2⟩, ⟨nn1 z.2.2.2.2.2.1, z.2.2.2.2.2.2⟩⟩)) (by decide) mrf_t (fun z => absurd z (by decide)) hr (K _ _ h.i)
  · skip
    exact lc_would hg hG hj e1 e2 e3 e4 e5 e6 e7 (wxN_would hG hao _ _ _ _ _ _ _ (xN_DL_would hl hG σ a1 a2 a3 a4 a5 a6 a7 u)) (by decide) (c_Mo_wouldN hG _ a1 a2 a3 a4 a5 a6 a7 (h.c.p 3 (by decide)) (fun z => u ⟨z.1, lt_of_lt_of_eq' z.2 h.c.m3.symm⟩)) (by decide) mrf_t (fun z => absurd z (by decide)) hr (K _ _ h.n)
theorem oc_tried {l : Launch} (hl : l.stackTraces = false) {G : Gz} (hG : zI G) {ao : Nat} {cL : ClassId} (hao : ∀ o, o < 610 → G.1 o ≠ ao) {A : Nat → Prop} {X : Cx} {sb L j : Nat} {ks : Nat → Int32} {σ : St} {w9 : Int64} {c9 n9 : Nat} (hg : Gl G ao cL A X sb L ks) (hj : 8 * j + 8 ≤ L) (h : RV σ) (hr : c9 + 1 ≤ (xR X).cells ∧ n9 + 6 ≤ (xR X).slots) (K : ∀ (σ2 : St) (v1 : Int64), RV σ2 → JO l G ao cL A X 8 σ2 v1 (c9 + 1) (n9 + 6) 2417 (zLS G ao sb j) []) : JO l G ao cL A X 8 σ w9 c9 n9 1066 (zLS G ao sb j) [] := by
  obtain ⟨a1, e1⟩ : ∃ a, ks (8 * j + 1) = a := ⟨_, rfl⟩
  obtain ⟨a2, e2⟩ : ∃ a, ks (8 * j + 2) = a := ⟨_, rfl⟩
  have h0 : RV (t0 σ) := h.q FS.rf RS.t
  by_cases u : ((¬ a1 < 0) ∧ (a1 < rg (σ 6) 6 3))
  · by_cases v : ((¬ a2 < 0) ∧ (a2 ≤ 4))
    · skip
      obtain ⟨i, qi, hi⟩ := ix_of u.1 (lt_of_lt_of_eq' u.2 h.c.m3)
      subst qi
      have hi : i < tl σ 3 := hi
      have hs : FS σ (xtS σ (nI i) a2) := fs_tried FS.rf
      generalize hS : xtS σ (nI i) a2 = s at hs
      obtain ⟨q1, q2, q3⟩ := q_xtr (t := t0 s) h.c h.ns h.l h.o hs.sx.t9 hi (w := a2)
      have hC := c_DL_tried (l := l) hG σ (nI i) a2 u.1 u.2 v.1 v.2 q1
      rw [hS] at hC
      exact lc_tried hg hG hj e1 e2 (wv_tried hG hao _ _ hC) (by decide) (c_Mo_tried hG s i a2 (h.mw hs) (h.rw_ hs) (RV_ct hs hi) ⟨nn0 v.1, v.2⟩) (by decide) ((sq.rf.tF).2 0 (by decide)) (fun _ => congrArg Int32.toInt64 q2) hr (K _ _ (h.q hs (RS.t.tr (RS.q sq.rf.tF))))
    · skip
      have u2 : ¬ a1 < 0 ∧ a1 < σ 115 3 := ⟨u.1, lt_of_lt_of_eq' u.2 h.c.m3⟩
      exact lc_tried hg hG hj e1 e2 (wxI_tried hG hao _ _ (xI_DL_tried hl hG σ a1 a2 u v)) (by decide) (c_Mo_triedI hG _ a1 a2 u2 (fun z => v ⟨nn1 z.1, z.2⟩)) (by decide) mrf_t (fun z => absurd z (by decide)) hr (K _ _ h.i)
  · skip
    exact lc_tried hg hG hj e1 e2 (wxN_tried hG hao _ _ (xN_DL_tried hl hG σ a1 a2 u)) (by decide) (c_Mo_triedN hG _ a1 a2 (h.c.p 3 (by decide)) (fun z => u ⟨z.1, lt_of_lt_of_eq' z.2 h.c.m3.symm⟩)) (by decide) mrf_t (fun z => absurd z (by decide)) hr (K _ _ h.n)
theorem oc_blind {l : Launch} (hl : l.stackTraces = false) {G : Gz} (hG : zI G) {ao : Nat} {cL : ClassId} (hao : ∀ o, o < 610 → G.1 o ≠ ao) {A : Nat → Prop} {X : Cx} {sb L j : Nat} {ks : Nat → Int32} {σ : St} {w9 : Int64} {c9 n9 : Nat} (hg : Gl G ao cL A X sb L ks) (hj : 8 * j + 8 ≤ L) (h : RV σ) (hr : c9 + 1 ≤ (xR X).cells ∧ n9 + 6 ≤ (xR X).slots) (K : ∀ (σ2 : St) (v1 : Int64), RV σ2 → JO l G ao cL A X 8 σ2 v1 (c9 + 1) (n9 + 6) 2417 (zLS G ao sb j) []) : JO l G ao cL A X 8 σ w9 c9 n9 1909 (zLS G ao sb j) [] := by
  obtain ⟨a1, e1⟩ : ∃ a, ks (8 * j + 1) = a := ⟨_, rfl⟩
  have h0 : RV (t0 σ) := h.q FS.rf RS.t
  by_cases u : ((¬ a1 < 0) ∧ (a1 < rg (σ 6) 6 3))
  · skip
    obtain ⟨i, qi, hi⟩ := ix_of u.1 (lt_of_lt_of_eq' u.2 h.c.m3)
    subst qi
    have hi : i < tl σ 3 := hi
    have hs : FS σ (xps σ (nI i)).2 := fsX FS.rf
    obtain ⟨q1, q2, q3⟩ := q_xtr (t := t0 (xps σ (nI i)).2) h.c h.ns h.l h.o hs.sx.t9 hi (w := 0)
    have hC := c_DL_blind (l := l) hG σ (nI i) u.1 u.2 q1
    exact lc_blind hg hG hj e1 (wv_blind hG hao _ hC) (by decide) (c_Mo_blind hG (xps σ (nI i)).2 i (h.mw hs) (h.rw_ hs) (RV_ct hs hi)) (by decide) ((sq.rf.tF).2 0 (by decide)) (fun _ => congrArg Int32.toInt64 q3) hr (K _ _ (h.q hs (RS.t.tr (RS.q sq.rf.tF))))
  · skip
    exact lc_blind hg hG hj e1 (wxN_blind hG hao _ (xN_DL_blind hl hG σ a1 u)) (by decide) (c_Mo_blindN hG _ a1 (h.c.p 3 (by decide)) (fun z => u ⟨z.1, lt_of_lt_of_eq' z.2 h.c.m3.symm⟩)) (by decide) mrf_t (fun z => absurd z (by decide)) hr (K _ _ h.n)
theorem oc_put {l : Launch} (hl : l.stackTraces = false) {G : Gz} (hG : zI G) {ao : Nat} {cL : ClassId} (hao : ∀ o, o < 610 → G.1 o ≠ ao) {A : Nat → Prop} {X : Cx} {sb L j : Nat} {ks : Nat → Int32} {σ : St} {w9 : Int64} {c9 n9 : Nat} (hg : Gl G ao cL A X sb L ks) (hj : 8 * j + 8 ≤ L) (h : RV σ) (hr : c9 + 1 ≤ (xR X).cells ∧ n9 + 6 ≤ (xR X).slots) (K : ∀ (σ2 : St) (v1 : Int64), RV σ2 → JO l G ao cL A X 8 σ2 v1 (c9 + 1) (n9 + 6) 2417 (zLS G ao sb j) []) : JO l G ao cL A X 8 σ w9 c9 n9 1147 (zLS G ao sb j) [] := by
  obtain ⟨a1, e1⟩ : ∃ a, ks (8 * j + 1) = a := ⟨_, rfl⟩
  obtain ⟨a2, e2⟩ : ∃ a, ks (8 * j + 2) = a := ⟨_, rfl⟩
  have h0 : RV (t0 σ) := h.q FS.rf RS.t
  by_cases v : (((¬ a1 < 0) ∧ (a1 ≤ 1 <<< (cM σ 3 &&& 31) - 1)) ∧ ((¬ a2 < 0) ∧ (a2 ≤ 1)))
  · skip
    have hs : FS σ (pdS σ a1) := fs_put FS.rf
    have q := q_put (t := t0 (pdS σ a1)) h.c h.ns h.l h.o h.cd hs.sx.t9 (ships := a1) (w := a2)
    have e2' : cM σ 2 = nI (ct (cM σ 2)) := by rw [h.c.m2]; exact (nI_bk (h.c.p 2 (by decide))).symm
    have e3 : ct (cM σ 2) ≤ 3 := by rw [h.c.m2]; exact h.c.b.2.2.1
    have hC := c_DL_put (l := l) hG σ a1 a2 v.1.1 v.1.2 v.2.1 v.2.2 e2' e3
    generalize hS : pdS σ a1 = s at hs q hC
    have f2 : (up s 111 0 0) 115 2 = σ 115 2 := congrFun (hs 115 rfl) 2
    have f0 : (up s 111 0 0) 115 0 = σ 115 0 := congrFun (hs 115 rfl) 0
    have d3 : ct ((up s 111 0 0) 115 2) ≤ 3 := by rw [f2]; exact h.c.b.2.2.1
    have hw : wq (pt0 (t0 s)) (mpN (up s 111 0 0) (ct ((up s 111 0 0) 115 2)) ((up s 111 0 0) 115 0) a1 (ct (myN (up s 111 0 0) (ct ((up s 111 0 0) 115 2))))).2 := wq.N d3
    exact lc_put hg hG hj e1 e2 (wv_put hG hao _ _ hC) (by decide) (c_Mo_put hG s a1 a2 (h.mw hs) (h.rw_ hs) (by rw [f2]; exact (nI_bk (h.c.p 2 (by decide))).symm) (by rw [f2, f0]; exact h.cd.imp id (fun z y => by unfold tl ct at z; rw [y] at z; exact absurd z (by decide))) ⟨nn0 v.1.1, by rw [show (up s 111 0 0) 115 3 = cM σ 3 from (congrFun (hs 115 rfl) 3).trans h.c.m3.symm]; exact v.1.2⟩ ⟨nn0 v.2.1, v.2.2⟩) (by decide) ((hw.2.1 0 (by decide)).trans pt0_0) (fun _ => congrArg Int32.toInt64 q) hr (K _ _ (h.q hs (RS.t.tr (RS.p0.tr (RS.wq hw)))))
  · skip
    exact lc_put hg hG hj e1 e2 (wxI_put hG hao _ _ (xI_DL_put hl hG σ a1 a2  v)) (by decide) (c_Mo_putI hG _ a1 a2  (fun z => v ⟨⟨nn1 z.1.1, by rw [h.c.m3]; exact z.1.2⟩, ⟨nn1 z.2.1, z.2.2⟩⟩)) (by decide) mrf_t (fun z => absurd z (by decide)) hr (K _ _ h.i)
theorem oc_save {l : Launch} (hl : l.stackTraces = false) {G : Gz} (hG : zI G) {ao : Nat} {cL : ClassId} (hao : ∀ o, o < 610 → G.1 o ≠ ao) {A : Nat → Prop} {X : Cx} {sb L j : Nat} {ks : Nat → Int32} {σ : St} {w9 : Int64} {c9 n9 : Nat} (hg : Gl G ao cL A X sb L ks) (hj : 8 * j + 8 ≤ L) (h : RV σ) (hr : c9 + 1 ≤ (xR X).cells ∧ n9 + 6 ≤ (xR X).slots) (K : ∀ (σ2 : St) (v1 : Int64), RV σ2 → JO l G ao cL A X 8 σ2 v1 (c9 + 1) (n9 + 6) 2417 (zLS G ao sb j) []) : JO l G ao cL A X 8 σ w9 c9 n9 1215 (zLS G ao sb j) [] := by
  obtain ⟨a1, e1⟩ : ∃ a, ks (8 * j + 1) = a := ⟨_, rfl⟩
  have h0 : RV (t0 σ) := h.q FS.rf RS.t
  by_cases v : ((¬ a1 < 0) ∧ (a1 ≤ 2))
  · skip
    have hs : FS σ (if cM σ 0 = 0 then σ else plS σ) := by
      split
      · exact FS.rf
      · exact fs_save FS.rf
    have q := q_save (t := t0 (if cM σ 0 = 0 then σ else plS σ)) h.c h.ns h.l h.o hs.sx.t9 (w := a1)
    have hC := c_DL_save (l := l) hG σ a1 v.1 v.2
    generalize hS : (if cM σ 0 = 0 then σ else plS σ) = s at hs q hC
    have hw : vq (pt0 (t0 s)) (mvX (up s 111 0 0) (ct ((up s 111 0 0) 115 0))).2 := vq.X
    exact lc_save hg hG hj e1 (wv_save hG hao _ hC) (by decide) (c_Mo_save hG s a1 (h.mw hs) (h.rw_ hs) ⟨nn0 v.1, v.2⟩) (by decide) ((hw.2.1 0 (by decide)).trans pt0_0) (fun _ => congrArg Int32.toInt64 q) hr (K _ _ (h.q hs (RS.t.tr (RS.p0.tr (RS.vq hw)))))
  · skip
    exact lc_save hg hG hj e1 (wxI_save hG hao _ (xI_DL_save hl hG σ a1  v)) (by decide) (c_Mo_saveI hG _ a1  (fun z => v ⟨nn1 z.1, z.2⟩)) (by decide) mrf_t (fun z => absurd z (by decide)) hr (K _ _ h.i)
theorem oc_fits {l : Launch} (hl : l.stackTraces = false) {G : Gz} (hG : zI G) {ao : Nat} {cL : ClassId} (hao : ∀ o, o < 610 → G.1 o ≠ ao) {A : Nat → Prop} {X : Cx} {sb L j : Nat} {ks : Nat → Int32} {σ : St} {w9 : Int64} {c9 n9 : Nat} (hg : Gl G ao cL A X sb L ks) (hj : 8 * j + 8 ≤ L) (h : RV σ) (hr : c9 + 1 ≤ (xR X).cells ∧ n9 + 6 ≤ (xR X).slots) (K : ∀ (σ2 : St) (v1 : Int64), RV σ2 → JO l G ao cL A X 8 σ2 v1 (c9 + 1) (n9 + 6) 2417 (zLS G ao sb j) []) : JO l G ao cL A X 8 σ w9 c9 n9 1271 (zLS G ao sb j) [] := by
  obtain ⟨a1, e1⟩ : ∃ a, ks (8 * j + 1) = a := ⟨_, rfl⟩
  have h0 : RV (t0 σ) := h.q FS.rf RS.t
  by_cases v : ((¬ a1 < 0) ∧ (a1 ≤ 1))
  · skip
    have q := q_fits (s := σ) (t := t0 σ) h0.g (w := a1)
    exact lc_fits hg hG hj e1 (wv_fits hG hao _ (c_DL_fits hG σ a1 v.1 v.2)) (by decide) (c_Mo_fits hG σ a1 h0.g.2.1 ⟨nn0 v.1, v.2⟩) (by decide) rfl (fun _ => congrArg Int32.toInt64 q) hr (K _ _ (h.q FS.rf RS.t))
  · skip
    exact lc_fits hg hG hj e1 (wxI_fits hG hao _ (xI_DL_fits hl hG σ a1  v)) (by decide) (c_Mo_fitsI hG _ a1  (fun z => v ⟨nn1 z.1, z.2⟩)) (by decide) mrf_t (fun z => absurd z (by decide)) hr (K _ _ h.i)
theorem oc_look {l : Launch} (hl : l.stackTraces = false) {G : Gz} (hG : zI G) {ao : Nat} {cL : ClassId} (hao : ∀ o, o < 610 → G.1 o ≠ ao) {A : Nat → Prop} {X : Cx} {sb L j : Nat} {ks : Nat → Int32} {σ : St} {w9 : Int64} {c9 n9 : Nat} (hg : Gl G ao cL A X sb L ks) (hj : 8 * j + 8 ≤ L) (h : RV σ) (hr : c9 + 1 ≤ (xR X).cells ∧ n9 + 6 ≤ (xR X).slots) (K : ∀ (σ2 : St) (v1 : Int64), RV σ2 → JO l G ao cL A X 8 σ2 v1 (c9 + 1) (n9 + 6) 2417 (zLS G ao sb j) []) : JO l G ao cL A X 8 σ w9 c9 n9 1327 (zLS G ao sb j) [] := by
  obtain ⟨a1, e1⟩ : ∃ a, ks (8 * j + 1) = a := ⟨_, rfl⟩
  have h0 : RV (t0 σ) := h.q FS.rf RS.t
  by_cases v : ((¬ a1 < 0) ∧ (a1 ≤ 1))
  · skip
    have q := q_look (s := σ) (t := t0 σ) h0.g (w := a1)
    exact lc_look hg hG hj e1 (wv_look hG hao _ (c_DL_look hG σ a1 v.1 v.2)) (by decide) (c_Mo_look hG σ a1 h0.g.2.1 ⟨nn0 v.1, v.2⟩) (by decide) rfl (fun _ => congrArg Int32.toInt64 q) hr (K _ _ (h.q FS.rf RS.t))
  · skip
    exact lc_look hg hG hj e1 (wxI_look hG hao _ (xI_DL_look hl hG σ a1  v)) (by decide) (c_Mo_lookI hG _ a1  (fun z => v ⟨nn1 z.1, z.2⟩)) (by decide) mrf_t (fun z => absurd z (by decide)) hr (K _ _ h.i)
theorem oc_code {l : Launch} (hl : l.stackTraces = false) {G : Gz} (hG : zI G) {ao : Nat} {cL : ClassId} (hao : ∀ o, o < 610 → G.1 o ≠ ao) {A : Nat → Prop} {X : Cx} {sb L j : Nat} {ks : Nat → Int32} {σ : St} {w9 : Int64} {c9 n9 : Nat} (hg : Gl G ao cL A X sb L ks) (hj : 8 * j + 8 ≤ L) (h : RV σ) (hr : c9 + 1 ≤ (xR X).cells ∧ n9 + 6 ≤ (xR X).slots) (K : ∀ (σ2 : St) (v1 : Int64), RV σ2 → JO l G ao cL A X 8 σ2 v1 (c9 + 1) (n9 + 6) 2417 (zLS G ao sb j) []) : JO l G ao cL A X 8 σ w9 c9 n9 1383 (zLS G ao sb j) [] := by
  obtain ⟨a1, e1⟩ : ∃ a, ks (8 * j + 1) = a := ⟨_, rfl⟩
  obtain ⟨a2, e2⟩ : ∃ a, ks (8 * j + 2) = a := ⟨_, rfl⟩
  have h0 : RV (t0 σ) := h.q FS.rf RS.t
  by_cases v : (((¬ a1 < 1) ∧ (a1 ≤ 8)) ∧ ((¬ a2 < 0) ∧ (a2 ≤ 1)))
  · skip
    have g1 : ¬ a1 < 0 := fun z => v.1.1 (by rw [i_lt] at *; have z0 : (0 : Int32).toInt = 0 := rfl; have z1 : (1 : Int32).toInt = 1 := rfl; omega)
    obtain ⟨n, qn, hn⟩ := lit_of (n := 8) (by decide) g1 v.1.2
    subst qn
    have hs : FS σ (mmS σ (nI n)) := fs_code FS.rf
    have q := q_code (σ := σ) (s := σ) h.c (fun _ _ => rfl) hn (w := a2)
    have em : mco (t0 (mmS σ (nI n))) n (ct (1 <<< (nI n &&& 31))) = mco σ n (ct (1 <<< (nI n &&& 31))) := mco_sx h.c.b.2.2.1 hs.sx.t9
    rw [← em] at q
    exact lc_code hg hG hj e1 e2 (wv_code hG hao _ _ (c_DL_code hG σ (nI n) a2 v.1.1 v.1.2 v.2.1 v.2.2)) (by decide) (c_Mo_code hG (mmS σ (nI n)) n a2 (h.mw hs) (by omega) ⟨nn2 v.1.1, v.1.2⟩ ⟨nn0 v.2.1, v.2.2⟩) (by decide) rfl (fun _ => congrArg Int32.toInt64 q) hr (K _ _ (h.q hs RS.t))
  · skip
    exact lc_code hg hG hj e1 e2 (wxI_code hG hao _ _ (xI_DL_code hl hG σ a1 a2  v)) (by decide) (c_Mo_codeI hG _ a1 a2  (fun z => v ⟨⟨nn3 z.1.1, z.1.2⟩, ⟨nn1 z.2.1, z.2.2⟩⟩)) (by decide) mrf_t (fun z => absurd z (by decide)) hr (K _ _ h.i)
theorem oc_wink {l : Launch} (hl : l.stackTraces = false) {G : Gz} (hG : zI G) {ao : Nat} {cL : ClassId} (hao : ∀ o, o < 610 → G.1 o ≠ ao) {A : Nat → Prop} {X : Cx} {sb L j : Nat} {ks : Nat → Int32} {σ : St} {w9 : Int64} {c9 n9 : Nat} (hg : Gl G ao cL A X sb L ks) (hj : 8 * j + 8 ≤ L) (h : RV σ) (hr : c9 + 1 ≤ (xR X).cells ∧ n9 + 6 ≤ (xR X).slots) (K : ∀ (σ2 : St) (v1 : Int64), RV σ2 → JO l G ao cL A X 8 σ2 v1 (c9 + 1) (n9 + 6) 2417 (zLS G ao sb j) []) : JO l G ao cL A X 8 σ w9 c9 n9 1464 (zLS G ao sb j) [] := by
  obtain ⟨a1, e1⟩ : ∃ a, ks (8 * j + 1) = a := ⟨_, rfl⟩
  obtain ⟨a2, e2⟩ : ∃ a, ks (8 * j + 2) = a := ⟨_, rfl⟩
  obtain ⟨a3, e3⟩ : ∃ a, ks (8 * j + 3) = a := ⟨_, rfl⟩
  obtain ⟨a4, e4⟩ : ∃ a, ks (8 * j + 4) = a := ⟨_, rfl⟩
  obtain ⟨a5, e5⟩ : ∃ a, ks (8 * j + 5) = a := ⟨_, rfl⟩
  obtain ⟨a6, e6⟩ : ∃ a, ks (8 * j + 6) = a := ⟨_, rfl⟩
  have h0 : RV (t0 σ) := h.q FS.rf RS.t
  by_cases v : (((¬ a1 < 0) ∧ (a1 ≤ 16)) ∧ ((¬ a2 < 0) ∧ (a2 ≤ 16)) ∧ ((¬ a3 < 0) ∧ (a3 ≤ 16)) ∧ ((¬ a5 < 0) ∧ (a5 ≤ 6)) ∧ ((¬ a4 < 0) ∧ (a4 ≤ a5)) ∧ ((¬ a6 < 0) ∧ (a6 ≤ 1)))
  · skip
    have v1 := v.1
    have v2 := v.2.1
    have v3 := v.2.2.1
    have v4 := v.2.2.2.1
    have v5 := v.2.2.2.2.1
    have v6 := v.2.2.2.2.2
    obtain ⟨n, qn, hn⟩ := lit_of (n := 6) (by decide) v4.1 v4.2
    subst qn
    obtain ⟨i, qi, hi⟩ := lit_of (n := n) (by omega) v5.1 v5.2
    subst qi
    obtain ⟨q1, q2, q3, q4⟩ := q_wink (part := a6) ⟨nnz v1.1, nnl (n := 16) (by decide) v1.2⟩ ⟨nnz v2.1, nnl (n := 16) (by decide) v2.2⟩ ⟨nnz v3.1, nnl (n := 16) (by decide) v3.2⟩ hi hn
    exact lc_wink hg hG hj e1 e2 e3 e4 e5 e6 (wv_wink hG hao _ _ _ _ _ _ (c_DL_wink hG σ a1 a2 a3 (nI i) (nI n) a6 v1.1 v1.2 v2.1 v2.2 v3.1 v3.2 v4.1 v4.2 v5.1 v5.2 v6.1 v6.2)) (by decide) (c_Mo_wink hG σ a1 a2 a3 i n a6 ⟨nn0 v1.1, v1.2⟩ ⟨nn0 v2.1, v2.2⟩ ⟨nn0 v3.1, v3.2⟩ ⟨nn0 v4.1, v4.2⟩ ⟨nn0 v5.1, v5.2⟩ ⟨nn0 v6.1, v6.2⟩ q2 q3 (by omega) (by omega) q4) (by decide) rfl (fun _ => q1) hr (K _ _ (h.q FS.rf RS.t))
  · skip
    exact lc_wink hg hG hj e1 e2 e3 e4 e5 e6 (wxI_wink hG hao _ _ _ _ _ _ (xI_DL_wink hl hG σ a1 a2 a3 a4 a5 a6  v)) (by decide) (c_Mo_winkI hG _ a1 a2 a3 a4 a5 a6  (fun z => v ⟨⟨nn1 z.1.1, z.1.2⟩, ⟨nn1 z.2.1.1, z.2.1.2⟩, ⟨nn1 z.2.2.1.1, z.2.2.1.2⟩, ⟨nn1 z.2.2.2.1.1, z.2.2.2.1.2⟩, ⟨nn1 z.2.2.2.2.1.1, z.2.2.2.2.1.2⟩, ⟨nn1 z.2.2.2.2.2.1, z.2.2.2.2.2.2⟩⟩)) (by decide) mrf_t (fun z => absurd z (by decide)) hr (K _ _ h.i)
theorem oc_carriers {l : Launch} (hl : l.stackTraces = false) {G : Gz} (hG : zI G) {ao : Nat} {cL : ClassId} (hao : ∀ o, o < 610 → G.1 o ≠ ao) {A : Nat → Prop} {X : Cx} {sb L j : Nat} {ks : Nat → Int32} {σ : St} {w9 : Int64} {c9 n9 : Nat} (hg : Gl G ao cL A X sb L ks) (hj : 8 * j + 8 ≤ L) (h : RV σ) (hr : c9 + 1 ≤ (xR X).cells ∧ n9 + 6 ≤ (xR X).slots) (K : ∀ (σ2 : St) (v1 : Int64), RV σ2 → JO l G ao cL A X 8 σ2 v1 (c9 + 1) (n9 + 6) 2417 (zLS G ao sb j) []) : JO l G ao cL A X 8 σ w9 c9 n9 1581 (zLS G ao sb j) [] := by
  obtain ⟨a1, e1⟩ : ∃ a, ks (8 * j + 1) = a := ⟨_, rfl⟩
  have h0 : RV (t0 σ) := h.q FS.rf RS.t
  by_cases v : ((¬ a1 < 0) ∧ (a1 ≤ 2))
  · skip
    have q := q_carriers h0.c (w := a1)
    exact lc_carriers hg hG hj e1 (wv_carriers hG hao _ (c_DL_carriers hG σ a1 v.1 v.2)) (by decide) (c_Mo_carriers hG σ a1 (h.mw FS.rf) ⟨nn0 v.1, v.2⟩) (by decide) rfl (fun _ => congrArg Int32.toInt64 q) hr (K _ _ (h.q FS.rf RS.t))
  · skip
    exact lc_carriers hg hG hj e1 (wxI_carriers hG hao _ (xI_DL_carriers hl hG σ a1  v)) (by decide) (c_Mo_carriersI hG _ a1  (fun z => v ⟨nn1 z.1, z.2⟩)) (by decide) mrf_t (fun z => absurd z (by decide)) hr (K _ _ h.i)
theorem oc_share {l : Launch} (hl : l.stackTraces = false) {G : Gz} (hG : zI G) {ao : Nat} {cL : ClassId} (hao : ∀ o, o < 610 → G.1 o ≠ ao) {A : Nat → Prop} {X : Cx} {sb L j : Nat} {ks : Nat → Int32} {σ : St} {w9 : Int64} {c9 n9 : Nat} (hg : Gl G ao cL A X sb L ks) (hj : 8 * j + 8 ≤ L) (h : RV σ) (hr : c9 + 1 ≤ (xR X).cells ∧ n9 + 6 ≤ (xR X).slots) (K : ∀ (σ2 : St) (v1 : Int64), RV σ2 → JO l G ao cL A X 8 σ2 v1 (c9 + 1) (n9 + 6) 2417 (zLS G ao sb j) []) : JO l G ao cL A X 8 σ w9 c9 n9 1637 (zLS G ao sb j) [] := by
  obtain ⟨a1, e1⟩ : ∃ a, ks (8 * j + 1) = a := ⟨_, rfl⟩
  obtain ⟨a2, e2⟩ : ∃ a, ks (8 * j + 2) = a := ⟨_, rfl⟩
  have h0 : RV (t0 σ) := h.q FS.rf RS.t
  by_cases u : ((¬ a1 < 0) ∧ (a1 < rg (σ 6) 6 4))
  · by_cases v : ((¬ a2 < 0) ∧ (a2 ≤ 999))
    · skip
      obtain ⟨i, qi, hi⟩ := ix_of u.1 (lt_of_lt_of_eq' u.2 h.c.m4)
      subst qi
      have hi : i < tl σ 4 := hi
      have hz := RV_hd h0 (Nat.lt_of_le_of_lt (Nat.zero_le _) hi)
      exact lc_share hg hG hj e1 e2 (wv_share hG hao _ _ (c_DL_share hG σ (nI i) a2 u.1 u.2 v.1 v.2)) (by decide) (c_Mo_share hG σ i a2 (h.mw FS.rf) hz hi ⟨nn0 v.1, v.2⟩) (by decide) rfl (fun _ => congrArg Int32.toInt64 (q_share h0.c hi hz)) hr (K _ _ (h.q FS.rf RS.t))
    · skip
      have u2 : ¬ a1 < 0 ∧ a1 < σ 115 4 := ⟨u.1, lt_of_lt_of_eq' u.2 h.c.m4⟩
      exact lc_share hg hG hj e1 e2 (wxI_share hG hao _ _ (xI_DL_share hl hG σ a1 a2 u v)) (by decide) (c_Mo_shareI hG _ a1 a2 u2 (fun z => v ⟨nn1 z.1, z.2⟩)) (by decide) mrf_t (fun z => absurd z (by decide)) hr (K _ _ h.i)
  · skip
    exact lc_share hg hG hj e1 e2 (wxN_share hG hao _ _ (xN_DL_share hl hG σ a1 a2 u)) (by decide) (c_Mo_shareN hG _ a1 a2 (h.c.p 4 (by decide)) (fun z => u ⟨z.1, lt_of_lt_of_eq' z.2 h.c.m4.symm⟩)) (by decide) mrf_t (fun z => absurd z (by decide)) hr (K _ _ h.n)
theorem oc_drawn {l : Launch} (hl : l.stackTraces = false) {G : Gz} (hG : zI G) {ao : Nat} {cL : ClassId} (hao : ∀ o, o < 610 → G.1 o ≠ ao) {A : Nat → Prop} {X : Cx} {sb L j : Nat} {ks : Nat → Int32} {σ : St} {w9 : Int64} {c9 n9 : Nat} (hg : Gl G ao cL A X sb L ks) (hj : 8 * j + 8 ≤ L) (h : RV σ) (hr : c9 + 1 ≤ (xR X).cells ∧ n9 + 6 ≤ (xR X).slots) (K : ∀ (σ2 : St) (v1 : Int64), RV σ2 → JO l G ao cL A X 8 σ2 v1 (c9 + 1) (n9 + 6) 2417 (zLS G ao sb j) []) : JO l G ao cL A X 8 σ w9 c9 n9 1705 (zLS G ao sb j) [] := by
  obtain ⟨a1, e1⟩ : ∃ a, ks (8 * j + 1) = a := ⟨_, rfl⟩
  have h0 : RV (t0 σ) := h.q FS.rf RS.t
  by_cases u : ((¬ a1 < 0) ∧ (a1 < rg (σ 6) 6 0))
  · skip
    obtain ⟨i, qi, hi⟩ := ix_of u.1 (lt_of_lt_of_eq' u.2 h.c.m0)
    subst qi
    have hi : i < tl σ 0 := hi
    exact lc_drawn hg hG hj e1 (wv_drawn hG hao _ (c_DL_drawn hG σ (nI i) u.1 u.2)) (by decide) (c_Mo_drawn hG σ i (h.mw FS.rf) hi) (by decide) rfl (fun _ => congrArg Int32.toInt64 (q_drawn h0.c hi)) hr (K _ _ (h.q FS.rf RS.t))
  · skip
    exact lc_drawn hg hG hj e1 (wxN_drawn hG hao _ (xN_DL_drawn hl hG σ a1 u)) (by decide) (c_Mo_drawnN hG _ a1 (h.c.p 0 (by decide)) (fun z => u ⟨z.1, lt_of_lt_of_eq' z.2 h.c.m0.symm⟩)) (by decide) mrf_t (fun z => absurd z (by decide)) hr (K _ _ h.n)
theorem oc_flash {l : Launch} (hl : l.stackTraces = false) {G : Gz} (hG : zI G) {ao : Nat} {cL : ClassId} (hao : ∀ o, o < 610 → G.1 o ≠ ao) {A : Nat → Prop} {X : Cx} {sb L j : Nat} {ks : Nat → Int32} {σ : St} {w9 : Int64} {c9 n9 : Nat} (hg : Gl G ao cL A X sb L ks) (hj : 8 * j + 8 ≤ L) (h : RV σ) (hr : c9 + 1 ≤ (xR X).cells ∧ n9 + 6 ≤ (xR X).slots) (K : ∀ (σ2 : St) (v1 : Int64), RV σ2 → JO l G ao cL A X 8 σ2 v1 (c9 + 1) (n9 + 6) 2417 (zLS G ao sb j) []) : JO l G ao cL A X 8 σ w9 c9 n9 1761 (zLS G ao sb j) [] := by
  obtain ⟨a1, e1⟩ : ∃ a, ks (8 * j + 1) = a := ⟨_, rfl⟩
  obtain ⟨a2, e2⟩ : ∃ a, ks (8 * j + 2) = a := ⟨_, rfl⟩
  have h0 : RV (t0 σ) := h.q FS.rf RS.t
  by_cases u : ((¬ a1 < 0) ∧ (a1 < rg (σ 6) 6 1))
  · by_cases v : ((¬ a2 < 0) ∧ (a2 ≤ 99))
    · skip
      obtain ⟨i, qi, hi⟩ := ix_of u.1 (lt_of_lt_of_eq' u.2 h.c.m1)
      subst qi
      have hi : i < tl σ 1 := hi
      have hM := nnl (n := 99) (by decide) v.2
      obtain ⟨q1, q2⟩ := q_flash h0.c hi (m := a2) ⟨nnz v.1, by omega⟩
      exact lc_flash hg hG hj e1 e2 (wv_flash hG hao _ _ (c_DL_flash hG σ (nI i) a2 u.1 u.2 v.1 v.2)) (by decide) (c_Mo_flash hG σ i a2 (h.mw FS.rf) q2 hi ⟨nn0 v.1, v.2⟩) (by decide) rfl (fun _ => congrArg Int32.toInt64 q1) hr (K _ _ (h.q FS.rf RS.t))
    · skip
      have u2 : ¬ a1 < 0 ∧ a1 < σ 115 1 := ⟨u.1, lt_of_lt_of_eq' u.2 h.c.m1⟩
      exact lc_flash hg hG hj e1 e2 (wxI_flash hG hao _ _ (xI_DL_flash hl hG σ a1 a2 u v)) (by decide) (c_Mo_flashI hG _ a1 a2 u2 (fun z => v ⟨nn1 z.1, z.2⟩)) (by decide) mrf_t (fun z => absurd z (by decide)) hr (K _ _ h.i)
  · skip
    exact lc_flash hg hG hj e1 e2 (wxN_flash hG hao _ _ (xN_DL_flash hl hG σ a1 a2 u)) (by decide) (c_Mo_flashN hG _ a1 a2 (h.c.p 1 (by decide)) (fun z => u ⟨z.1, lt_of_lt_of_eq' z.2 h.c.m1.symm⟩)) (by decide) mrf_t (fun z => absurd z (by decide)) hr (K _ _ h.n)
theorem oc_reefs {l : Launch} (hl : l.stackTraces = false) {G : Gz} (hG : zI G) {ao : Nat} {cL : ClassId} (hao : ∀ o, o < 610 → G.1 o ≠ ao) {A : Nat → Prop} {X : Cx} {sb L j : Nat} {ks : Nat → Int32} {σ : St} {w9 : Int64} {c9 n9 : Nat} (hg : Gl G ao cL A X sb L ks) (hj : 8 * j + 8 ≤ L) (h : RV σ) (hr : c9 + 1 ≤ (xR X).cells ∧ n9 + 6 ≤ (xR X).slots) (K : ∀ (σ2 : St) (v1 : Int64), RV σ2 → JO l G ao cL A X 8 σ2 v1 (c9 + 1) (n9 + 6) 2417 (zLS G ao sb j) []) : JO l G ao cL A X 8 σ w9 c9 n9 1965 (zLS G ao sb j) [] := by
  obtain ⟨a1, e1⟩ : ∃ a, ks (8 * j + 1) = a := ⟨_, rfl⟩
  have h0 : RV (t0 σ) := h.q FS.rf RS.t
  by_cases v : ((¬ a1 < 0) ∧ (a1 ≤ 2))
  · skip
    obtain ⟨w, qw, hw⟩ := lit_of (n := 2) (by decide) v.1 v.2
    subst qw
    have ow : nI w = 0 ∨ nI w = 1 ∨ nI w = 2 := by
      rcases (show w = 0 ∨ w = 1 ∨ w = 2 by omega) with r | r | r <;> subst r <;> decide
    have q := q_reefs h0.c ow
    exact lc_reefs hg hG hj e1 (wv_reefs hG hao _ (c_DL_reefs hG σ (nI w) v.1 v.2)) (by decide) (c_Mo_reefs hG σ (nI w) (h.mw FS.rf) ⟨nn0 v.1, v.2⟩) (by decide) rfl (fun _ => congrArg Int32.toInt64 q) hr (K _ _ (h.q FS.rf RS.t))
  · skip
    exact lc_reefs hg hG hj e1 (wxI_reefs hG hao _ (xI_DL_reefs hl hG σ a1  v)) (by decide) (c_Mo_reefsI hG _ a1  (fun z => v ⟨nn1 z.1, z.2⟩)) (by decide) mrf_t (fun z => absurd z (by decide)) hr (K _ _ h.i)
theorem oc_brightest {l : Launch} (hl : l.stackTraces = false) {G : Gz} (hG : zI G) {ao : Nat} {cL : ClassId} (hao : ∀ o, o < 610 → G.1 o ≠ ao) {A : Nat → Prop} {X : Cx} {sb L j : Nat} {ks : Nat → Int32} {σ : St} {w9 : Int64} {c9 n9 : Nat} (hg : Gl G ao cL A X sb L ks) (hj : 8 * j + 8 ≤ L) (h : RV σ) (hr : c9 + 1 ≤ (xR X).cells ∧ n9 + 6 ≤ (xR X).slots) (K : ∀ (σ2 : St) (v1 : Int64), RV σ2 → JO l G ao cL A X 8 σ2 v1 (c9 + 1) (n9 + 6) 2417 (zLS G ao sb j) []) : JO l G ao cL A X 8 σ w9 c9 n9 2021 (zLS G ao sb j) [] := by
  obtain ⟨a1, e1⟩ : ∃ a, ks (8 * j + 1) = a := ⟨_, rfl⟩
  have h0 : RV (t0 σ) := h.q FS.rf RS.t
  by_cases v : ((¬ a1 < 0) ∧ (a1 ≤ 1))
  · skip
    have q : xbr σ (ct (cM σ 0)) = mbr (t0 σ) (ct ((t0 σ) 115 0)) := by rw [h.c.m0]; exact q_brightest h0.c h0.ns (Nat.le_refl _)
    exact lc_brightest hg hG hj e1 (wv_brightest hG hao _ (c_DL_brightest hG σ a1 v.1 v.2)) (by decide) (c_Mo_brightest hG σ a1 (h.mw FS.rf) (h.rw_ FS.rf) ⟨nn0 v.1, v.2⟩) (by decide) rfl (fun _ => (by rw [q])) hr (K _ _ (h.q FS.rf RS.t))
  · skip
    exact lc_brightest hg hG hj e1 (wxI_brightest hG hao _ (xI_DL_brightest hl hG σ a1  v)) (by decide) (c_Mo_brightestI hG _ a1  (fun z => v ⟨nn1 z.1, z.2⟩)) (by decide) mrf_t (fun z => absurd z (by decide)) hr (K _ _ h.i)
theorem oc_wrecks {l : Launch} (hl : l.stackTraces = false) {G : Gz} (hG : zI G) {ao : Nat} {cL : ClassId} (hao : ∀ o, o < 610 → G.1 o ≠ ao) {A : Nat → Prop} {X : Cx} {sb L j : Nat} {ks : Nat → Int32} {σ : St} {w9 : Int64} {c9 n9 : Nat} (hg : Gl G ao cL A X sb L ks) (hj : 8 * j + 8 ≤ L) (h : RV σ) (hr : c9 + 1 ≤ (xR X).cells ∧ n9 + 6 ≤ (xR X).slots) (K : ∀ (σ2 : St) (v1 : Int64), RV σ2 → JO l G ao cL A X 8 σ2 v1 (c9 + 1) (n9 + 6) 2417 (zLS G ao sb j) []) : JO l G ao cL A X 8 σ w9 c9 n9 2077 (zLS G ao sb j) [] := by
  obtain ⟨a1, e1⟩ : ∃ a, ks (8 * j + 1) = a := ⟨_, rfl⟩
  obtain ⟨a2, e2⟩ : ∃ a, ks (8 * j + 2) = a := ⟨_, rfl⟩
  have h0 : RV (t0 σ) := h.q FS.rf RS.t
  by_cases v : (((¬ a1 < 0) ∧ (a1 ≤ 1 <<< (cM σ 3 &&& 31) - 1)) ∧ ((¬ a2 < 0) ∧ (a2 ≤ 2)))
  · skip
    have hs : FS σ (xwr σ a1 a2 (ct (cM σ 3))).2 := fs_wrecks FS.rf
    have q := (q_wrecks (t := t0 (xwr σ a1 a2 (ct (cM σ 3))).2) h.c h.ns h.l h.o hs.sx.t9 (ships := a1) (w := a2) (tl σ 3) (Nat.le_refl _)).1
    have hC := c_DL_wrecks (l := l) hG σ a1 a2 v.1.1 v.1.2 v.2.1 v.2.2
    have ec : ct (cM σ 3) = tl σ 3 := by rw [h.c.m3]
    rw [← ec] at q
    generalize hS : (xwr σ a1 a2 (ct (cM σ 3))).2 = s at hs q hC
    have et : ct ((up s 111 0 0) 115 3) = ct (cM σ 3) := by rw [ec]; exact congrArg ct (congrFun (hs 115 rfl) 3)
    rw [← et] at q
    exact lc_wrecks hg hG hj e1 e2 (wv_wrecks hG hao _ _ hC) (by decide) (c_Mo_wrecks hG s a1 a2 (h.mw hs) (h.rw_ hs) ⟨nn0 v.1.1, by rw [show (up s 111 0 0) 115 3 = cM σ 3 from (congrFun (hs 115 rfl) 3).trans h.c.m3.symm]; exact v.1.2⟩ ⟨nn0 v.2.1, v.2.2⟩) (by decide) ((sq.rf.wr).2 0 (by decide)) (fun _ => (by rw [et] at q; rw [q, ← et]; rfl)) hr (K _ _ (h.q hs (RS.t.tr (RS.q sq.rf.wr))))
  · skip
    exact lc_wrecks hg hG hj e1 e2 (wxI_wrecks hG hao _ _ (xI_DL_wrecks hl hG σ a1 a2  v)) (by decide) (c_Mo_wrecksI hG _ a1 a2  (fun z => v ⟨⟨nn1 z.1.1, by rw [h.c.m3]; exact z.1.2⟩, ⟨nn1 z.2.1, z.2.2⟩⟩)) (by decide) mrf_t (fun z => absurd z (by decide)) hr (K _ _ h.i)
theorem oc_winter {l : Launch} (hl : l.stackTraces = false) {G : Gz} (hG : zI G) {ao : Nat} {cL : ClassId} (hao : ∀ o, o < 610 → G.1 o ≠ ao) {A : Nat → Prop} {X : Cx} {sb L j : Nat} {ks : Nat → Int32} {σ : St} {w9 : Int64} {c9 n9 : Nat} (hg : Gl G ao cL A X sb L ks) (hj : 8 * j + 8 ≤ L) (h : RV σ) (hr : c9 + 1 ≤ (xR X).cells ∧ n9 + 6 ≤ (xR X).slots) (K : ∀ (σ2 : St) (v1 : Int64), RV σ2 → JO l G ao cL A X 8 σ2 v1 (c9 + 1) (n9 + 6) 2417 (zLS G ao sb j) []) : JO l G ao cL A X 8 σ w9 c9 n9 2145 (zLS G ao sb j) [] := by
  obtain ⟨a1, e1⟩ : ∃ a, ks (8 * j + 1) = a := ⟨_, rfl⟩
  obtain ⟨a2, e2⟩ : ∃ a, ks (8 * j + 2) = a := ⟨_, rfl⟩
  obtain ⟨a3, e3⟩ : ∃ a, ks (8 * j + 3) = a := ⟨_, rfl⟩
  obtain ⟨a4, e4⟩ : ∃ a, ks (8 * j + 4) = a := ⟨_, rfl⟩
  have h0 : RV (t0 σ) := h.q FS.rf RS.t
  by_cases v : (((¬ a2 < 1) ∧ (a2 ≤ 96)) ∧ ((¬ a3 < 0) ∧ (a3 ≤ 16)) ∧ ((¬ a4 < 0) ∧ (a4 ≤ 3)))
  · skip
    have hs : FS σ (xwn σ a1 a2 a3) := fs_winter FS.rf
    have hN := nnl (n := 96) (by decide) v.1.2
    have q := (q_winter (t := t0 (xwn σ a1 a2 a3)) h.c h.ns h.l h.o h.c40 hs.sx.t9 (seed := a1) (n := a2) (q := a3) (w := a4) (by unfold ct; omega)).1
    have hC := c_DL_winter (l := l) hG σ a1 a2 a3 a4 v.1.1 v.1.2 v.2.1.1 v.2.1.2 v.2.2.1 v.2.2.2
    generalize hS : xwn σ a1 a2 a3 = s at hs q hC
    obtain ⟨r1, r2, -⟩ := rs_wn (s := t0 s) (seed := a1) (q := a3) (n := ct a2) (h.mw hs)
    exact lc_winter hg hG hj e1 e2 e3 e4 (wv_winter hG hao _ _ _ _ hC) (by decide) (c_Mo_winter hG s a1 a2 a3 a4 (h.mw hs) (h.rw_ hs) ⟨⟨nn2 v.1.1, v.1.2⟩, ⟨nn0 v.2.1.1, v.2.1.2⟩⟩ ⟨nn0 v.2.2.1, v.2.2.2⟩) (by decide) r2 (fun _ => congrArg Int32.toInt64 q) hr (K _ _ (h.q hs (RS.t.tr r1)))
  · skip
    exact lc_winter hg hG hj e1 e2 e3 e4 (wxI_winter hG hao _ _ _ _ (xI_DL_winter hl hG σ a1 a2 a3 a4  v)) (by decide) (c_Mo_winterI hG _ a1 a2 a3 a4  (fun z => v ⟨⟨nn3 z.1.1.1, z.1.1.2⟩, ⟨nn1 z.1.2.1, z.1.2.2⟩, ⟨nn1 z.2.1, z.2.2⟩⟩)) (by decide) mrf_t (fun z => absurd z (by decide)) hr (K _ _ h.i)
theorem oc_span {l : Launch} (hl : l.stackTraces = false) {G : Gz} (hG : zI G) {ao : Nat} {cL : ClassId} (hao : ∀ o, o < 610 → G.1 o ≠ ao) {A : Nat → Prop} {X : Cx} {sb L j : Nat} {ks : Nat → Int32} {σ : St} {w9 : Int64} {c9 n9 : Nat} (hg : Gl G ao cL A X sb L ks) (hj : 8 * j + 8 ≤ L) (h : RV σ) (hr : c9 + 1 ≤ (xR X).cells ∧ n9 + 6 ≤ (xR X).slots) (K : ∀ (σ2 : St) (v1 : Int64), RV σ2 → JO l G ao cL A X 8 σ2 v1 (c9 + 1) (n9 + 6) 2417 (zLS G ao sb j) []) : JO l G ao cL A X 8 σ w9 c9 n9 2237 (zLS G ao sb j) [] := by
  obtain ⟨a1, e1⟩ : ∃ a, ks (8 * j + 1) = a := ⟨_, rfl⟩
  obtain ⟨a2, e2⟩ : ∃ a, ks (8 * j + 2) = a := ⟨_, rfl⟩
  obtain ⟨a3, e3⟩ : ∃ a, ks (8 * j + 3) = a := ⟨_, rfl⟩
  obtain ⟨a4, e4⟩ : ∃ a, ks (8 * j + 4) = a := ⟨_, rfl⟩
  obtain ⟨a5, e5⟩ : ∃ a, ks (8 * j + 5) = a := ⟨_, rfl⟩
  have h0 : RV (t0 σ) := h.q FS.rf RS.t
  by_cases v : (((¬ a2 < 1) ∧ (a2 ≤ 20)) ∧ ((¬ a3 < 1) ∧ (a3 ≤ 96)) ∧ ((¬ a4 < 0) ∧ (a4 ≤ 16)) ∧ ((¬ a5 < 0) ∧ (a5 ≤ 2)))
  · skip
    have hs : FS σ (xsp σ a1 a3 a4 (ct a2)).2 := fs_span FS.rf
    have hN := nnl (n := 96) (by decide) v.2.1.2
    have hm : 0 < ct a2 := by have := nn2 v.1.1; rw [i_le] at this; have z1 : (1 : Int32).toInt = 1 := rfl; unfold ct; omega
    have q := (q_span (t := t0 (xsp σ a1 a3 a4 (ct a2)).2) h.c h.ns h.l h.o h.c40 hs.sx.t9 (seed := a1) (n := a3) (q := a4) (w := a5) (by unfold ct; omega) hm).1
    have hC := c_DL_span (l := l) hG σ a1 a2 a3 a4 a5 v.1.1 v.1.2 v.2.1.1 v.2.1.2 v.2.2.1.1 v.2.2.1.2 v.2.2.2.1 v.2.2.2.2
    generalize hS : (xsp σ a1 a3 a4 (ct a2)).2 = s at hs q hC
    obtain ⟨r1, r2, -⟩ := rs_sp (s := t0 s) (seed := a1) (q := a4) (n := ct a3) (h.mw hs) (ct a2)
    exact lc_span hg hG hj e1 e2 e3 e4 e5 (wv_span hG hao _ _ _ _ _ hC) (by decide) (c_Mo_span hG s a1 a2 a3 a4 a5 (h.mw hs) (h.rw_ hs) ⟨nn2 v.1.1, v.1.2⟩ ⟨⟨nn2 v.2.1.1, v.2.1.2⟩, ⟨nn0 v.2.2.1.1, v.2.2.1.2⟩⟩ ⟨nn0 v.2.2.2.1, v.2.2.2.2⟩) (by decide) r2 (fun _ => congrArg Int32.toInt64 q) hr (K _ _ (h.q hs (RS.t.tr r1)))
  · skip
    exact lc_span hg hG hj e1 e2 e3 e4 e5 (wxI_span hG hao _ _ _ _ _ (xI_DL_span hl hG σ a1 a2 a3 a4 a5  v)) (by decide) (c_Mo_spanI hG _ a1 a2 a3 a4 a5  (fun z => v ⟨⟨nn3 z.1.1, z.1.2⟩, ⟨nn3 z.2.1.1.1, z.2.1.1.2⟩, ⟨nn1 z.2.1.2.1, z.2.1.2.2⟩, ⟨nn1 z.2.2.1, z.2.2.2⟩⟩)) (by decide) mrf_t (fun z => absurd z (by decide)) hr (K _ _ h.i)
