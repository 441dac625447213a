/-! the law's calls: coast, law, log, work, alike -/
theorem oc_coast {l : Launch} (hl : l.stackTraces = false) {G : Gz} (hG : zI G) {ao : Nat} {cL : ClassId} (hao : ∀ o, o < 610 → G.1 o ≠ ao) {A : Nat → Prop} {X : Cx} {sb L j : Nat} {ks : Nat → Int32} {σ : St} {w9 : Int64} {c9 n9 : Nat} (hg : Gl G ao cL A X sb L ks) (hj : 8 * j + 8 ≤ L) (h : RV σ) (hr : c9 + 1 ≤ (xR X).cells ∧ n9 + 6 ≤ (xR X).slots) (K : ∀ (σ2 : St) (v1 : Int64), RV σ2 → JO l G ao cL A X 8 σ2 v1 (c9 + 1) (n9 + 6) 2417 (zLS G ao sb j) []) : JO l G ao cL A X 8 σ w9 c9 n9 281 (zLS G ao sb j) [] := by
  obtain ⟨a1, e1⟩ : ∃ a, ks (8 * j + 1) = a := ⟨_, rfl⟩
  have h0 : RV (t0 σ) := h.q FS.rf RS.t
  have hQ := h.qq
  obtain ⟨⟨t1, t2, t3, t4⟩, -⟩ := hQ
  by_cases v : ((¬ a1 < 0) ∧ (a1 ≤ if σ 1 1 < 600 then σ 1 1 else 600))
  · skip
    obtain ⟨v2, v3⟩ := (mn_le a1 (σ 1 1) 600).mp v.2
    have n0 := nnz v.1
    have n1 := nnl (n := 600) (by decide) v3
    obtain ⟨q1, q2⟩ := RA_coast h.1 n0 n1
    have x : (up (xcS σ a1) 111 0 0) 111 1 = σ 111 1 := by rw [up_k (by decide), xc_hi (by decide)]
    obtain ⟨f0, fs⟩ := co_fr (τ := xcS σ a1) (n := a1)
    exact lc_coast hg hG hj e1 (wv_coast hG hao _ (c_DL_coast hG σ a1 v.1 v.2)) (by decide) (c_Mo_coast hG (xcS σ a1) a1 (by rw [x]; exact t3) ⟨nn0 v.1, by rw [x, ← t1]; exact v2⟩) (by decide) f0 (fun _ => congrArg Int32.toInt64 q2) hr (K _ _ ⟨q1, fun s hs => by rw [fs s hs, xc_hi (by omega)]; exact h.2 s hs⟩)
  · skip
    exact lc_coast hg hG hj e1 (wxI_coast hG hao _ (xI_DL_coast hl hG σ a1  v)) (by decide) (c_Mo_coastI hG _ a1  (fun z => v ⟨nn1 z.1, (mn_le a1 (σ 1 1) 600).mpr ⟨by rw [t1]; exact z.2, by have z2 : a1 ≤ σ 111 1 := z.2; rw [i_le] at *; exact Int.le_trans z2 t3⟩⟩)) (by decide) mrf_t (fun z => absurd z (by decide)) hr (K _ _ h.i)
theorem oc_law {l : Launch} (hl : l.stackTraces = false) {G : Gz} (hG : zI G) {ao : Nat} {cL : ClassId} (hao : ∀ o, o < 610 → G.1 o ≠ ao) {A : Nat → Prop} {X : Cx} {sb L j : Nat} {ks : Nat → Int32} {σ : St} {w9 : Int64} {c9 n9 : Nat} (hg : Gl G ao cL A X sb L ks) (hj : 8 * j + 8 ≤ L) (h : RV σ) (hr : c9 + 1 ≤ (xR X).cells ∧ n9 + 6 ≤ (xR X).slots) (K : ∀ (σ2 : St) (v1 : Int64), RV σ2 → JO l G ao cL A X 8 σ2 v1 (c9 + 1) (n9 + 6) 2417 (zLS G ao sb j) []) : JO l G ao cL A X 8 σ w9 c9 n9 337 (zLS G ao sb j) [] := by
  obtain ⟨a1, e1⟩ : ∃ a, ks (8 * j + 1) = a := ⟨_, rfl⟩
  have h0 : RV (t0 σ) := h.q FS.rf RS.t
  have hQ := h.qq
  obtain ⟨⟨t1, t2, t3, t4⟩, -⟩ := hQ
  by_cases v : ((¬ a1 < 0) ∧ (a1 ≤ if σ 1 1 < 150 then σ 1 1 else 150))
  · skip
    obtain ⟨v2, v3⟩ := (mn_le a1 (σ 1 1) 150).mp v.2
    have n0 := nnz v.1
    have n1 := nnl (n := 150) (by decide) v3
    obtain ⟨q1, q2⟩ := RA_law h.1 n0 n1
    have x : (up (xlS σ a1) 111 0 0) 111 1 = σ 111 1 := by rw [up_k (by decide), xl_hi (by decide)]
    obtain ⟨f0, fs⟩ := lw_fr (σ := σ) (τ := xlS σ a1) (n := a1) (by rw [xl_hi (by decide)]; exact t4) n0 n1
    exact lc_law hg hG hj e1 (wv_law hG hao _ (c_DL_law hG σ a1 v.1 v.2)) (by decide) (c_Mo_law hG (xlS σ a1) a1 ⟨nn0 v.1, by rw [x, ← t1]; exact v2⟩ v3 (by rw [x]; exact t3)) (by decide) f0 (fun _ => congrArg Int32.toInt64 q2) hr (K _ _ ⟨q1, fun s hs => by rw [fs s hs, xl_hi (by omega)]; exact h.2 s hs⟩)
  · skip
    exact lc_law hg hG hj e1 (wxI_law hG hao _ (xI_DL_law hl hG σ a1  v)) (by decide) (c_Mo_lawI hG _ a1  (fun z => v ⟨nn1 z.1.1, (mn_le a1 (σ 1 1) 150).mpr ⟨by rw [t1]; exact z.1.2, z.2⟩⟩)) (by decide) mrf_t (fun z => absurd z (by decide)) hr (K _ _ h.i)
theorem oc_log {l : Launch} (hl : l.stackTraces = false) {G : Gz} (hG : zI G) {ao : Nat} {cL : ClassId} (hao : ∀ o, o < 610 → G.1 o ≠ ao) {A : Nat → Prop} {X : Cx} {sb L j : Nat} {ks : Nat → Int32} {σ : St} {w9 : Int64} {c9 n9 : Nat} (hg : Gl G ao cL A X sb L ks) (hj : 8 * j + 8 ≤ L) (h : RV σ) (hr : c9 + 1 ≤ (xR X).cells ∧ n9 + 6 ≤ (xR X).slots) (K : ∀ (σ2 : St) (v1 : Int64), RV σ2 → JO l G ao cL A X 8 σ2 v1 (c9 + 1) (n9 + 6) 2417 (zLS G ao sb j) []) : JO l G ao cL A X 8 σ w9 c9 n9 449 (zLS G ao sb j) [] := by
  obtain ⟨a1, e1⟩ : ∃ a, ks (8 * j + 1) = a := ⟨_, rfl⟩
  have h0 : RV (t0 σ) := h.q FS.rf RS.t
  have hQ := h.qq
  obtain ⟨⟨t1, t2, t3, t4⟩, -⟩ := hQ
  by_cases v : ((¬ a1 < 0) ∧ (a1 ≤ if σ 1 1 < 100 then σ 1 1 else 100))
  · skip
    obtain ⟨v2, v3⟩ := (mn_le a1 (σ 1 1) 100).mp v.2
    have n0 := nnz v.1
    have n1 := nnl (n := 100) (by decide) v3
    obtain ⟨q1, q2⟩ := RA_log h.1 n0 n1
    have x : (up (xgS σ a1) 111 0 0) 111 1 = σ 111 1 := by rw [up_k (by decide), xg_hi (by decide)]
    obtain ⟨f0, fs⟩ := lg_fr (τ := xgS σ a1) (n := a1) n0 n1
    exact lc_log hg hG hj e1 (wv_log hG hao _ (c_DL_log hG σ a1 v.1 v.2)) (by decide) (c_Mo_log hG (xgS σ a1) a1 ⟨nn0 v.1, by rw [x, ← t1]; exact v2⟩ v3 (by rw [x]; exact t3)) (by decide) f0 (fun _ => congrArg Int32.toInt64 q2) hr (K _ _ ⟨q1, fun s hs => by rw [fs s hs, xg_hi (by omega)]; exact h.2 s hs⟩)
  · skip
    exact lc_log hg hG hj e1 (wxI_log hG hao _ (xI_DL_log hl hG σ a1  v)) (by decide) (c_Mo_logI hG _ a1  (fun z => v ⟨nn1 z.1.1, (mn_le a1 (σ 1 1) 100).mpr ⟨by rw [t1]; exact z.1.2, z.2⟩⟩)) (by decide) mrf_t (fun z => absurd z (by decide)) hr (K _ _ h.i)
theorem oc_work {l : Launch} (hl : l.stackTraces = false) {G : Gz} (hG : zI G) {ao : Nat} {cL : ClassId} (hao : ∀ o, o < 610 → G.1 o ≠ ao) {A : Nat → Prop} {X : Cx} {sb L j : Nat} {ks : Nat → Int32} {σ : St} {w9 : Int64} {c9 n9 : Nat} (hg : Gl G ao cL A X sb L ks) (hj : 8 * j + 8 ≤ L) (h : RV σ) (hr : c9 + 1 ≤ (xR X).cells ∧ n9 + 6 ≤ (xR X).slots) (K : ∀ (σ2 : St) (v1 : Int64), RV σ2 → JO l G ao cL A X 8 σ2 v1 (c9 + 1) (n9 + 6) 2417 (zLS G ao sb j) []) : JO l G ao cL A X 8 σ w9 c9 n9 393 (zLS G ao sb j) [] := by
  obtain ⟨a1, e1⟩ : ∃ a, ks (8 * j + 1) = a := ⟨_, rfl⟩
  have h0 : RV (t0 σ) := h.q FS.rf RS.t
  have hQ := h.qq
  obtain ⟨⟨t1, t2, t3, t4⟩, -⟩ := hQ
  by_cases v : ((¬ a1 < 0) ∧ (a1 ≤ if σ 1 1 < 150 then σ 1 1 else 150))
  · skip
    obtain ⟨v2, v3⟩ := (mn_le a1 (σ 1 1) 150).mp v.2
    have n0 := nnz v.1
    have n1 := nnl (n := 150) (by decide) v3
    obtain ⟨⟨w, hW⟩, -⟩ := h.1.2.2.1
    have h38 : σ 111 38 = nI w := hW.2.1
    have h3 : σ 102 3 = nI w := hW.2.2.1
    by_cases hw : w < 16
    · skip
      have xhi : ∀ o, 111 ≤ o → xwS σ a1 o = σ o := fun o ho => xw_hi h3 hw ho
      obtain ⟨q1, q2, q3⟩ := RA_work (n := a1) h.1 h.2 n0 n1 h38 hw
      have x : ∀ f, f ≠ 0 → (up (xwS σ a1) 111 0 0) 111 f = σ 111 f := fun f hf => by rw [up_k hf, xhi 111 (by decide)]
      have y : ∀ o, 111 < o → (up (xwS σ a1) 111 0 0) o = σ o := fun o ho => by rw [up_o (by omega), xhi o (by omega)]
      have mw : mW (up (xwS σ a1) 111 0 0) := mW_eq (y 115 (by decide)) (fun o a b => y o (by omega)) (x 23 (by decide)) (x 37 (by decide)) h.1.1.mw
      have rw9 : rW (up (xwS σ a1) 111 0 0) 122 := by
        have := RX.rw_ (o := 122) h.1.2.1
        unfold rW at *; rw [y 122 (by decide)]; exact this
      have p := h.c.p
      have b := h.c.b
      have d2 : 0 ≤ ((up (xwS σ a1) 111 0 0) 115 2).toInt ∧ ((up (xwS σ a1) 111 0 0) 115 2).toInt ≤ 3 := by
        rw [y 115 (by decide)]; have := p 2 (by decide); have := b.2.2.1; unfold tl ct at this; omega
      have d3 : 0 ≤ ((up (xwS σ a1) 111 0 0) 115 3).toInt ∧ ((up (xwS σ a1) 111 0 0) 115 3).toInt ≤ 6 := by
        rw [y 115 (by decide)]; have := p 3 (by decide); have := b.2.2.2.1; unfold tl ct at this; omega
      have ds : ∀ s, s < 80 → 0 ≤ ((up (xwS σ a1) 111 0 0) (511 + s) 1).toInt := fun s hs => by rw [y _ (by omega)]; exact h.2 s hs
      have k38 : (up (xwS σ a1) 111 0 0) 111 38 = nI w := (x 38 (by decide)).trans h38
      have f0 := wk_fr (σ := xwS σ a1) (n := a1) (w := w) n0 n1 mw rw9 d2 d3 ds k38 hw
      exact lc_work hg hG hj e1 (wv_work hG hao _ (c_DL_work hG σ a1 v.1 v.2)) (by decide) (c_Mo_work hG (xwS σ a1) a1 w ⟨nn0 v.1, by rw [x 1 (by decide), ← t1]; exact v2⟩ v3 (by rw [x 1 (by decide)]; exact t3) mw rw9 d2 d3 ds k38 hw) (by decide) f0 (fun _ => congrArg Int32.toInt64 q2) hr (K _ _ ⟨q1, q3⟩)
    · skip
      have w16 : w = 16 := by have := hW.1; omega
      obtain ⟨q1, q2, q3⟩ := RA_workF (n := a1) h.1 (by rw [h38, w16]; rfl)
      have x : ∀ f, f ≠ 0 → (up (xwS σ a1) 111 0 0) 111 f = σ 111 f := fun f hf => by rw [up_k hf, q3 111 (by decide)]
      exact lc_work hg hG hj e1 (wv_work hG hao _ (c_DL_work hG σ a1 v.1 v.2)) (by decide) (c_Mo_workF hG (xwS σ a1) a1 ⟨nn0 v.1, by rw [x 1 (by decide), ← t1]; exact v2⟩ v3 (by rw [x 1 (by decide)]; exact t3) (by rw [x 38 (by decide), h38, w16]; rfl)) (by decide) rfl (fun _ => congrArg Int32.toInt64 q2) hr (K _ _ ⟨q1, fun s hs => by rw [up_o (by omega), up_o (by omega), up_o (by omega), q3 _ (by omega)]; exact h.2 s hs⟩)
  · skip
    exact lc_work hg hG hj e1 (wxI_work hG hao _ (xI_DL_work hl hG σ a1  v)) (by decide) (c_Mo_workI hG _ a1  (fun z => v ⟨nn1 z.1.1, (mn_le a1 (σ 1 1) 150).mpr ⟨by rw [t1]; exact z.1.2, z.2⟩⟩)) (by decide) mrf_t (fun z => absurd z (by decide)) hr (K _ _ h.i)
theorem oc_alike {l : Launch} (hl : l.stackTraces = false) {G : Gz} (hG : zI G) {ao : Nat} {cL : ClassId} (hao : ∀ o, o < 610 → G.1 o ≠ ao) {A : Nat → Prop} {X : Cx} {sb L j : Nat} {ks : Nat → Int32} {σ : St} {w9 : Int64} {c9 n9 : Nat} (hg : Gl G ao cL A X sb L ks) (hj : 8 * j + 8 ≤ L) (h : RV σ) (hr : c9 + 1 ≤ (xR X).cells ∧ n9 + 6 ≤ (xR X).slots) (K : ∀ (σ2 : St) (v1 : Int64), RV σ2 → JO l G ao cL A X 8 σ2 v1 (c9 + 1) (n9 + 6) 2417 (zLS G ao sb j) []) : JO l G ao cL A X 8 σ w9 c9 n9 1829 (zLS G ao sb j) [] := by
  obtain ⟨a1, e1⟩ : ∃ a, ks (8 * j + 1) = a := ⟨_, rfl⟩
  obtain ⟨a2, e2⟩ : ∃ a, ks (8 * j + 2) = a := ⟨_, rfl⟩
  obtain ⟨a3, e3⟩ : ∃ a, ks (8 * j + 3) = a := ⟨_, rfl⟩
  have h0 : RV (t0 σ) := h.q FS.rf RS.t
  by_cases u : (((¬ a1 < 0) ∧ (a1 < rg (σ 6) 6 2)) ∧ ((¬ a2 < 0) ∧ (a2 < rg (σ 6) 6 1)))
  · by_cases v : ((¬ a3 < 0) ∧ (a3 ≤ 1))
    · skip
      obtain ⟨d, qd, hd⟩ := ix_of u.1.1 (lt_of_lt_of_eq' u.1.2 h.c.m2)
      subst qd
      have hd : d < tl σ 2 := hd
      obtain ⟨i, qi, hi⟩ := ix_of u.2.1 (lt_of_lt_of_eq' u.2.2 h.c.m1)
      subst qi
      have hi : i < tl σ 1 := hi
      have q := q_alike h0.c hd hi (w := a3)
      exact lc_alike hg hG hj e1 e2 e3 (wv_alike hG hao _ _ _ (c_DL_alike hG σ (nI d) (nI i) a3 u.1.1 u.1.2 u.2.1 u.2.2 v.1 v.2)) (by decide) (c_Mo_alike hG σ d i a3 (h.mw FS.rf) hd hi ⟨nn0 v.1, v.2⟩) (by decide) rfl (fun _ => congrArg Int32.toInt64 q) hr (K _ _ (h.q FS.rf RS.t))
    · skip
      have u2 : ¬ a1 < 0 ∧ a1 < σ 115 2 := ⟨u.1.1, lt_of_lt_of_eq' u.1.2 h.c.m2⟩
      have u3 : ¬ a2 < 0 ∧ a2 < σ 115 1 := ⟨u.2.1, lt_of_lt_of_eq' u.2.2 h.c.m1⟩
      exact lc_alike hg hG hj e1 e2 e3 (wxI_alike hG hao _ _ _ (xI_DL_alike hl hG σ a1 a2 a3 u.1 u.2 v)) (by decide) (c_Mo_alikeI hG _ a1 a2 a3 u2 u3 (fun z => v ⟨nn1 z.1, z.2⟩)) (by decide) mrf_t (fun z => absurd z (by decide)) hr (K _ _ h.i)
  · skip
    exact lc_alike hg hG hj e1 e2 e3 (wxN_alike hG hao _ _ _ (xN_DL_alike hl hG σ a1 a2 a3 u)) (by decide) (c_Mo_alikeN hG _ a1 a2 a3 (h.c.p 2 (by decide)) (h.c.p 1 (by decide)) (fun z => u ⟨⟨z.1.1, lt_of_lt_of_eq' z.1.2 h.c.m2.symm⟩, ⟨z.2.1, lt_of_lt_of_eq' z.2.2 h.c.m1.symm⟩⟩)) (by decide) mrf_t (fun z => absurd z (by decide)) hr (K _ _ h.n)
