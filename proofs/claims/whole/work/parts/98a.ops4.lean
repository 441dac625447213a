/-! the law's calls: feed, fault, undo, safe, shortest, image, restore, status, count -/
theorem oc_feed {l : Launch} (hl : l.stackTraces = false) {G : Gz} (hG : zI G) {ao : Nat} {cL : ClassId} (hao : ∀ o, o < 610 → G.1 o ≠ ao) {A : Nat → Prop} {X : Cx} {sb L j : Nat} {ks : Nat → Int32} {σ : St} {w9 : Int64} {c9 n9 : Nat} (hg : Gl G ao cL A X sb L ks) (hj : 8 * j + 8 ≤ L) (h : RV σ) (hr : c9 + 1 ≤ (xR X).cells ∧ n9 + 6 ≤ (xR X).slots) (K : ∀ (σ2 : St) (v1 : Int64), RV σ2 → JO l G ao cL A X 8 σ2 v1 (c9 + 1) (n9 + 6) 2417 (zLS G ao sb j) []) : JO l G ao cL A X 8 σ w9 c9 n9 208 (zLS G ao sb j) [] := by
  obtain ⟨a1, e1⟩ : ∃ a, ks (8 * j + 1) = a := ⟨_, rfl⟩
  obtain ⟨a2, e2⟩ : ∃ a, ks (8 * j + 2) = a := ⟨_, rfl⟩
  obtain ⟨a3, e3⟩ : ∃ a, ks (8 * j + 3) = a := ⟨_, rfl⟩
  obtain ⟨a4, e4⟩ : ∃ a, ks (8 * j + 4) = a := ⟨_, rfl⟩
  obtain ⟨a5, e5⟩ : ∃ a, ks (8 * j + 5) = a := ⟨_, rfl⟩
  have hr2 : c9 ≤ (xR X).cells ∧ n9 ≤ (xR X).slots := ⟨by omega, by omega⟩
  have h0 : RV (t0 σ) := h.q FS.rf RS.t
  have hQ := h.qq
  obtain ⟨⟨t1, t2, t3, t4⟩, -⟩ := hQ
  have ht : σ 111 1 = nI (σ 111 1).toInt.toNat := (nI_bk t2).symm
  generalize hT : (σ 111 1).toInt.toNat = t at ht
  have t5 : t ≤ 600 := by omega
  have hC := c_DL_feed (l := l) hG σ a1 a2 a3 a4 a5
  have e20 : (σ 1 1 + 20).toInt = t + 20 := by
    rw [t1, ht]; exact i_add (i_nI (by omega)) rfl (by omega) (by omega)
  by_cases f : σ 1 1 + 20 ≤ 600
  · rw [if_pos f, if_pos f] at hC
    have h20 : t + 20 ≤ 600 := by rw [i_le, e20] at f; have : (600 : Int32).toInt = 600 := rfl; omega
    obtain ⟨q1, q2⟩ := RA_feed (a := a1) (b := a2) (c := a3) (d := a4) (e := a5) h.1 ht h20
    rw [q2] at hC
    rw [fdK_e] at hC q1
    have r0 := (fd_run (s := σ) (u := σ) (a := a1) (b := a2) (c := a3) (d := a4) (e := a5) (t1.trans ht) t4 h20 20 (Nat.le_refl _)).2.2.1
    have hb0 : σ 3 = (t0 (fdK σ a1 a2 a3 a4 a5 20)) 112 := by
      unfold t0; rw [up_o (by decide), r0 112 (by decide) (by decide)]; exact t4
    obtain ⟨-, -, -, -, i5, -⟩ := fd_run (s := σ) (u := t0 (fdK σ a1 a2 a3 a4 a5 20)) (a := a1) (b := a2) (c := a3) (d := a4) (e := a5) (t1.trans ht) hb0 h20 20 (Nat.le_refl _)
    have x : (up (fdK σ a1 a2 a3 a4 a5 20) 111 0 0) 111 1 = σ 111 1 := by rw [up_k (by decide), r0 111 (by decide) (by decide)]
    exact lc_feed hg hj e1 e2 e3 e4 e5 hC (by decide) (c_Mo_feed1 hG (fdK σ a1 a2 a3 a4 a5 20) a1 a2 a3 a4 a5 t (by rw [x, ← t1]; exact f) (x.trans ht) h20) (by decide) hr2 (JO.wide (Nat.le_succ _) (Nat.le_add_right _ 6) (K _ _ ⟨q1, fun s hs => by rw [i5 _ (by omega) (by omega)]; unfold t0; rw [up_o (by omega), r0 _ (by omega) (by omega)]; exact h.2 s hs⟩))
  · rw [if_neg f, if_neg f] at hC
    exact lc_feed hg hj e1 e2 e3 e4 e5 hC (by decide) (c_Mo_feed0 hG σ a1 a2 a3 a4 a5 (by show ¬ σ 111 1 + 20 ≤ 600; rw [← t1]; exact f)) (by decide) hr2 (JO.wide (Nat.le_succ _) (Nat.le_add_right _ 6) (K _ _ (h.q FS.rf RS.t)))
theorem oc_fault {l : Launch} (hl : l.stackTraces = false) {G : Gz} (hG : zI G) {ao : Nat} {cL : ClassId} (hao : ∀ o, o < 610 → G.1 o ≠ ao) {A : Nat → Prop} {X : Cx} {sb L j : Nat} {ks : Nat → Int32} {σ : St} {w9 : Int64} {c9 n9 : Nat} (hg : Gl G ao cL A X sb L ks) (hj : 8 * j + 8 ≤ L) (h : RV σ) (hr : c9 + 1 ≤ (xR X).cells ∧ n9 + 6 ≤ (xR X).slots) (K : ∀ (σ2 : St) (v1 : Int64), RV σ2 → JO l G ao cL A X 8 σ2 v1 (c9 + 1) (n9 + 6) 2417 (zLS G ao sb j) []) : JO l G ao cL A X 8 σ w9 c9 n9 505 (zLS G ao sb j) [] := by
  have hr2 : c9 ≤ (xR X).cells ∧ n9 ≤ (xR X).slots := ⟨by omega, by omega⟩
  have h0 : RV (t0 σ) := h.q FS.rf RS.t
  have hC := c_DL_fault (l := l) hG σ
  rw [q_fault (t := t0 σ) h.1 (sx.rf.t9)] at hC
  exact lc_fault hg hj hC (by decide) (c_Mo_fault hG σ) (by decide) hr2 (JO.wide (Nat.le_succ _) (Nat.le_add_right _ 6) (K _ _ (h.q FS.rf RS.t)))
theorem oc_undo {l : Launch} (hl : l.stackTraces = false) {G : Gz} (hG : zI G) {ao : Nat} {cL : ClassId} (hao : ∀ o, o < 610 → G.1 o ≠ ao) {A : Nat → Prop} {X : Cx} {sb L j : Nat} {ks : Nat → Int32} {σ : St} {w9 : Int64} {c9 n9 : Nat} (hg : Gl G ao cL A X sb L ks) (hj : 8 * j + 8 ≤ L) (h : RV σ) (hr : c9 + 1 ≤ (xR X).cells ∧ n9 + 6 ≤ (xR X).slots) (K : ∀ (σ2 : St) (v1 : Int64), RV σ2 → JO l G ao cL A X 8 σ2 v1 (c9 + 1) (n9 + 6) 2417 (zLS G ao sb j) []) : JO l G ao cL A X 8 σ w9 c9 n9 518 (zLS G ao sb j) [] := by
  have hr2 : c9 ≤ (xR X).cells ∧ n9 ≤ (xR X).slots := ⟨by omega, by omega⟩
  have h0 : RV (t0 σ) := h.q FS.rf RS.t
  obtain ⟨⟨w, hW⟩, -⟩ := h.1.2.2.1
  have h38 : σ 111 38 = nI w := hW.2.1
  have h3 : σ 102 3 = nI w := hW.2.2.1
  have hw := hW.1
  have hC := c_DL_undo (l := l) hG σ
  cases w with
  | zero =>
    have z3 : σ 102 3 = 0 := h3
    rw [if_pos z3, if_pos z3] at hC
    exact lc_undo hg hj hC (by decide) (c_Mo_undo0 hG σ h38) (by decide) hr2 (JO.wide (Nat.le_succ _) (Nat.le_add_right _ 6) (K _ _ (h.q FS.rf RS.t)))
  | succ w =>
    have hn : ¬ σ 102 3 = 0 := by rw [h3]; exact nI_nz (by omega)
    rw [if_neg hn, if_neg hn] at hC
    obtain ⟨q1, q2⟩ := RA_und h.1 h38 (by omega)
    rw [q2] at hC
    obtain ⟨-, -, -, c4, -⟩ := und_c h3 (by omega)
    obtain ⟨-, -, -, m4, -⟩ := und_m (σ := uwS (up σ 0 14 0)) (w := w) (by omega)
    exact lc_undo hg hj hC (by decide) (c_Mo_undo1 hG (uwS (up σ 0 14 0)) w (by omega) (by rw [up_k (by decide), c4 111 (by decide) (by decide) (by decide)]; exact h38)) (by decide) hr2 (JO.wide (Nat.le_succ _) (Nat.le_add_right _ 6) (K _ _ ⟨q1, fun s hs => by rw [m4 _ (by omega) (by omega), c4 _ (by omega) (by omega) (by omega)]; exact h.2 s hs⟩))
theorem oc_safe {l : Launch} (hl : l.stackTraces = false) {G : Gz} (hG : zI G) {ao : Nat} {cL : ClassId} (hao : ∀ o, o < 610 → G.1 o ≠ ao) {A : Nat → Prop} {X : Cx} {sb L j : Nat} {ks : Nat → Int32} {σ : St} {w9 : Int64} {c9 n9 : Nat} (hg : Gl G ao cL A X sb L ks) (hj : 8 * j + 8 ≤ L) (h : RV σ) (hr : c9 + 1 ≤ (xR X).cells ∧ n9 + 6 ≤ (xR X).slots) (K : ∀ (σ2 : St) (v1 : Int64), RV σ2 → JO l G ao cL A X 8 σ2 v1 (c9 + 1) (n9 + 6) 2417 (zLS G ao sb j) []) : JO l G ao cL A X 8 σ w9 c9 n9 1134 (zLS G ao sb j) [] := by
  have hr2 : c9 ≤ (xR X).cells ∧ n9 ≤ (xR X).slots := ⟨by omega, by omega⟩
  have h0 : RV (t0 σ) := h.q FS.rf RS.t
  have e6 : (pbS σ 81) 6 = σ 6 := (fsB FS.rf) 6 rfl
  have hC := c_DL_safe (l := l) hG σ
  have en : ct (cM (pbS σ 81) 3) = tl σ 3 := by unfold cM; rw [e6]; exact congrArg ct h.c.m3
  rw [en] at hC
  have hs : FS σ (saF (pbS σ 81) (tl σ 3)).2 := fs_safe FS.rf
  have q := (q_safe (t := t0 (saF (pbS σ 81) (tl σ 3)).2) h.c h.ns h.l h.o hs.sx.t9 (tl σ 3) (Nat.le_refl _)).1
  rw [q] at hC
  have et : ct ((up (saF (pbS σ 81) (tl σ 3)).2 111 0 0) 115 3) = tl σ 3 := congrArg ct (congrFun (hs 115 rfl) 3)
  have hM := c_Mo_safe (l := l) hG (saF (pbS σ 81) (tl σ 3)).2 (h.mw hs) (h.rw_ hs)
  rw [et] at hM
  exact lc_safe hg hj hC (by decide) hM (by decide) hr2 (JO.wide (Nat.le_succ _) (Nat.le_add_right _ 6) (K _ _ (h.q hs (RS.t.tr (RS.q sq.rf.sf)))))
theorem oc_shortest {l : Launch} (hl : l.stackTraces = false) {G : Gz} (hG : zI G) {ao : Nat} {cL : ClassId} (hao : ∀ o, o < 610 → G.1 o ≠ ao) {A : Nat → Prop} {X : Cx} {sb L j : Nat} {ks : Nat → Int32} {σ : St} {w9 : Int64} {c9 n9 : Nat} (hg : Gl G ao cL A X sb L ks) (hj : 8 * j + 8 ≤ L) (h : RV σ) (hr : c9 + 1 ≤ (xR X).cells ∧ n9 + 6 ≤ (xR X).slots) (K : ∀ (σ2 : St) (v1 : Int64), RV σ2 → JO l G ao cL A X 8 σ2 v1 (c9 + 1) (n9 + 6) 2417 (zLS G ao sb j) []) : JO l G ao cL A X 8 σ w9 c9 n9 1451 (zLS G ao sb j) [] := by
  have hr2 : c9 ≤ (xR X).cells ∧ n9 ≤ (xR X).slots := ⟨by omega, by omega⟩
  have h0 : RV (t0 σ) := h.q FS.rf RS.t
  obtain ⟨q1, q2⟩ := q_shortest h.c 8 (by decide)
  have hs : FS σ (stF σ 8).2 := FS.at FS.rf (o := 110) rfl (fun o ho => q1 o ho)
  have hC := c_DL_shortest (l := l) hG σ
  have e : ((stF σ 8).1).getD (-1) = mshF (t0 (stF σ 8).2) := by
    rw [q2]
    unfold mshF
    have em : ∀ n m, mco (t0 (stF σ 8).2) n m = mco σ n m := fun n m => mco_sx h.c.b.2.2.1 hs.sx.t9
    simp only [em]
  rw [e] at hC
  exact lc_shortest hg hj hC (by decide) (c_Mo_shortest hG (stF σ 8).2 (h.mw hs)) (by decide) hr2 (JO.wide (Nat.le_succ _) (Nat.le_add_right _ 6) (K _ _ (h.q hs RS.t)))
theorem oc_image {l : Launch} (hl : l.stackTraces = false) {G : Gz} (hG : zI G) {ao : Nat} {cL : ClassId} (hao : ∀ o, o < 610 → G.1 o ≠ ao) {A : Nat → Prop} {X : Cx} {sb L j : Nat} {ks : Nat → Int32} {σ : St} {w9 : Int64} {c9 n9 : Nat} (hg : Gl G ao cL A X sb L ks) (hj : 8 * j + 8 ≤ L) (h : RV σ) (hr : c9 + 1 ≤ (xR X).cells ∧ n9 + 6 ≤ (xR X).slots) (K : ∀ (σ2 : St) (v1 : Int64), RV σ2 → JO l G ao cL A X 8 σ2 v1 (c9 + 1) (n9 + 6) 2417 (zLS G ao sb j) []) : JO l G ao cL A X 8 σ w9 c9 n9 2341 (zLS G ao sb j) [] := by
  have hr2 : c9 ≤ (xR X).cells ∧ n9 ≤ (xR X).slots := ⟨by omega, by omega⟩
  have h0 : RV (t0 σ) := h.q FS.rf RS.t
  obtain ⟨-, i, hI⟩ := h.1.2.2.1
  have h40 : σ 111 40 = nI i := hI.2.1
  have h4 : σ 102 4 = nI i := hI.2.2.1
  have hi := hI.1
  have hC := c_DL_image (l := l) hG σ
  by_cases f : i < 3
  · have hc : σ 102 4 < 3 := by rw [h4]; exact nI_ltz (n := 3) f (by decide)
    rw [if_pos hc, if_pos hc] at hC
    obtain ⟨q1, q2⟩ := RA_img h.1 h40 f
    rw [q2] at hC
    have c4 := (img_c h4 f).2.2.2.2.2
    have m4 := (img_m (σ := kiS σ) f).2.2.1
    exact lc_image hg hj hC (by decide) (c_Mo_image1 hG (kiS σ) i f (by rw [up_k (by decide), c4 111 (by decide) (by decide) (by decide)]; exact h40)) (by decide) hr2 (JO.wide (Nat.le_succ _) (Nat.le_add_right _ 6) (K _ _ ⟨q1, fun s hs => by rw [m4 _ (by omega) (by omega), c4 _ (by omega) (by omega) (by omega)]; exact h.2 s hs⟩))
  · have e3 : i = 3 := by omega
    have hc : ¬ σ 102 4 < 3 := by rw [h4, e3]; decide
    rw [if_neg hc, if_neg hc] at hC
    exact lc_image hg hj hC (by decide) (c_Mo_image0 hG σ (h40.trans (by rw [e3]; rfl))) (by decide) hr2 (JO.wide (Nat.le_succ _) (Nat.le_add_right _ 6) (K _ _ (h.q FS.rf RS.t)))
theorem oc_restore {l : Launch} (hl : l.stackTraces = false) {G : Gz} (hG : zI G) {ao : Nat} {cL : ClassId} (hao : ∀ o, o < 610 → G.1 o ≠ ao) {A : Nat → Prop} {X : Cx} {sb L j : Nat} {ks : Nat → Int32} {σ : St} {w9 : Int64} {c9 n9 : Nat} (hg : Gl G ao cL A X sb L ks) (hj : 8 * j + 8 ≤ L) (h : RV σ) (hr : c9 + 1 ≤ (xR X).cells ∧ n9 + 6 ≤ (xR X).slots) (K : ∀ (σ2 : St) (v1 : Int64), RV σ2 → JO l G ao cL A X 8 σ2 v1 (c9 + 1) (n9 + 6) 2417 (zLS G ao sb j) []) : JO l G ao cL A X 8 σ w9 c9 n9 2354 (zLS G ao sb j) [] := by
  have hr2 : c9 ≤ (xR X).cells ∧ n9 ≤ (xR X).slots := ⟨by omega, by omega⟩
  have h0 : RV (t0 σ) := h.q FS.rf RS.t
  obtain ⟨-, i, hI⟩ := h.1.2.2.1
  have h40 : σ 111 40 = nI i := hI.2.1
  have h4 : σ 102 4 = nI i := hI.2.2.1
  have hi := hI.1
  have hC := c_DL_restore (l := l) hG σ
  cases i with
  | zero =>
    have z4 : σ 102 4 = 0 := h4
    rw [if_pos z4, if_pos z4] at hC
    exact lc_restore hg hj hC (by decide) (c_Mo_restore0 hG σ h40) (by decide) hr2 (JO.wide (Nat.le_succ _) (Nat.le_add_right _ 6) (K _ _ (h.q FS.rf RS.t)))
  | succ i =>
    have hn : ¬ σ 102 4 = 0 := by rw [h4]; exact nI_nz (by omega)
    rw [if_neg hn, if_neg hn] at hC
    obtain ⟨q1, q2⟩ := RA_res h.1 h40 (by omega)
    rw [q2] at hC
    have c7 := (res_c h4 (by omega : i < 3)).2.2.2.2
    have m6 := (res_m (σ := tiS (up σ 0 14 0)) (by omega : i < 3)).2.2.2.1
    exact lc_restore hg hj hC (by decide) (c_Mo_restore1 hG (tiS (up σ 0 14 0)) i (by omega) (by rw [up_k (by decide), c7 111 (by decide) (by decide) (by decide) (by decide)]; exact h40)) (by decide) hr2 (JO.wide (Nat.le_succ _) (Nat.le_add_right _ 6) (K _ _ ⟨q1, fun s hs => by show 0 ≤ (rsm (tiS (up σ 0 14 0)) i (511 + s) 1).toInt; rw [m6 _ (by omega) (by omega) (by omega), c7 _ (by omega) (by omega) (by omega) (by omega)]; exact h.2 s hs⟩))
theorem oc_status {l : Launch} (hl : l.stackTraces = false) {G : Gz} (hG : zI G) {ao : Nat} {cL : ClassId} (hao : ∀ o, o < 610 → G.1 o ≠ ao) {A : Nat → Prop} {X : Cx} {sb L j : Nat} {ks : Nat → Int32} {σ : St} {w9 : Int64} {c9 n9 : Nat} (hg : Gl G ao cL A X sb L ks) (hj : 8 * j + 8 ≤ L) (h : RV σ) (hr : c9 + 1 ≤ (xR X).cells ∧ n9 + 6 ≤ (xR X).slots) (K : ∀ (σ2 : St) (v1 : Int64), RV σ2 → JO l G ao cL A X 8 σ2 v1 (c9 + 1) (n9 + 6) 2417 (zLS G ao sb j) []) : JO l G ao cL A X 8 σ w9 c9 n9 2367 (zLS G ao sb j) [] := by
  obtain ⟨a1, e1⟩ : ∃ a, ks (8 * j + 1) = a := ⟨_, rfl⟩
  have hr2 : c9 ≤ (xR X).cells ∧ n9 ≤ (xR X).slots := ⟨by omega, by omega⟩
  have h0 : RV (t0 σ) := h.q FS.rf RS.t
  have hC := c_DL_status (l := l) hG σ a1
  rw [q_status (t := t0 σ) h.1 (sx.rf.t9)] at hC
  exact lc_status hg hj e1 hC (by decide) (c_Mo_status hG σ a1) (by decide) hr2 (JO.wide (Nat.le_succ _) (Nat.le_add_right _ 6) (K _ _ (h.q FS.rf RS.t)))
theorem oc_count {l : Launch} (hl : l.stackTraces = false) {G : Gz} (hG : zI G) {ao : Nat} {cL : ClassId} (hao : ∀ o, o < 610 → G.1 o ≠ ao) {A : Nat → Prop} {X : Cx} {sb L j : Nat} {ks : Nat → Int32} {σ : St} {w9 : Int64} {c9 n9 : Nat} (hg : Gl G ao cL A X sb L ks) (hj : 8 * j + 8 ≤ L) (h : RV σ) (hr : c9 + 1 ≤ (xR X).cells ∧ n9 + 6 ≤ (xR X).slots) (K : ∀ (σ2 : St) (v1 : Int64), RV σ2 → JO l G ao cL A X 8 σ2 v1 (c9 + 1) (n9 + 6) 2417 (zLS G ao sb j) []) : JO l G ao cL A X 8 σ w9 c9 n9 2392 (zLS G ao sb j) [] := by
  obtain ⟨a1, e1⟩ : ∃ a, ks (8 * j + 1) = a := ⟨_, rfl⟩
  have hr2 : c9 ≤ (xR X).cells ∧ n9 ≤ (xR X).slots := ⟨by omega, by omega⟩
  have h0 : RV (t0 σ) := h.q FS.rf RS.t
  have hC := c_DL_count (l := l) hG σ a1
  rw [q_count (t := t0 σ) h.1 (sx.rf.t9)] at hC
  exact lc_count hg hj e1 hC (by decide) (c_Mo_count hG σ a1) (by decide) hr2 (JO.wide (Nat.le_succ _) (Nat.le_add_right _ 6) (K _ _ (h.q FS.rf RS.t)))
