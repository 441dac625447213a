theorem lt_of_lt_of_eq' {a b c : Int32} (h : a < b) (e : b = c) : a < c := e ▸ h
theorem mn_le (a x m : Int32) : (a ≤ if x < m then x else m) ↔ a ≤ x ∧ a ≤ m := by
  split
  · rename_i h; rw [i_lt] at h; simp only [i_le]; omega
  · rename_i h; rw [i_lt] at h; simp only [i_le]; omega
theorem RV_ct {σ s : St} (hs : FS σ s) {k i : Nat} (h : i < tl σ k) : i < ct ((up s 111 0 0) 115 k) := by rw [up_o (by decide), hs 115 rfl]; exact h
theorem RV_hd {σ : St} (h : RV σ) (h4 : 0 < tl σ 4) : ¬ mhd σ (tl σ 4) = 0 := fun e => by
  have hb := h.c.b.2.2.2.2
  have hd := h.c.door
  have hg := h.dr
  have key : ∀ n, n ≤ tl σ 4 → (n : Int) ≤ (sm (σ 119) n).toInt ∧ (sm (σ 119) n).toInt ≤ 1000 * n := by
    intro n
    induction n with
    | zero => intro _; exact ⟨by show (0 : Int) ≤ (0 : Int32).toInt; decide, by show (0 : Int32).toInt ≤ _; decide⟩
    | succ n ih =>
      intro hn
      obtain ⟨a, b⟩ := ih (by omega)
      have c := hd n (by omega)
      have d := hg n (by omega)
      have e9 : (sm (σ 119) (n + 1)).toInt = (sm (σ 119) n).toInt + (σ 119 n).toInt := i_add rfl rfl (by omega) (by omega)
      rw [e9]; omega
  have k := (key (tl σ 4) (Nat.le_refl _)).1
  unfold mhd at e
  rw [e] at k
  have z : (0 : Int32).toInt = 0 := rfl
  omega
theorem mco_sx {σ t : St} (hb : tl σ 2 ≤ 3) (hq : sx σ t) {n m : Nat} : mco t n m = mco σ n m := by
  have e : tl t 2 = tl σ 2 := by unfold tl; rw [hq.1 115 (by decide) (by decide) (by decide)]
  have hD : ∀ (k : Int32) (d : Nat), d < 3 → (mkD t k n d ↔ mkD σ k n d) := fun k d hd => by
    unfold mkD
    rw [hq.1 (152 + d) (by omega) (by omega) (by omega)]
  have h : ∀ k, mkN t (nI k) n ↔ mkN σ (nI k) n := fun k => by
    unfold mkN
    rw [e]
    exact ⟨fun z d hd => (hD _ d (by omega)).mp (z d hd), fun z d hd => (hD _ d (by omega)).mpr (z d hd)⟩
  have hB : ∀ (m : Nat) (x : Int32 × Int32), mcoB t n m x = mcoB σ n m x := fun m x => by
    unfold mcoB
    rw [b2_congr (not_congr (h m))]
  unfold mco
  induction m with
  | zero => rw [it, it]
  | succ m ih => rw [it, it, ih, hB]
/-! the law's calls: told, cell, light, donkey, ship, seen -/
theorem oc_told {l : Launch} (hl : l.stackTraces = false) {G : Gz} (hG : zI G) {ao : Nat} {cL : ClassId} (hao : ∀ o, o < 610 → G.1 o ≠ ao) {A : Nat → Prop} {X : Cx} {sb L j : Nat} {ks : Nat → Int32} {σ : St} {w9 : Int64} {c9 n9 : Nat} (hg : Gl G ao cL A X sb L ks) (hj : 8 * j + 8 ≤ L) (h : RV σ) (hr : c9 + 1 ≤ (xR X).cells ∧ n9 + 6 ≤ (xR X).slots) (K : ∀ (σ2 : St) (v1 : Int64), RV σ2 → JO l G ao cL A X 8 σ2 v1 (c9 + 1) (n9 + 6) 2417 (zLS G ao sb j) []) : JO l G ao cL A X 8 σ w9 c9 n9 531 (zLS G ao sb j) [] := by
  obtain ⟨a1, e1⟩ : ∃ a, ks (8 * j + 1) = a := ⟨_, rfl⟩
  have h0 : RV (t0 σ) := h.q FS.rf RS.t
  by_cases v : ((¬ a1 < 0) ∧ (a1 ≤ 12))
  · skip
    obtain ⟨w, qw, hw⟩ := lit_of (n := 12) (by decide) v.1 v.2
    subst qw
    exact lc_told hg hG hj e1 (wv_told hG hao _ (c_DL_told hG σ (nI w) v.1 v.2)) (by decide) (c_Mo_told hG σ w (by omega) ⟨nn0 v.1, v.2⟩) (by decide) rfl (fun _ => congrArg Int32.toInt64 (q_told h0.c h0.ns h0.g.1 h0.qq.2.2.1 (by omega))) hr (K _ _ (h.q FS.rf RS.t))
  · skip
    exact lc_told hg hG hj e1 (wxI_told hG hao _ (xI_DL_told hl hG σ a1  v)) (by decide) (c_Mo_toldI hG _ a1  (fun z => v ⟨nn1 z.1, z.2⟩)) (by decide) mrf_t (fun z => absurd z (by decide)) hr (K _ _ h.i)
theorem oc_cell {l : Launch} (hl : l.stackTraces = false) {G : Gz} (hG : zI G) {ao : Nat} {cL : ClassId} (hao : ∀ o, o < 610 → G.1 o ≠ ao) {A : Nat → Prop} {X : Cx} {sb L j : Nat} {ks : Nat → Int32} {σ : St} {w9 : Int64} {c9 n9 : Nat} (hg : Gl G ao cL A X sb L ks) (hj : 8 * j + 8 ≤ L) (h : RV σ) (hr : c9 + 1 ≤ (xR X).cells ∧ n9 + 6 ≤ (xR X).slots) (K : ∀ (σ2 : St) (v1 : Int64), RV σ2 → JO l G ao cL A X 8 σ2 v1 (c9 + 1) (n9 + 6) 2417 (zLS G ao sb j) []) : JO l G ao cL A X 8 σ w9 c9 n9 587 (zLS G ao sb j) [] := by
  obtain ⟨a1, e1⟩ : ∃ a, ks (8 * j + 1) = a := ⟨_, rfl⟩
  obtain ⟨a2, e2⟩ : ∃ a, ks (8 * j + 2) = a := ⟨_, rfl⟩
  have h0 : RV (t0 σ) := h.q FS.rf RS.t
  by_cases u : ((¬ a1 < 0) ∧ (a1 < rg (σ 6) 6 0))
  · by_cases v : ((¬ a2 < 0) ∧ (a2 ≤ 3))
    · skip
      obtain ⟨c, qc, hc⟩ := ix_of u.1 (lt_of_lt_of_eq' u.2 h.c.m0)
      subst qc
      have hc : c < tl σ 0 := hc
      obtain ⟨w, qw, hw⟩ := lit_of (n := 3) (by decide) v.1 v.2
      subst qw
      have ow : nI w = 0 ∨ nI w = 1 ∨ nI w = 2 ∨ nI w = 3 := by
        rcases (show w = 0 ∨ w = 1 ∨ w = 2 ∨ w = 3 by omega) with r | r | r | r <;> subst r <;> decide
      exact lc_cell hg hG hj e1 e2 (wv_cell hG hao _ _ (c_DL_cell hG σ (nI c) (nI w) u.1 u.2 v.1 v.2)) (by decide) (c_Mo_cell hG σ c (nI w) (h.mw FS.rf) hc ⟨nn0 v.1, v.2⟩) (by decide) rfl (fun _ => congrArg Int32.toInt64 (q_cell h0.c h0.ns hc ow)) hr (K _ _ (h.q FS.rf RS.t))
    · skip
      have u2 : ¬ a1 < 0 ∧ a1 < σ 115 0 := ⟨u.1, lt_of_lt_of_eq' u.2 h.c.m0⟩
      exact lc_cell hg hG hj e1 e2 (wxI_cell hG hao _ _ (xI_DL_cell hl hG σ a1 a2 u v)) (by decide) (c_Mo_cellI hG _ a1 a2 u2 (fun z => v ⟨nn1 z.1, z.2⟩)) (by decide) mrf_t (fun z => absurd z (by decide)) hr (K _ _ h.i)
  · skip
    exact lc_cell hg hG hj e1 e2 (wxN_cell hG hao _ _ (xN_DL_cell hl hG σ a1 a2 u)) (by decide) (c_Mo_cellN hG _ a1 a2 (h.c.p 0 (by decide)) (fun z => u ⟨z.1, lt_of_lt_of_eq' z.2 h.c.m0.symm⟩)) (by decide) mrf_t (fun z => absurd z (by decide)) hr (K _ _ h.n)
theorem oc_light {l : Launch} (hl : l.stackTraces = false) {G : Gz} (hG : zI G) {ao : Nat} {cL : ClassId} (hao : ∀ o, o < 610 → G.1 o ≠ ao) {A : Nat → Prop} {X : Cx} {sb L j : Nat} {ks : Nat → Int32} {σ : St} {w9 : Int64} {c9 n9 : Nat} (hg : Gl G ao cL A X sb L ks) (hj : 8 * j + 8 ≤ L) (h : RV σ) (hr : c9 + 1 ≤ (xR X).cells ∧ n9 + 6 ≤ (xR X).slots) (K : ∀ (σ2 : St) (v1 : Int64), RV σ2 → JO l G ao cL A X 8 σ2 v1 (c9 + 1) (n9 + 6) 2417 (zLS G ao sb j) []) : JO l G ao cL A X 8 σ w9 c9 n9 655 (zLS G ao sb j) [] := by
  obtain ⟨a1, e1⟩ : ∃ a, ks (8 * j + 1) = a := ⟨_, rfl⟩
  obtain ⟨a2, e2⟩ : ∃ a, ks (8 * j + 2) = a := ⟨_, rfl⟩
  have h0 : RV (t0 σ) := h.q FS.rf RS.t
  by_cases u : ((¬ a1 < 0) ∧ (a1 < rg (σ 6) 6 1))
  · by_cases v : ((¬ a2 < 0) ∧ (a2 ≤ 2))
    · skip
      obtain ⟨c, qc, hc⟩ := ix_of u.1 (lt_of_lt_of_eq' u.2 h.c.m1)
      subst qc
      have hc : c < tl σ 1 := hc
      obtain ⟨w, qw, hw⟩ := lit_of (n := 2) (by decide) v.1 v.2
      subst qw
      exact lc_light hg hG hj e1 e2 (wv_light hG hao _ _ (c_DL_light hG σ (nI c) (nI w) u.1 u.2 v.1 v.2)) (by decide) (c_Mo_light hG σ c w (h.mw FS.rf) (by omega) hc ⟨nn0 v.1, v.2⟩) (by decide) rfl (fun _ => congrArg Int32.toInt64 (q_light h0.c h0.ns hc (by omega))) hr (K _ _ (h.q FS.rf RS.t))
    · skip
      have u2 : ¬ a1 < 0 ∧ a1 < σ 115 1 := ⟨u.1, lt_of_lt_of_eq' u.2 h.c.m1⟩
      exact lc_light hg hG hj e1 e2 (wxI_light hG hao _ _ (xI_DL_light hl hG σ a1 a2 u v)) (by decide) (c_Mo_lightI hG _ a1 a2 u2 (fun z => v ⟨nn1 z.1, z.2⟩)) (by decide) mrf_t (fun z => absurd z (by decide)) hr (K _ _ h.i)
  · skip
    exact lc_light hg hG hj e1 e2 (wxN_light hG hao _ _ (xN_DL_light hl hG σ a1 a2 u)) (by decide) (c_Mo_lightN hG _ a1 a2 (h.c.p 1 (by decide)) (fun z => u ⟨z.1, lt_of_lt_of_eq' z.2 h.c.m1.symm⟩)) (by decide) mrf_t (fun z => absurd z (by decide)) hr (K _ _ h.n)
theorem oc_donkey {l : Launch} (hl : l.stackTraces = false) {G : Gz} (hG : zI G) {ao : Nat} {cL : ClassId} (hao : ∀ o, o < 610 → G.1 o ≠ ao) {A : Nat → Prop} {X : Cx} {sb L j : Nat} {ks : Nat → Int32} {σ : St} {w9 : Int64} {c9 n9 : Nat} (hg : Gl G ao cL A X sb L ks) (hj : 8 * j + 8 ≤ L) (h : RV σ) (hr : c9 + 1 ≤ (xR X).cells ∧ n9 + 6 ≤ (xR X).slots) (K : ∀ (σ2 : St) (v1 : Int64), RV σ2 → JO l G ao cL A X 8 σ2 v1 (c9 + 1) (n9 + 6) 2417 (zLS G ao sb j) []) : JO l G ao cL A X 8 σ w9 c9 n9 723 (zLS G ao sb j) [] := by
  obtain ⟨a1, e1⟩ : ∃ a, ks (8 * j + 1) = a := ⟨_, rfl⟩
  obtain ⟨a2, e2⟩ : ∃ a, ks (8 * j + 2) = a := ⟨_, rfl⟩
  have h0 : RV (t0 σ) := h.q FS.rf RS.t
  by_cases u : ((¬ a1 < 0) ∧ (a1 < rg (σ 6) 6 2))
  · by_cases v : ((¬ a2 < 0) ∧ (a2 ≤ 1))
    · skip
      obtain ⟨c, qc, hc⟩ := ix_of u.1 (lt_of_lt_of_eq' u.2 h.c.m2)
      subst qc
      have hc : c < tl σ 2 := hc
      obtain ⟨w, qw, hw⟩ := lit_of (n := 1) (by decide) v.1 v.2
      subst qw
      exact lc_donkey hg hG hj e1 e2 (wv_donkey hG hao _ _ (c_DL_donkey hG σ (nI c) (nI w) u.1 u.2 v.1 v.2)) (by decide) (c_Mo_donkey hG σ c w (h.mw FS.rf) (by omega) hc ⟨nn0 v.1, v.2⟩) (by decide) rfl (fun _ => congrArg Int32.toInt64 (q_donkey h0.c h0.ns hc (by omega))) hr (K _ _ (h.q FS.rf RS.t))
    · skip
      have u2 : ¬ a1 < 0 ∧ a1 < σ 115 2 := ⟨u.1, lt_of_lt_of_eq' u.2 h.c.m2⟩
      exact lc_donkey hg hG hj e1 e2 (wxI_donkey hG hao _ _ (xI_DL_donkey hl hG σ a1 a2 u v)) (by decide) (c_Mo_donkeyI hG _ a1 a2 u2 (fun z => v ⟨nn1 z.1, z.2⟩)) (by decide) mrf_t (fun z => absurd z (by decide)) hr (K _ _ h.i)
  · skip
    exact lc_donkey hg hG hj e1 e2 (wxN_donkey hG hao _ _ (xN_DL_donkey hl hG σ a1 a2 u)) (by decide) (c_Mo_donkeyN hG _ a1 a2 (h.c.p 2 (by decide)) (fun z => u ⟨z.1, lt_of_lt_of_eq' z.2 h.c.m2.symm⟩)) (by decide) mrf_t (fun z => absurd z (by decide)) hr (K _ _ h.n)
theorem oc_ship {l : Launch} (hl : l.stackTraces = false) {G : Gz} (hG : zI G) {ao : Nat} {cL : ClassId} (hao : ∀ o, o < 610 → G.1 o ≠ ao) {A : Nat → Prop} {X : Cx} {sb L j : Nat} {ks : Nat → Int32} {σ : St} {w9 : Int64} {c9 n9 : Nat} (hg : Gl G ao cL A X sb L ks) (hj : 8 * j + 8 ≤ L) (h : RV σ) (hr : c9 + 1 ≤ (xR X).cells ∧ n9 + 6 ≤ (xR X).slots) (K : ∀ (σ2 : St) (v1 : Int64), RV σ2 → JO l G ao cL A X 8 σ2 v1 (c9 + 1) (n9 + 6) 2417 (zLS G ao sb j) []) : JO l G ao cL A X 8 σ w9 c9 n9 791 (zLS G ao sb j) [] := by
  obtain ⟨a1, e1⟩ : ∃ a, ks (8 * j + 1) = a := ⟨_, rfl⟩
  obtain ⟨a2, e2⟩ : ∃ a, ks (8 * j + 2) = a := ⟨_, rfl⟩
  have h0 : RV (t0 σ) := h.q FS.rf RS.t
  by_cases u : ((¬ a1 < 0) ∧ (a1 < rg (σ 6) 6 3))
  · by_cases v : ((¬ a2 < 0) ∧ (a2 ≤ 5))
    · skip
      obtain ⟨c, qc, hc⟩ := ix_of u.1 (lt_of_lt_of_eq' u.2 h.c.m3)
      subst qc
      have hc : c < tl σ 3 := hc
      obtain ⟨w, qw, hw⟩ := lit_of (n := 5) (by decide) v.1 v.2
      subst qw
      exact lc_ship hg hG hj e1 e2 (wv_ship hG hao _ _ (c_DL_ship hG σ (nI c) (nI w) u.1 u.2 v.1 v.2)) (by decide) (c_Mo_ship hG σ c w (h.mw FS.rf) (by omega) hc ⟨nn0 v.1, v.2⟩) (by decide) rfl (fun _ => congrArg Int32.toInt64 (q_ship h0.c h0.ns hc (by omega))) hr (K _ _ (h.q FS.rf RS.t))
    · skip
      have u2 : ¬ a1 < 0 ∧ a1 < σ 115 3 := ⟨u.1, lt_of_lt_of_eq' u.2 h.c.m3⟩
      exact lc_ship hg hG hj e1 e2 (wxI_ship hG hao _ _ (xI_DL_ship hl hG σ a1 a2 u v)) (by decide) (c_Mo_shipI hG _ a1 a2 u2 (fun z => v ⟨nn1 z.1, z.2⟩)) (by decide) mrf_t (fun z => absurd z (by decide)) hr (K _ _ h.i)
  · skip
    exact lc_ship hg hG hj e1 e2 (wxN_ship hG hao _ _ (xN_DL_ship hl hG σ a1 a2 u)) (by decide) (c_Mo_shipN hG _ a1 a2 (h.c.p 3 (by decide)) (fun z => u ⟨z.1, lt_of_lt_of_eq' z.2 h.c.m3.symm⟩)) (by decide) mrf_t (fun z => absurd z (by decide)) hr (K _ _ h.n)
theorem oc_seen {l : Launch} (hl : l.stackTraces = false) {G : Gz} (hG : zI G) {ao : Nat} {cL : ClassId} (hao : ∀ o, o < 610 → G.1 o ≠ ao) {A : Nat → Prop} {X : Cx} {sb L j : Nat} {ks : Nat → Int32} {σ : St} {w9 : Int64} {c9 n9 : Nat} (hg : Gl G ao cL A X sb L ks) (hj : 8 * j + 8 ≤ L) (h : RV σ) (hr : c9 + 1 ≤ (xR X).cells ∧ n9 + 6 ≤ (xR X).slots) (K : ∀ (σ2 : St) (v1 : Int64), RV σ2 → JO l G ao cL A X 8 σ2 v1 (c9 + 1) (n9 + 6) 2417 (zLS G ao sb j) []) : JO l G ao cL A X 8 σ w9 c9 n9 859 (zLS G ao sb j) [] := by
  obtain ⟨a1, e1⟩ : ∃ a, ks (8 * j + 1) = a := ⟨_, rfl⟩
  obtain ⟨a2, e2⟩ : ∃ a, ks (8 * j + 2) = a := ⟨_, rfl⟩
  have h0 : RV (t0 σ) := h.q FS.rf RS.t
  by_cases u : ((¬ a1 < 0) ∧ (a1 < rg (σ 6) 6 0))
  · by_cases v : ((¬ a2 < 0) ∧ (a2 ≤ 99))
    · skip
      obtain ⟨c, qc, hc⟩ := ix_of u.1 (lt_of_lt_of_eq' u.2 h.c.m0)
      subst qc
      have hc : c < tl σ 0 := hc
      have hb := h.c.b
      have hC : (nI c).toInt = c := i_nI (by omega)
      have hM := nnl (n := 99) (by decide) v.2
      exact lc_seen hg hG hj e1 e2 (wv_seen hG hao _ _ (c_DL_seen hG σ (nI c) a2 u.1 u.2 v.1 v.2)) (by decide) (c_Mo_seen hG σ c a2 (h.mw FS.rf) (h.rw_ FS.rf) hc ⟨nn0 v.1, v.2⟩) (by decide) rfl (fun _ => congrArg Int32.toInt64 (q_seen h0.c h0.ns (Nat.lt_of_le_of_lt (Nat.zero_le _) hc) ⟨by omega, by omega⟩ ⟨nnz v.1, by omega⟩)) hr (K _ _ (h.q FS.rf RS.t))
    · skip
      have u2 : ¬ a1 < 0 ∧ a1 < σ 115 0 := ⟨u.1, lt_of_lt_of_eq' u.2 h.c.m0⟩
      exact lc_seen hg hG hj e1 e2 (wxI_seen hG hao _ _ (xI_DL_seen hl hG σ a1 a2 u v)) (by decide) (c_Mo_seenI hG _ a1 a2 u2 (fun z => v ⟨nn1 z.1, z.2⟩)) (by decide) mrf_t (fun z => absurd z (by decide)) hr (K _ _ h.i)
  · skip
    exact lc_seen hg hG hj e1 e2 (wxN_seen hG hao _ _ (xN_DL_seen hl hG σ a1 a2 u)) (by decide) (c_Mo_seenN hG _ a1 a2 (h.c.p 0 (by decide)) (fun z => u ⟨z.1, lt_of_lt_of_eq' z.2 h.c.m0.symm⟩)) (by decide) mrf_t (fun z => absurd z (by decide)) hr (K _ _ h.n)
