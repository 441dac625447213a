/-! ===== tried: what was steered, the flashes, the first blind ===== -/
theorem law_s {σ s t : St} (h : RC σ) (hL : LW σ σ) (hO : lawOK σ) (hP : PS σ s) (hq : sq σ t) {i m : Nat} (hi : i < tl σ 3) (hm : m < tl σ 0) : lwP (tls s (nI i) (s 86 m) (s 88 m) (nI m) (nI m)) ↔ 0 < mbV (tr3 t 122 i m (dkM σ m)) := by
  obtain ⟨hF, hM, h7, h8⟩ := hP
  have q3 : sq σ (tr3 t 122 i m (dkM σ m)) := hq.t3
  have hO3 : lawOK (tr3 t 122 i m (dkM σ m)) := q3.law hO
  have hW : LW (tls s (nI i) (s 86 m) (s 88 m) (nI m) (nI m)) (tr3 t 122 i m (dkM σ m)) := by
    refine LW_eq hL ?_ ?_ ?_ (q3.2 23 (by decide)) (fun k _ => q3.1 _ (by omega) (by omega) (by omega))
    all_goals rw [tls_o (by decide)]; exact hF _ (by decide) (by decide) (by decide) (by decide) (by decide) (by decide) (by decide)
  have hK : LK (tls s (nI i) (s 86 m) (s 88 m) (nI m) (nI m)) (tr3 t 122 i m (dkM σ m)) := by
    rw [(hM m hm).1, (hM m hm).2]
    unfold tr3
    have q2 : sq σ (tr2 t 122 m) := by unfold tr2 tr1; exact (hq.up1 (by decide)).up1 (by decide)
    rw [msb_sq hq, trL_sq hq, show trL σ 122 m (dkM σ m) = dkM σ (m + 1) from rfl, q2.1 122 (by decide) (by decide) (by decide)]
    have f : ∀ o, o = 22 ∨ o = 24 ∨ o = 20 → s o = σ o := fun o ho => hF o (by omega) (by omega) (by omega) (by omega) (by omega) (by omega) (by omega)
    have r : ∀ k, (tr2 t 122 m) (161 + i) k = σ (161 + i) k := fun k => by rw [q2.1 (161 + i) (by omega) (by omega) (by omega)]
    refine kn_LK ?_ ?_ ?_ h7 h8
    · unfold sT; rw [f 22 (by omega), r]; exact h.s2 hi
    · unfold sD; rw [f 24 (by omega), r]; exact h.s3 hi
    · unfold sW; rw [f 20 (by omega), r]; exact h.s1 hi
  unfold lwP
  rw [law_ans hW hO3 hK]
abbrev lwQ (σ : St) (i k : Nat) : Prop := 0 < mbV (tr3 σ 122 i k (dkM σ k))
def a43 (σ : St) (i n : Nat) : Int32 := bt (fun k => lwQ σ i k) n
def a44 (σ : St) (n : Nat) : Int32 := sm (fun k => msb σ 122 (nI k) (nI k)) n
def a45 (σ : St) (n : Nat) : Option Int32 := fnd (fun k => if msb σ 122 (nI k) (nI k) = 0 then some (nI k) else none) n
theorem trS_43 {t : St} {s m : Nat} {la : Int32} : trS t 122 s m la 111 43 = t 111 43 ||| (if 0 < mbV (tr3 t 122 s m la) then 1 <<< (nI m &&& 31) else 0) := by
  have e : ∀ f, f ≠ 44 → f ≠ 45 → mbS (tr3 t 122 s m la) 111 f = t 111 f := fun f a b => by
    rw [mbS_42]; unfold tr3; rw [knS_o (by decide)]; unfold tr2 tr1; rw [up_k a, up_k b]
  unfold trS
  by_cases h : 0 < mbV (tr3 t 122 s m la)
  · rw [if_neg (fun z => b2_z z h), if_pos h, up_k (by decide)]
    unfold tr4; rw [up_rd, e 43 (by decide) (by decide)]
  · rw [if_pos (b2_f h), if_neg h, Int32.or_zero]; exact e 43 (by decide) (by decide)
theorem trS_e {t : St} {s m f : Nat} {la : Int32} (h2 : f ≠ 42) (h3 : f ≠ 43) : trS t 122 s m la 111 f = tr2 t 122 m 111 f := by
  have e : mbS (tr3 t 122 s m la) 111 f = tr2 t 122 m 111 f := by rw [mbS_42]; unfold tr3; rw [knS_o (by decide)]
  unfold trS; split
  · exact e
  · rw [up_k h2]; unfold tr4; rw [up_k h3]; exact e
theorem trS_44 {t : St} {s m : Nat} {la : Int32} : trS t 122 s m la 111 44 = t 111 44 + msb t 122 (nI m) (nI m) := by
  rw [trS_e (by decide) (by decide)]; unfold tr2 tr1; rw [up_rd, up_k (by decide)]
theorem trS_45 {t : St} {s m : Nat} {la : Int32} : trS t 122 s m la 111 45 = if msb t 122 (nI m) (nI m) = 0 ∧ t 111 45 = -1 then nI m else t 111 45 := by
  rw [trS_e (by decide) (by decide)]; unfold tr2 tr1; rw [up_k (by decide), up_rd]
theorem nI_ne {m : Nat} (h : m < 1000) : ¬ nI m = -1 := fun q => by
  have e : (nI m).toInt = m := i_nI (by omega)
  rw [q, show (-1 : Int32).toInt = -1 from rfl] at e
  omega
theorem fnd_n {f : Nat → Option Int32} {n : Nat} {x : Int32} (h : fnd f n = some x) : fnd f (n + 1) = some x := fnd_m h (by omega)
theorem a45_s {σ : St} {m : Nat} (hm : m < 1000) (hne : (a45 σ m).getD (-1) = -1 → a45 σ m = none) : (if msb σ 122 (nI m) (nI m) = 0 ∧ (a45 σ m).getD (-1) = -1 then nI m else (a45 σ m).getD (-1)) = (a45 σ (m + 1)).getD (-1) ∧ ((a45 σ (m + 1)).getD (-1) = -1 → a45 σ (m + 1) = none) := by
  cases hc : a45 σ m with
  | none =>
    have e : a45 σ (m + 1) = if msb σ 122 (nI m) (nI m) = 0 then some (nI m) else none := fnd_s hc
    rw [e]
    by_cases q : msb σ 122 (nI m) (nI m) = 0
    · rw [if_pos ⟨q, rfl⟩, if_pos q]; exact ⟨rfl, fun z => absurd z (nI_ne hm)⟩
    · rw [if_neg (fun z => q z.1), if_neg q]; exact ⟨rfl, fun _ => rfl⟩
  | some x =>
    have e : a45 σ (m + 1) = some x := fnd_n hc
    rw [hc] at hne
    rw [e]
    have hx : ¬ (some x).getD (-1) = -1 := fun z => absurd (hne z) (by simp)
    rw [if_neg (fun z => hx z.2)]
    exact ⟨rfl, fun z => absurd z hx⟩
/-- when a try ends, it has looked at the cells up to where it struck -/
theorem trR_a {σ : St} (h : RC σ) (hn : RNs σ) (hL : LW σ σ) (hO : lawOK σ) {i : Nat} (hi : i < tl σ 3) : ∀ (n m : Nat) (t : St), m + n = tl σ 0 → sq σ t → t 111 42 = -1 → t 111 43 = a43 σ i m → t 111 44 = a44 σ m → t 111 45 = (a45 σ m).getD (-1) → ((a45 σ m).getD (-1) = -1 → a45 σ m = none) →
    ∃ e, (trR 122 i n m (dkM σ m) t 111 42 = -1 ∧ e = tl σ 0 ∨ e ≤ tl σ 0 ∧ 0 < e ∧ trR 122 i n m (dkM σ m) t 111 42 = nI (e - 1)) ∧ trR 122 i n m (dkM σ m) t 111 43 = a43 σ i e ∧ trR 122 i n m (dkM σ m) t 111 44 = a44 σ e ∧ trR 122 i n m (dkM σ m) t 111 45 = (a45 σ e).getD (-1) := by
  have b0 := h.b.1
  intro n
  induction n with
  | zero => intro m t hm _ h42 h43 h44 h45 _; exact ⟨m, Or.inl ⟨h42, by omega⟩, h43, h44, h45⟩
  | succ n ih =>
    intro m t hm hq h42 h43 h44 h45 hne
    have hlaw : (0 < mbV (tr3 t 122 i m (dkM σ m))) ↔ lwQ σ i m := (law_s h hL hO (PS_begin h hn) hq hi (show m < tl σ 0 by omega)).symm.trans (law_s h hL hO (PS_begin h hn) sq.rf hi (by omega))
    have s43 : trS t 122 i m (dkM σ m) 111 43 = a43 σ i (m + 1) := by
      rw [trS_43, h43]; unfold a43; rw [bt_s]
      by_cases p : lwQ σ i m
      · rw [if_pos p, if_pos (hlaw.mpr p)]
      · rw [if_neg p, if_neg (fun z => p (hlaw.mp z))]
    have s44 : trS t 122 i m (dkM σ m) 111 44 = a44 σ (m + 1) := by rw [trS_44, h44, msb_sq hq]; rfl
    have s45 : trS t 122 i m (dkM σ m) 111 45 = (a45 σ (m + 1)).getD (-1) := by rw [trS_45, h45, msb_sq hq]; exact (a45_s (by omega) hne).1
    rw [trR, if_neg (fun q => q h42), trL_sq hq, show trL σ 122 m (dkM σ m) = dkM σ (m + 1) from rfl]
    by_cases z : trS t 122 i m (dkM σ m) 111 42 = -1
    · exact ih (m + 1) _ (by omega) hq.tS z s43 s44 s45 (a45_s (by omega) hne).2
    · rw [trR_stop z]
      refine ⟨m + 1, Or.inr ⟨by omega, by omega, ?_⟩, s43, s44, s45⟩
      by_cases hA : 0 < mbV (tr3 t 122 i m (dkM σ m))
      · rw [trS_1 hq hA] at z ⊢
        by_cases q : b2 (mrP σ i m) = 0
        · rw [if_pos q] at z; exact absurd rfl z
        · rw [if_neg q]; rfl
      · rw [trS_0 hA] at z; exact absurd h42 z
