/-! ===== tried: what was steered, the flashes, the first blind ===== -/
theorem law_s {σ s t : St} (h : RC σ) (hL : LW σ σ) (hO : lawOK σ) (hP : PS σ s) (hq : sx σ t) {i m : Nat} (hi : i < tl σ 3) (hm : m < tl σ 0) : lwP (tls s (nI i) (s 86 m) (s 88 m) (nI m) (nI m)) ↔ 0 < mbV (tr3 t 122 i m (dkM σ m)) := by
  obtain ⟨hF, hM, h7, h8⟩ := hP
  have q3 : sx σ (tr3 t 122 i m (dkM σ m)) := hq.t3
  have hO3 : lawOK (tr3 t 122 i m (dkM σ m)) := q3.law hO
  have hW : LW (tls s (nI i) (s 86 m) (s 88 m) (nI m) (nI m)) (tr3 t 122 i m (dkM σ m)) := by
    refine LW_eq hL ?_ ?_ ?_ (q3.2 23 (by decide) (by decide)) (fun k _ => q3.1 _ (by omega) (by omega) (by omega))
    all_goals rw [tls_o (by decide)]; exact hF _ (by decide) (by decide) (by decide) (by decide) (by decide) (by decide) (by decide)
  have hK : LK (tls s (nI i) (s 86 m) (s 88 m) (nI m) (nI m)) (tr3 t 122 i m (dkM σ m)) := by
    rw [(hM m hm).1, (hM m hm).2]
    unfold tr3
    have q2 : sx σ (tr2 t 122 m) := by unfold tr2 tr1; exact (hq.up1 (by decide)).up1 (by decide)
    rw [msb_sq hq, trL_sq hq, show trL σ 122 m (dkM σ m) = dkM σ (m + 1) from rfl, q2.1 122 (by decide) (by decide) (by decide)]
    have f : ∀ o, o = 22 ∨ o = 24 ∨ o = 20 → s o = σ o := fun o ho => hF o (by omega) (by omega) (by omega) (by omega) (by omega) (by omega) (by omega)
    have r : ∀ k, (tr2 t 122 m) (161 + i) k = σ (161 + i) k := fun k => by rw [q2.1 (161 + i) (by omega) (by omega) (by omega)]
    refine kn_LK ?_ ?_ ?_ h7 h8
    · unfold sT; rw [f 22 (by omega), r]; exact h.s2 hi
    · unfold sD; rw [f 24 (by omega), r]; exact h.s3 hi
    · unfold sW; rw [f 20 (by omega), r]; exact h.s1 hi
  unfold lwP
  rw [law_ans hW hO3 hK]
abbrev lwQ (σ : St) (i k : Nat) : Prop := 0 < mbV (tr3 σ 122 i k (dkM σ k))
def a43 (σ : St) (i n : Nat) : Int32 := bt (fun k => lwQ σ i k) n
def a44 (σ : St) (n : Nat) : Int32 := sm (fun k => msb σ 122 (nI k) (nI k)) n
def a45 (σ : St) (n : Nat) : Option Int32 := fnd (fun k => if msb σ 122 (nI k) (nI k) = 0 then some (nI k) else none) n
theorem trS_43 {t : St} {s m : Nat} {la : Int32} : trS t 122 s m la 111 43 = t 111 43 ||| (if 0 < mbV (tr3 t 122 s m la) then 1 <<< (nI m &&& 31) else 0) := by
  have e : ∀ f, f ≠ 44 → f ≠ 45 → mbS (tr3 t 122 s m la) 111 f = t 111 f := fun f a b => by
    rw [mbS_42]; unfold tr3; rw [knS_o (by decide)]; unfold tr2 tr1; rw [up_k a, up_k b]
  unfold trS
  by_cases h : 0 < mbV (tr3 t 122 s m la)
  · rw [if_neg (fun z => b2_z z h), if_pos h, up_k (by decide)]
    unfold tr4; rw [up_rd, e 43 (by decide) (by decide)]
  · rw [if_pos (b2_f h), if_neg h, Int32.or_zero]; exact e 43 (by decide) (by decide)
theorem trS_e {t : St} {s m f : Nat} {la : Int32} (h2 : f ≠ 42) (h3 : f ≠ 43) : trS t 122 s m la 111 f = tr2 t 122 m 111 f := by
  have e : mbS (tr3 t 122 s m la) 111 f = tr2 t 122 m 111 f := by rw [mbS_42]; unfold tr3; rw [knS_o (by decide)]
  unfold trS; split
  · exact e
  · rw [up_k h2]; unfold tr4; rw [up_k h3]; exact e
theorem trS_44 {t : St} {s m : Nat} {la : Int32} : trS t 122 s m la 111 44 = t 111 44 + msb t 122 (nI m) (nI m) := by
  rw [trS_e (by decide) (by decide)]; unfold tr2 tr1; rw [up_rd, up_k (by decide)]
theorem trS_45 {t : St} {s m : Nat} {la : Int32} : trS t 122 s m la 111 45 = if msb t 122 (nI m) (nI m) = 0 ∧ t 111 45 = -1 then nI m else t 111 45 := by
  rw [trS_e (by decide) (by decide)]; unfold tr2 tr1; rw [up_k (by decide), up_rd]
theorem nI_ne {m : Nat} (h : m < 1000) : ¬ nI m = -1 := fun q => by
  have e : (nI m).toInt = m := i_nI (by omega)
  rw [q, show (-1 : Int32).toInt = -1 from rfl] at e
  omega
theorem fnd_n {f : Nat → Option Int32} {n : Nat} {x : Int32} (h : fnd f n = some x) : fnd f (n + 1) = some x := fnd_m h (by omega)
theorem a45_s {σ : St} {m : Nat} (hm : m < 1000) (hne : (a45 σ m).getD (-1) = -1 → a45 σ m = none) : (if msb σ 122 (nI m) (nI m) = 0 ∧ (a45 σ m).getD (-1) = -1 then nI m else (a45 σ m).getD (-1)) = (a45 σ (m + 1)).getD (-1) ∧ ((a45 σ (m + 1)).getD (-1) = -1 → a45 σ (m + 1) = none) := by
  cases hc : a45 σ m with
  | none =>
    have e : a45 σ (m + 1) = if msb σ 122 (nI m) (nI m) = 0 then some (nI m) else none := fnd_s hc
    rw [e]
    by_cases q : msb σ 122 (nI m) (nI m) = 0
    · rw [if_pos ⟨q, rfl⟩, if_pos q]; exact ⟨rfl, fun z => absurd z (nI_ne hm)⟩
    · rw [if_neg (fun z => q z.1), if_neg q]; exact ⟨rfl, fun _ => rfl⟩
  | some x =>
    have e : a45 σ (m + 1) = some x := fnd_n hc
    rw [hc] at hne
    rw [e]
    have hx : ¬ (some x).getD (-1) = -1 := fun z => absurd (hne z) (by simp)
    rw [if_neg (fun z => hx z.2)]
    exact ⟨rfl, fun z => absurd z hx⟩
/-- when a try ends, it has looked at the cells up to where it struck -/
theorem trR_a {σ : St} (h : RC σ) (hn : RNs σ) (hL : LW σ σ) (hO : lawOK σ) {i : Nat} (hi : i < tl σ 3) : ∀ (n m : Nat) (t : St), m + n = tl σ 0 → sx σ t → t 111 42 = -1 → t 111 43 = a43 σ i m → t 111 44 = a44 σ m → t 111 45 = (a45 σ m).getD (-1) → ((a45 σ m).getD (-1) = -1 → a45 σ m = none) →
    ∃ e, (trR 122 i n m (dkM σ m) t 111 42 = -1 ∧ e = tl σ 0 ∨ e ≤ tl σ 0 ∧ 0 < e ∧ trR 122 i n m (dkM σ m) t 111 42 = nI (e - 1)) ∧ trR 122 i n m (dkM σ m) t 111 43 = a43 σ i e ∧ trR 122 i n m (dkM σ m) t 111 44 = a44 σ e ∧ trR 122 i n m (dkM σ m) t 111 45 = (a45 σ e).getD (-1) := by
  have b0 := h.b.1
  intro n
  induction n with
  | zero => intro m t hm _ h42 h43 h44 h45 _; exact ⟨m, Or.inl ⟨h42, by omega⟩, h43, h44, h45⟩
  | succ n ih =>
    intro m t hm hq h42 h43 h44 h45 hne
    have hlaw : (0 < mbV (tr3 t 122 i m (dkM σ m))) ↔ lwQ σ i m := (law_s h hL hO (PS_begin h hn) hq hi (show m < tl σ 0 by omega)).symm.trans (law_s h hL hO (PS_begin h hn) sx.rf hi (by omega))
    have s43 : trS t 122 i m (dkM σ m) 111 43 = a43 σ i (m + 1) := by
      rw [trS_43, h43]; unfold a43; rw [bt_s]
      by_cases p : lwQ σ i m
      · rw [if_pos p, if_pos (hlaw.mpr p)]
      · rw [if_neg p, if_neg (fun z => p (hlaw.mp z))]
    have s44 : trS t 122 i m (dkM σ m) 111 44 = a44 σ (m + 1) := by rw [trS_44, h44, msb_sq hq]; rfl
    have s45 : trS t 122 i m (dkM σ m) 111 45 = (a45 σ (m + 1)).getD (-1) := by rw [trS_45, h45, msb_sq hq]; exact (a45_s (by omega) hne).1
    rw [trR, if_neg (fun q => q h42), trL_sq hq, show trL σ 122 m (dkM σ m) = dkM σ (m + 1) from rfl]
    by_cases z : trS t 122 i m (dkM σ m) 111 42 = -1
    · exact ih (m + 1) _ (by omega) hq.tS z s43 s44 s45 (a45_s (by omega) hne).2
    · rw [trR_stop z]
      refine ⟨m + 1, Or.inr ⟨by omega, by omega, ?_⟩, s43, s44, s45⟩
      by_cases hA : 0 < mbV (tr3 t 122 i m (dkM σ m))
      · rw [trS_1 hq hA] at z ⊢
        by_cases q : b2 (mrP σ i m) = 0
        · rw [if_pos q] at z; exact absurd rfl z
        · rw [if_neg q]; rfl
      · rw [trS_0 hA] at z; exact absurd h42 z
theorem trF_a {σ t : St} (h : RC σ) (hn : RNs σ) (hL : LW σ σ) (hO : lawOK σ) (hq : sx σ t) {i : Nat} (hi : i < tl σ 3) :
    ∃ e, (trF t 122 i 111 42 = -1 ∧ e = tl σ 0 ∨ e ≤ tl σ 0 ∧ 0 < e ∧ trF t 122 i 111 42 = nI (e - 1)) ∧ trF t 122 i 111 43 = a43 σ i e ∧ trF t 122 i 111 44 = a44 σ e ∧ trF t 122 i 111 45 = (a45 σ e).getD (-1) := by
  have g := trR_a h hn hL hO hi (tl σ 0) 0 (tr0 t) (by omega) hq.t0 (by unfold tr0; rw [up_k (by decide), up_k (by decide), up_k (by decide), up_rd]) (by unfold tr0; rw [up_k (by decide), up_k (by decide), up_rd]; rfl) (by unfold tr0; rw [up_k (by decide), up_rd]; rfl) (by unfold tr0; rw [up_rd]; rfl) (fun _ => rfl)
  have eT : tl t 0 = tl σ 0 := by unfold tl; rw [hq.1 115 (by decide) (by decide) (by decide)]
  unfold trF; rw [eT]; exact g
theorem scl_e {σ s : St} (h : RC σ) (hL : LW σ σ) (hO : lawOK σ) (hP : PS σ s) {i : Nat} (hi : i < tl σ 3) : ∀ n, n ≤ tl σ 0 → PS σ (scl s (nI i) n).1 ∧ (scl s (nI i) n).2 = a43 σ i n := by
  have b0 := h.b.1
  intro n
  induction n with
  | zero => intro _; exact ⟨hP, rfl⟩
  | succ n ih =>
    intro hn'
    obtain ⟨h1, h2⟩ := ih (by omega)
    have e1 : sc1 (scl s (nI i) n).1 (nI i) n = tls (scl s (nI i) n).1 (nI i) ((scl s (nI i) n).1 86 n) ((scl s (nI i) n).1 88 n) (nI n) (nI n) := by
      unfold sc1; rw [rg_nI (by omega) (by decide), rg_nI (by omega) (by decide)]
    have hl := law_s h hL hO h1 (sx.rf (σ := σ)) hi (show n < tl σ 0 by omega)
    have hPn : PS σ (lwS (sc1 (scl s (nI i) n).1 (nI i) n)) := by
      rw [e1]
      obtain ⟨hF, hM, h7, h8⟩ := h1
      refine ⟨fun o a b c d e f g => ?_, fun k hk => ?_, ?_, ?_⟩
      · rw [lwS_o b, tls_o a]; exact hF o a b c d e f g
      · rw [lwS_o (by decide), lwS_o (by decide), tls_o (by decide), tls_o (by decide)]; exact hM k hk
      · rw [lwS_o (by decide), tls_56 (by decide)]; exact h7
      · rw [lwS_o (by decide), tls_56 (by decide)]; exact h8
    have eb : a43 σ i (n + 1) = a43 σ i n ||| (if lwQ σ i n then 1 <<< (nI n &&& 31) else 0) := bt_s
    by_cases q : b2 (lwP (sc1 (scl s (nI i) n).1 (nI i) n)) = 0
    · rw [scl_1 q, eb, h2]
      refine ⟨hPn, ?_⟩
      rw [e1] at q
      rw [if_neg (fun z => b2_z q (hl.mpr z))]
    · rw [scl_2 q, eb, h2]
      refine ⟨hPn, ?_⟩
      rw [e1] at q
      rw [if_pos (hl.mp (b2_nz q))]
theorem fnd_congr {f g : Nat → Option Int32} {n : Nat} (h : ∀ k, k < n → f k = g k) : fnd f n = fnd g n := by
  induction n with
  | zero => rfl
  | succ n ih => simp only [fnd]; rw [ih (fun k hk => h k (by omega)), h n (by omega)]
/-- up to where a loop to the struck cell goes -/
theorem cl_e {σ s : St} (h : RC σ) (hP : PS σ s) {w : Int32} {e : Nat} (he : w = -1 ∧ e = tl σ 0 ∨ e ≤ tl σ 0 ∧ 0 < e ∧ w = nI (e - 1)) : cl (lmi s w) = e ∧ (lmi s w).toInt < 1000 ∧ e ≤ tl σ 0 := by
  have b0 : (σ 115 0).toInt.toNat ≤ 12 := h.b.1
  have p0 := h.p 0 (by decide)
  have e6 : cM s 0 = σ 115 0 := by
    unfold cM; rw [hP.1 6 (by decide) (by decide) (by decide) (by decide) (by decide) (by decide) (by decide)]; exact h.m0
  rcases he with ⟨z, ze⟩ | ⟨z0, z1, z2⟩
  · have e1 : (σ 115 0 - 1).toInt = (σ 115 0).toInt - 1 := i_sub rfl rfl (by omega) (by omega)
    unfold cl lmi
    rw [if_pos z, e6, e1, ze]
    show ((σ 115 0).toInt - 1 + 1).toNat = (σ 115 0).toInt.toNat ∧ _ ∧ _
    exact ⟨by omega, by omega, by omega⟩
  · have z0' : e ≤ (σ 115 0).toInt.toNat := z0
    have e1 : (nI (e - 1)).toInt = (e - 1 : Nat) := i_nI (by omega)
    unfold cl lmi
    rw [z2, if_neg (nI_ne (by omega)), e1]
    exact ⟨by omega, by omega, z0⟩
theorem q_xtr {σ t : St} (h : RC σ) (hn : RNs σ) (hL : LW σ σ) (hO : lawOK σ) (hq : sx σ t) {i : Nat} (hi : i < tl σ 3) {w : Int32} : (lmi (xps σ (nI i)).2 (xps σ (nI i)).1).toInt < 1000 ∧ xtr σ (nI i) w = mtr t i w ∧ fbl (xps σ (nI i)).2 (cl (lmi (xps σ (nI i)).2 (xps σ (nI i)).1)) = trF t 122 i 111 45 := by
  have b0 := h.b.1
  obtain ⟨g1, g2⟩ := q_struck h hn hL hO hq hi
  obtain ⟨t2, t3⟩ := q_tried h hn hL hO hq hi
  obtain ⟨e, he, r43, r44, r45⟩ := trF_a h hn hL hO hq hi
  rw [← g1] at he
  obtain ⟨c1, c2, c3⟩ := cl_e h g2 he
  have e86 : ∀ k, k < e → rg ((xps σ (nI i)).2 86) 12 (nI k) = msb σ 122 (nI k) (nI k) := fun k hk => by
    rw [rg_nI (by omega) (by decide)]; exact (g2.2.1 k (by omega)).1
  refine ⟨c2, ?_, ?_⟩
  · unfold xtr mtr
    rw [c1, t2, t3, (scl_e h hL hO g2 hi e c3).2, r43, r44, g1]
    rw [show sm (fun m => rg ((xps σ (nI i)).2 86) 12 (nI m)) e = a44 σ e from sm_congr e86]
  · rw [c1, r45]
    unfold fbl a45
    rw [fnd_congr (fun k hk => by rw [e86 k hk])]
