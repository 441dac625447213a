/-! told: how many, as numbers; what the reference's walk rests on -/
abbrev tl (σ : St) (k : Nat) : Nat := ct (σ 115 k)
/-- how high the law's stack stands ahead of its k-th code -/
def dep (σ : St) (k : Nat) : Nat := it (fun j n => if σ (167 + j) 0 < 2 then n + 1 else n - 1) 0 k
def lawOK (σ : St) : Prop := ct (σ 111 23) ≤ 160 ∧ ∀ k, k < ct (σ 111 23) → (σ (167 + k) 0 < 2 → ¬ σ (167 + k) 0 = 0 → 0 ≤ (σ (167 + k) 1).toInt ∧ (σ (167 + k) 1).toInt < 9) ∧ (¬ σ (167 + k) 0 < 2 → 2 ≤ dep σ k)
def mW (σ : St) : Prop := (tl σ 0 ≤ 12 ∧ tl σ 1 ≤ 6 ∧ tl σ 2 ≤ 3 ∧ tl σ 3 ≤ 6 ∧ tl σ 4 ≤ 6) ∧ (∀ j, j < tl σ 1 → ¬ σ (143 + j) 1 = 0) ∧ (∀ j, j < tl σ 2 → ¬ σ (152 + j) 1 = 0) ∧ lawOK σ ∧ ct (σ 111 37) ≤ 12
/-- a row of what WORK changes -/
def rW (σ : St) (o : Nat) : Prop := ¬ 1 + σ o 28 = 0 ∧ (σ o 29 = -1 ∨ ¬ σ o 30 = 0)
theorem dep_le {σ : St} {k : Nat} : dep σ k ≤ k := by
  induction k with
  | zero => exact Nat.le_refl _
  | succ k ih =>
    show (if σ (167 + k) 0 < 2 then dep σ k + 1 else dep σ k - 1) ≤ k + 1
    split <;> omega
theorem dep_s {σ : St} {k : Nat} : dep σ (k + 1) = if σ (167 + k) 0 < 2 then dep σ k + 1 else dep σ k - 1 := rfl
def aw (a b : Int32) : Int32 := if b < a then a - b else b - a
abbrev fl0 (m p : Int32) : Prop := m - m / p * p = 0
def sgt (σ : St) (o : Nat) : Int32 := σ 115 5 / (1 + σ o 28)
def mdA (σ : St) (o d : Nat) (m : Int32) : Int32 := if σ o (1 + d) + m < σ 115 0 - 1 then σ o (1 + d) + m else σ 115 0 - 1
abbrev mlP (σ : St) (o : Nat) (c m f : Int32) (j : Nat) : Prop := hB (σ o 0) (nI j) ∧ aw (σ (143 + j) 0) c ≤ f ∧ fl0 m (σ (143 + j) 1)
abbrev mdP (σ : St) (o : Nat) (c m f : Int32) (d : Nat) : Prop := aw (mdA σ o d m) c ≤ f ∧ fl0 m (σ (152 + d) 1)
abbrev mmP (σ : St) (o : Nat) (c m f : Int32) : Prop := ¬ σ o 29 = -1 ∧ aw (σ o 29) c ≤ f ∧ fl0 m (σ o 30)
def msL (σ : St) (o : Nat) (c m : Int32) (n : Nat) : Int32 := sm (fun j => b2 (mlP σ o c m (sgt σ o) j)) n
def msD (σ : St) (o : Nat) (c m x : Int32) (n : Nat) : Int32 := it (fun d a => a + b2 (mdP σ o c m (sgt σ o) d)) x n
theorem msD_s {σ : St} {o : Nat} {c m x : Int32} {n : Nat} : msD σ o c m x (n + 1) = msD σ o c m x n + b2 (mdP σ o c m (sgt σ o) n) := rfl
def msb (σ : St) (o : Nat) (c m : Int32) : Int32 := if mmP σ o c m (sgt σ o) then msD σ o c m (msL σ o c m (tl σ 1)) (tl σ 2) + 1 else msD σ o c m (msL σ o c m (tl σ 1)) (tl σ 2)
/-! the law, run -/
def mby (h u v : Int32) : Int32 := if h = 2 then u + v else if h = 3 then u - v else if h = 4 then u * v else if h = 5 then (if v = 0 then 0 else if v = -1 then -u else u / v) else if h = 6 then (if v = 0 ∨ v = -1 then 0 else u - u / v * v) else if h = 7 then (if u < v then u else v) else (if v < u then u else v)
def mlS (σ : St) (k : Nat) (s : St) : St := if σ (167 + k) 0 < 2 then up s 120 (dep σ k) (if σ (167 + k) 0 = 0 then σ (167 + k) 1 else σ 121 (σ (167 + k) 1).toInt.toNat) else up s 120 (dep σ k - 2) (mby (σ (167 + k) 0) (s 120 (dep σ k - 2)) (s 120 (dep σ k - 1)))
def mlR (σ : St) (n : Nat) : St := it (mlS σ) σ n
theorem mlR_o {σ : St} {n o : Nat} (h : o ≠ 120) : mlR σ n o = σ o := by
  induction n with
  | zero => rfl
  | succ n ih =>
    show mlS σ n (mlR σ n) o = _
    unfold mlS
    split
    · rw [up_o h, ih]
    · rw [up_o h, ih]
def mbS (σ : St) : St := if σ 111 23 = 0 then σ else mlR σ (ct (σ 111 23))
def mbV (σ : St) : Int32 := if σ 111 23 = 0 then σ 121 0 - 1 else mlR σ (ct (σ 111 23)) 120 0
theorem mbS_o {σ : St} {o : Nat} (h : o ≠ 120) : mbS σ o = σ o := by
  unfold mbS; split
  · rfl
  · exact mlR_o h
def kn1 (σ : St) (seen dark m c : Int32) : St := up (up (up (up σ 121 0 seen) 121 1 dark) 121 2 m) 121 3 c
def kn2 (σ : St) (s : Nat) (ng fg : Int32) : St := up (up (up (up (up σ 121 4 (σ (161 + s) 2)) 121 5 (σ (161 + s) 3)) 121 6 (σ (161 + s) 1)) 121 7 ng) 121 8 fg
def knS (σ : St) (s : Nat) (seen dark m c ng fg : Int32) : St := kn2 (kn1 σ seen dark m c) s ng fg
theorem knS_o {σ : St} {s : Nat} {seen dark m c ng fg : Int32} {o : Nat} (h : o ≠ 121) : knS σ s seen dark m c ng fg o = σ o := by
  unfold knS kn2 kn1
  simp only [up_o h]
theorem nI_p {d : Nat} (h : 1 ≤ d) (h2 : d < 100000) : nI d + (-1) = nI (d - 1) := by
  rw [i_eq, i_add (i_nI (by omega)) (show (-1 : Int32).toInt = -1 from rfl) (by omega) (by omega), i_nI (by omega)]; omega
theorem zin_m1 {d n : Nat} (h : 2 ≤ d) (h2 : d ≤ n) (hn : n < 100000) : zin (nI (d - 1) - 1) n (d - 2) := ⟨by rw [i_sub (i_nI (by omega)) (show (1 : Int32).toInt = 1 from rfl) (by omega) (by omega)]; omega, by omega⟩
theorem mlR_k {σ : St} {i j : Nat} : mlR σ i (167 + j) = σ (167 + j) := mlR_o (by omega)
theorem mlR_1 {σ : St} {i : Nat} (h : ¬ 2 ≤ mlR σ i (167 + i) 0) (h0 : mlR σ i (167 + i) 0 = 0) : up (mlR σ i) 120 (dep σ i) (mlR σ i (167 + i) 1) = mlR σ (i + 1) := by
  show _ = mlS σ i (mlR σ i)
  rw [mlR_k] at h h0 ⊢
  unfold mlS; rw [if_pos (i_nle h), if_pos h0]
theorem mlR_2 {σ : St} {i : Nat} (h : ¬ 2 ≤ mlR σ i (167 + i) 0) (h0 : ¬ mlR σ i (167 + i) 0 = 0) : up (mlR σ i) 120 (dep σ i) (mlR σ i 121 (σ (167 + i) 1).toInt.toNat) = mlR σ (i + 1) := by
  show _ = mlS σ i (mlR σ i)
  rw [mlR_k] at h h0
  unfold mlS; rw [if_pos (i_nle h), if_neg h0, mlR_o (by decide)]
theorem mlR_3 {σ : St} {i : Nat} (h : 2 ≤ mlR σ i (167 + i) 0) : up (mlR σ i) 120 (dep σ i - 2) (mby (mlR σ i (167 + i) 0) (mlR σ i 120 (dep σ i - 2)) (mlR σ i 120 (dep σ i - 1))) = mlR σ (i + 1) := by
  show _ = mlS σ i (mlR σ i)
  rw [mlR_k] at h ⊢
  unfold mlS; rw [if_neg (i_lelt h)]
theorem dep_1 {σ : St} {i : Nat} (h : ¬ 2 ≤ mlR σ i (167 + i) 0) : dep σ (i + 1) = dep σ i + 1 := by
  rw [mlR_k] at h; rw [dep_s, if_pos (i_nle h)]
theorem dep_2 {σ : St} {i : Nat} (h : 2 ≤ mlR σ i (167 + i) 0) : dep σ (i + 1) = dep σ i - 1 := by
  rw [mlR_k] at h; rw [dep_s, if_neg (i_lelt h)]
theorem law_d {σ : St} (hl : lawOK σ) {i : Nat} (hi : i < ct (σ 111 23)) (h : 2 ≤ mlR σ i (167 + i) 0) : 2 ≤ dep σ i := by
  rw [mlR_k] at h; exact (hl.2 i hi).2 (i_lelt h)
theorem law_z {σ : St} (hl : lawOK σ) {i : Nat} (hi : i < ct (σ 111 23)) (h : ¬ 2 ≤ mlR σ i (167 + i) 0) (h0 : ¬ mlR σ i (167 + i) 0 = 0) : zin (mlR σ i (167 + i) 1) 9 (σ (167 + i) 1).toInt.toNat := by
  rw [mlR_k] at h h0 ⊢
  have := (hl.2 i hi).1 (i_nle h) h0
  exact zin_of this.1 this.2
theorem dep_eq {σ t : St} {k : Nat} (hl : ∀ j, j < k → t (167 + j) = σ (167 + j)) : dep t k = dep σ k := by
  unfold dep
  exact it_congr (fun i hi x => by rw [hl i hi])
theorem lawOK_eq {σ t : St} (hl : ∀ o, 167 ≤ o → o < 327 → t o = σ o) (h : t 111 23 = σ 111 23) (hL : lawOK σ) : lawOK t := by
  obtain ⟨h1, h2⟩ := hL
  have hk1 : ∀ k, k < ct (σ 111 23) → t (167 + k) = σ (167 + k) := fun k hk => hl (167 + k) (Nat.le_add_right _ _) (by omega)
  unfold lawOK
  rw [h]
  refine ⟨h1, fun k hk => ?_⟩
  have e1 := hk1 k hk
  have e2 := dep_eq (k := k) (fun j hj => hk1 j (Nat.lt_trans hj hk))
  rw [e1, e2]
  exact h2 k hk
/-- t is σ but for what the reference reckons with on the way -/
def sq (σ t : St) : Prop := (∀ o, o ≠ 111 → o ≠ 120 → o ≠ 121 → t o = σ o) ∧ ∀ f, f < 41 → t 111 f = σ 111 f
theorem sq.rf {σ : St} : sq σ σ := ⟨fun _ _ _ _ => rfl, fun _ _ => rfl⟩
theorem sq.tr {σ t u : St} (h : sq σ t) (h2 : sq t u) : sq σ u := ⟨fun o a b c => (h2.1 o a b c).trans (h.1 o a b c), fun f hf => (h2.2 f hf).trans (h.2 f hf)⟩
theorem sq.o {σ t : St} (h : sq σ t) {o : Nat} (h1 : o ≠ 111) (h2 : o ≠ 120) (h3 : o ≠ 121) : t o = σ o := h.1 o h1 h2 h3
theorem sq.up1 {σ t : St} (h : sq σ t) {k : Nat} {v : Int32} (hk : 41 ≤ k) : sq σ (up t 111 k v) := ⟨fun o a b c => by rw [up_o a]; exact h.1 o a b c, fun f hf => by rw [up_k (by omega)]; exact h.2 f hf⟩
theorem sq.up2 {σ t : St} (h : sq σ t) {k : Nat} {v : Int32} : sq σ (up t 120 k v) := ⟨fun o a b c => by rw [up_o b]; exact h.1 o a b c, fun f hf => by rw [up_o (by decide)]; exact h.2 f hf⟩
theorem sq.up3 {σ t : St} (h : sq σ t) {k : Nat} {v : Int32} : sq σ (up t 121 k v) := ⟨fun o a b c => by rw [up_o c]; exact h.1 o a b c, fun f hf => by rw [up_o (by decide)]; exact h.2 f hf⟩
theorem sq.lR {σ t : St} (h : sq σ t) {n : Nat} : sq σ (mlR t n) := ⟨fun o a b c => by rw [mlR_o b]; exact h.1 o a b c, fun f hf => by rw [mlR_o (by decide)]; exact h.2 f hf⟩
theorem sq.bS {σ t : St} (h : sq σ t) : sq σ (mbS t) := by
  unfold mbS; split
  · exact h
  · exact h.lR
theorem sq.kn {σ t : St} (h : sq σ t) {s : Nat} {seen dark m c ng fg : Int32} : sq σ (knS t s seen dark m c ng fg) := by
  unfold knS kn2 kn1
  exact h.up3.up3.up3.up3.up3.up3.up3.up3.up3
theorem sq.law {σ t : St} (h : sq σ t) (hL : lawOK σ) : lawOK t := lawOK_eq (fun o h1 h2 => h.1 o (by omega) (by omega) (by omega)) (h.2 23 (by decide)) hL
theorem mW_eq {σ t : St} (h0 : t 115 = σ 115) (h1 : ∀ o, 143 ≤ o → o < 327 → t o = σ o) (h2 : t 111 23 = σ 111 23) (h3 : t 111 37 = σ 111 37) (h : mW σ) : mW t := by
  obtain ⟨a, b, c, d, e⟩ := h
  refine ⟨by unfold tl; rw [h0]; exact a, fun j hj => ?_, fun j hj => ?_, lawOK_eq (fun o q1 q2 => h1 o (by omega) (by omega)) h2 d, by rw [h3]; exact e⟩
  · unfold tl at hj; rw [h0] at hj; have := a.2.1; rw [h1 (143 + j) (by omega) (by unfold tl at this; omega)]; exact b j hj
  · unfold tl at hj; rw [h0] at hj; have := a.2.2.1; rw [h1 (152 + j) (by omega) (by unfold tl at this; omega)]; exact c j hj
theorem sq.w {σ t : St} (h : sq σ t) (hw : mW σ) : mW t := mW_eq (h.1 115 (by decide) (by decide) (by decide)) (fun o h1 h2 => h.1 o (by omega) (by omega) (by omega)) (h.2 23 (by decide)) (h.2 37 (by decide)) hw
theorem sq.r {σ t : St} (h : sq σ t) {o : Nat} (h1 : o ≠ 111) (h2 : o ≠ 120) (h3 : o ≠ 121) (hr : rW σ o) : rW t o := by unfold rW; rw [h.1 o h1 h2 h3]; exact hr
/-! a try -/
abbrev mrP (σ : St) (s c : Nat) : Prop := 0 < σ 117 c ∧ 6 ≤ σ 117 c + σ (161 + s) 3
def tr0 (σ : St) : St := up (up (up (up σ 111 42 (-1)) 111 43 0) 111 44 0) 111 45 (-1)
def trL (t : St) (o m : Nat) (la : Int32) : Int32 := if msb t o (nI m) (nI m) ≤ 0 then la else nI m
def tr1 (t : St) (o m : Nat) : St := up t 111 45 (if msb t o (nI m) (nI m) = 0 ∧ t 111 45 = -1 then nI m else t 111 45)
def tr2 (t : St) (o m : Nat) : St := up (tr1 t o m) 111 44 (tr1 t o m 111 44 + msb t o (nI m) (nI m))
def tr3 (t : St) (o s m : Nat) (la : Int32) : St := knS (tr2 t o m) s (msb t o (nI m) (nI m)) (nI m - trL t o m la) (nI m) (nI m) (tr2 t o m o 27) (tr2 t o m o 28)
def tr4 (t : St) (o s m : Nat) (la : Int32) : St := up (mbS (tr3 t o s m la)) 111 43 (mbS (tr3 t o s m la) 111 43 ||| (1 <<< (nI m &&& 31)))
def trS (t : St) (o s m : Nat) (la : Int32) : St := if b2 (0 < mbV (tr3 t o s m la)) = 0 then mbS (tr3 t o s m la) else up (tr4 t o s m la) 111 42 (if b2 (mrP (tr4 t o s m la) s m) = 0 then -1 else nI m)
def trR (o s : Nat) : Nat → Nat → Int32 → St → St
  | 0, _, _, t => t
  | n + 1, m, la, t => if ¬ t 111 42 = -1 then t else trR o s n (m + 1) (trL t o m la) (trS t o s m la)
def trF (σ : St) (o s : Nat) : St := trR o s (tl σ 0) 0 0 (tr0 σ)
theorem trR_end {o s N : Nat} {la : Int32} {t : St} : trR o s (N - N) N la t = t := by rw [Nat.sub_self, trR]
theorem trR_stop {o s n m : Nat} {la : Int32} {t : St} (h : ¬ t 111 42 = -1) : trR o s n m la t = t := by
  cases n with
  | zero => rfl
  | succ n => rw [trR, if_pos h]
theorem trR_go {o s N i : Nat} {la : Int32} {t : St} (h : i < N) (h1 : t 111 42 = -1) : trR o s (N - i) i la t = trR o s (N - (i + 1)) (i + 1) (trL t o i la) (trS t o s i la) := by
  rw [show N - i = (N - (i + 1)) + 1 by omega, trR, if_neg (fun z => z h1)]
theorem sq.t0 {σ t : St} (h : sq σ t) : sq σ (tr0 t) := by unfold tr0; exact (((h.up1 (by decide)).up1 (by decide)).up1 (by decide)).up1 (by decide)
theorem sq.t3 {σ t : St} (h : sq σ t) {o s m : Nat} {la : Int32} : sq σ (tr3 t o s m la) := by
  unfold tr3 tr2 tr1; exact ((h.up1 (by decide)).up1 (by decide)).kn
theorem sq.tS {σ t : St} (h : sq σ t) {o s m : Nat} {la : Int32} : sq σ (trS t o s m la) := by
  unfold trS; split
  · exact h.t3.bS
  · unfold tr4; exact (h.t3.bS.up1 (by decide)).up1 (by decide)
theorem sq.tR {o s n : Nat} : ∀ {σ t : St} (_ : sq σ t) {m : Nat} {la : Int32}, sq σ (trR o s n m la t) := by
  induction n with
  | zero => intro σ t h m la; exact h
  | succ n ih =>
    intro σ t h m la
    rw [trR]; split
    · exact h
    · exact ih h.tS
theorem sq.tF {σ t : St} (h : sq σ t) {o s : Nat} : sq σ (trF t o s) := by unfold trF; exact h.t0.tR
/-- where it has struck: -1, or a cell -/
abbrev saW (σ : St) : Prop := σ 111 42 = -1 ∨ (0 ≤ (σ 111 42).toInt ∧ (σ 111 42).toInt < 12)
def mal (σ : St) (s : Nat) : Int32 := if σ 111 42 = -1 then σ (161 + s) 1 else (if σ (161 + s) 1 - σ 117 (σ 111 42).toInt.toNat < 0 then 0 else σ (161 + s) 1 - σ 117 (σ 111 42).toInt.toNat)
def mpa (σ : St) (s : Nat) : Int32 := if ¬ σ 111 42 = -1 ∧ mal σ s = 0 then σ (161 + s) 0 else 0
theorem trS_sa {t : St} {o s m : Nat} {la : Int32} (hm : m < 12) (h : saW t) : saW (trS t o s m la) := by
  unfold trS saW; split
  · have : sq t (mbS (tr3 t o s m la)) := sq.rf.t3.bS
    have h1 : mbS (tr3 t o s m la) 111 42 = t 111 42 := by
      have e1 : ∀ u : St, mbS u 111 42 = u 111 42 := fun u => by rw [mbS_o (by decide)]
      rw [e1]; unfold tr3; rw [knS_o (by decide)]; unfold tr2 tr1; rw [up_k (by decide), up_k (by decide)]
    rw [h1]; exact h
  · rw [up_rd]
    split
    · exact Or.inl rfl
    · right; rw [i_nI (by omega)]; omega
theorem trR_sa {o s n : Nat} : ∀ {t : St} {m : Nat} {la : Int32}, m + n ≤ 12 → saW t → saW (trR o s n m la t) := by
  induction n with
  | zero => intro t m la _ h; exact h
  | succ n ih =>
    intro t m la hm h
    rw [trR]; split
    · exact h
    · exact ih (by omega) (trS_sa (by omega) h)
theorem trF_sa {σ : St} {o s : Nat} (h : tl σ 0 ≤ 12) : saW (trF σ o s) := by
  unfold trF
  exact trR_sa (by omega) (Or.inl (by unfold tr0; rw [up_k (by decide), up_k (by decide), up_k (by decide), up_rd]))

set_option maxRecDepth 20000 in
set_option maxHeartbeats 4000000 in
theorem c_Mo_thrown {l : Launch} {G : Gz} (hG : zI G) (σ : St) : MI l G y_Mo_thrown prog_14_method_3_code 1 .int 1 [.ref (G.1 111)] σ (σ 111 0) σ := by
  refine MI.of hG (by decide) (Nat.le_of_ble_eq_true rfl) (fun X hx hq => ?_)
  show J l G X 1 σ 0 [(0, .ref (G.1 111))] []
  refine j_aload_n hx d_Mo_thrown_0 rfl 0 rfl ?_
  refine j_get hx ck_Mo 0 (by decide) t_1418 (by decide) (sh_111 _ _) rfl d_Mo_thrown_1 ?_
  exact j_iret hx hq rfl d_Mo_thrown_4 (by first | (first | rfl | (simp only []; done) | (simp []; done)) | fail) (by first | (first | rfl | (simp only []; done) | (simp []; done)) | fail)

set_option maxRecDepth 20000 in
set_option maxHeartbeats 4000000 in
theorem c_Mo_in {l : Launch} {G : Gz} (hG : zI G) (σ : St) (v : Int32) (lo : Int32) (hi : Int32) : MI l G y_Mo_in prog_14_method_5_code 3 .boolean 1 [.int v, .int lo, .int hi] σ (b2 (lo ≤ v ∧ v ≤ hi)) σ := by
  refine MI.of hG (by decide) (Nat.le_of_ble_eq_true rfl) (fun X hx hq => ?_)
  show J l G X 3 σ 0 [(0, .int v), (1, .int lo), (2, .int hi)] []
  refine j_iload_n hx d_Mo_in_0 rfl 0 rfl ?_
  refine j_iload_n hx d_Mo_in_1 rfl 1 rfl ?_
  refine j_icmp_lt (tgt := 14) hx d_Mo_in_2 (by decide) (fun zc2 => ?_) (fun zc2 => ?_)
  · skip
    refine j_iconst (v := 0) hx d_Mo_in_14 (by decide) ?_
    exact j_iret hx hq rfl d_Mo_in_15 (by first | (first | exact (b2_t ⟨i_nlt zc2, i_nlt zc7⟩).symm | exact (b2_f (fun z => zc2.elim (i_lelt z.1))).symm | exact (b2_f (fun z => i_lelt z.1 zc2)).symm | exact (b2_f (fun z => i_lelt z.2 zc7)).symm) | fail) (by first | (first | rfl | (simp only [zc2]; done) | (simp [zc2]; done)) | fail)
  · skip
    refine j_iload_n hx d_Mo_in_5 rfl 0 rfl ?_
    refine j_iload_n hx d_Mo_in_6 rfl 2 rfl ?_
    refine j_icmp_gt (tgt := 14) hx d_Mo_in_7 (by decide) (fun zc7 => ?_) (fun zc7 => ?_)
    · skip
      refine j_iconst (v := 0) hx d_Mo_in_14 (by decide) ?_
      exact j_iret hx hq rfl d_Mo_in_15 (by first | (first | exact (b2_t ⟨i_nlt zc2, i_nlt zc7⟩).symm | exact (b2_f (fun z => zc2.elim (i_lelt z.1))).symm | exact (b2_f (fun z => i_lelt z.1 zc2)).symm | exact (b2_f (fun z => i_lelt z.2 zc7)).symm) | fail) (by first | (first | rfl | (simp only [zc2, zc7]; done) | (simp [zc2, zc7]; done)) | fail)
    · skip
      refine j_iconst (v := 1) hx d_Mo_in_10 (by decide) ?_
      refine j_goto (tgt := 15) hx d_Mo_in_11 (by decide) ?_
      exact j_iret hx hq rfl d_Mo_in_15 (by first | (first | exact (b2_t ⟨i_nlt zc2, i_nlt zc7⟩).symm | exact (b2_f (fun z => zc2.elim (i_lelt z.1))).symm | exact (b2_f (fun z => i_lelt z.1 zc2)).symm | exact (b2_f (fun z => i_lelt z.2 zc7)).symm) | fail) (by first | (first | rfl | (simp only [zc2, zc7]; done) | (simp [zc2, zc7]; done)) | fail)

set_option maxRecDepth 20000 in
set_option maxHeartbeats 4000000 in
theorem c_Mo_in1 {l : Launch} {G : Gz} (hG : zI G) (σ : St) (v : Int32) (lo : Int32) (hi : Int32) (h : lo ≤ v ∧ v ≤ hi) : MI l G y_Mo_in prog_14_method_5_code 3 .boolean 1 [.int v, .int lo, .int hi] σ 1 σ := by
  refine MI.of hG (by decide) (Nat.le_of_ble_eq_true rfl) (fun X hx hq => ?_)
  show J l G X 3 σ 0 [(0, .int v), (1, .int lo), (2, .int hi)] []
  refine j_iload_n hx d_Mo_in_0 rfl 0 rfl ?_
  refine j_iload_n hx d_Mo_in_1 rfl 1 rfl ?_
  refine j_icmp_lt (tgt := 14) hx d_Mo_in_2 (by decide) (fun zc2 => ?_) (fun zc2 => ?_)
  · exact absurd zc2 (i_lelt h.1)
  · skip
    refine j_iload_n hx d_Mo_in_5 rfl 0 rfl ?_
    refine j_iload_n hx d_Mo_in_6 rfl 2 rfl ?_
    refine j_icmp_gt (tgt := 14) hx d_Mo_in_7 (by decide) (fun zc7 => ?_) (fun zc7 => ?_)
    · exact absurd zc7 (i_lelt h.2)
    · skip
      refine j_iconst (v := 1) hx d_Mo_in_10 (by decide) ?_
      refine j_goto (tgt := 15) hx d_Mo_in_11 (by decide) ?_
      exact j_iret hx hq rfl d_Mo_in_15 (by first | (rfl) | fail) (by first | (first | rfl | (simp only [zc2, zc7]; done) | (simp [zc2, zc7]; done)) | fail)

set_option maxRecDepth 20000 in
set_option maxHeartbeats 4000000 in
theorem c_Mo_in0 {l : Launch} {G : Gz} (hG : zI G) (σ : St) (v : Int32) (lo : Int32) (hi : Int32) (h : ¬ (lo ≤ v ∧ v ≤ hi)) : MI l G y_Mo_in prog_14_method_5_code 3 .boolean 1 [.int v, .int lo, .int hi] σ 0 σ := by
  refine MI.of hG (by decide) (Nat.le_of_ble_eq_true rfl) (fun X hx hq => ?_)
  show J l G X 3 σ 0 [(0, .int v), (1, .int lo), (2, .int hi)] []
  refine j_iload_n hx d_Mo_in_0 rfl 0 rfl ?_
  refine j_iload_n hx d_Mo_in_1 rfl 1 rfl ?_
  refine j_icmp_lt (tgt := 14) hx d_Mo_in_2 (by decide) (fun zc2 => ?_) (fun zc2 => ?_)
  · skip
    refine j_iconst (v := 0) hx d_Mo_in_14 (by decide) ?_
    exact j_iret hx hq rfl d_Mo_in_15 (by first | (rfl) | fail) (by first | (first | rfl | (simp only [zc2]; done) | (simp [zc2]; done)) | fail)
  · skip
    refine j_iload_n hx d_Mo_in_5 rfl 0 rfl ?_
    refine j_iload_n hx d_Mo_in_6 rfl 2 rfl ?_
    refine j_icmp_gt (tgt := 14) hx d_Mo_in_7 (by decide) (fun zc7 => ?_) (fun zc7 => ?_)
    · skip
      refine j_iconst (v := 0) hx d_Mo_in_14 (by decide) ?_
      exact j_iret hx hq rfl d_Mo_in_15 (by first | (rfl) | fail) (by first | (first | rfl | (simp only [zc2, zc7]; done) | (simp [zc2, zc7]; done)) | fail)
    · exact absurd ⟨i_nlt zc2, i_nlt zc7⟩ h

set_option maxRecDepth 20000 in
set_option maxHeartbeats 4000000 in
theorem c_Mo_bad0 {l : Launch} {G : Gz} (hG : zI G) (σ : St) (is : Int32) (what : Int32) (reason : Int32) (h : is = 0) (ht : σ 111 0 = 0) : MI l G y_Mo_bad prog_14_method_4_code 4 .boolean 1 [.ref (G.1 111), .int is, .int what, .int reason] σ 0 σ := by
  refine MI.of hG (by decide) (Nat.le_of_ble_eq_true rfl) (fun X hx hq => ?_)
  show J l G X 4 σ 0 [(0, .ref (G.1 111)), (1, .int is), (2, .int what), (3, .int reason)] []
  refine j_iload_n hx d_Mo_bad_0 rfl 1 rfl ?_
  refine j_if_eq (tgt := 26) hx d_Mo_bad_1 (by decide) (fun zc1 => ?_) (fun zc1 => ?_)
  · skip
    refine j_aload_n hx d_Mo_bad_26 rfl 0 rfl ?_
    refine j_get hx ck_Mo 0 (by decide) t_1418 (by decide) (sh_111 _ _) rfl d_Mo_bad_27 ?_
    refine j_if_eq (tgt := 37) hx d_Mo_bad_30 (by decide) (fun zc30 => ?_) (fun zc30 => ?_)
    · skip
      refine j_iconst (v := 0) hx d_Mo_bad_37 (by decide) ?_
      exact j_iret hx hq rfl d_Mo_bad_38 (by first | (rfl) | fail) (by first | (first | rfl | (simp only [zc1, zc30]; done) | (simp [zc1, zc30]; done)) | fail)
    · exact absurd ht zc30
  · exact absurd h zc1

set_option maxRecDepth 20000 in
set_option maxHeartbeats 4000000 in
theorem c_Mo_bad1 {l : Launch} {G : Gz} (hG : zI G) (σ : St) (is : Int32) (what : Int32) (r : Nat) (h : ¬ is = 0) (ht : σ 111 0 = 0) (hw : ¬ what = 0) (hr : r < 2) : MI l G y_Mo_bad prog_14_method_4_code 4 .boolean 1 [.ref (G.1 111), .int is, .int what, .int (nI r)] σ 1 (up (up σ 111 0 what) 113 r (σ 113 r + 1)) := by
  refine MI.of hG (by decide) (Nat.le_of_ble_eq_true rfl) (fun X hx hq => ?_)
  show J l G X 4 σ 0 [(0, .ref (G.1 111)), (1, .int is), (2, .int what), (3, .int (nI r))] []
  refine j_iload_n hx d_Mo_bad_0 rfl 1 rfl ?_
  refine j_if_eq (tgt := 26) hx d_Mo_bad_1 (by decide) (fun zc1 => ?_) (fun zc1 => ?_)
  · exact absurd zc1 h
  · skip
    refine j_aload_n hx d_Mo_bad_4 rfl 0 rfl ?_
    refine j_get hx ck_Mo 0 (by decide) t_1418 (by decide) (sh_111 _ _) rfl d_Mo_bad_5 ?_
    refine j_if_ne (tgt := 26) hx d_Mo_bad_8 (by decide) (fun zc8 => ?_) (fun zc8 => ?_)
    · exact absurd ht zc8
    · skip
      refine j_aload_n hx d_Mo_bad_11 rfl 0 rfl ?_
      refine j_iload_n hx d_Mo_bad_12 rfl 2 rfl ?_
      refine j_put hx ck_Mo 0 (by decide) t_1418 (by decide) (sh_111 _ _) rfl (Nat.le_of_ble_eq_true rfl) (sh_111 _ _) d_Mo_bad_13 ?_
      refine j_aload_n hx d_Mo_bad_16 rfl 0 rfl ?_
      refine j_get hx ck_Mo 10 (by decide) t_1428 (by decide) (sh_111 _ _) rfl d_Mo_bad_17 ?_
      refine j_iload_n hx d_Mo_bad_20 rfl 3 rfl ?_
      refine j_dup2_11 hx d_Mo_bad_21 rfl rfl ?_
      have hz22_1 : zin (nI r) 2 r := by first | exact ⟨rfl, by decide⟩ | exact zin_nI (by omega) (by decide) | exact zin_of (by omega) (by omega)
      refine j_ialdk hx ia_113 hz22_1 d_Mo_bad_22 ?_
      refine j_iconst (v := 1) hx d_Mo_bad_23 (by decide) ?_
      refine j_iadd hx d_Mo_bad_24 ?_
      have hz25_2 : zin (nI r) 2 r := by first | exact ⟨rfl, by decide⟩ | exact zin_nI (by omega) (by decide) | exact zin_of (by omega) (by omega)
      refine j_iastk hx ia_113 hz25_2 d_Mo_bad_25 ?_
      refine j_aload_n hx d_Mo_bad_26 rfl 0 rfl ?_
      refine j_get hx ck_Mo 0 (by decide) t_1418 (by decide) (sh_111 _ _) rfl d_Mo_bad_27 ?_
      refine j_if_eq (tgt := 37) hx d_Mo_bad_30 (by decide) (fun zc30 => ?_) (fun zc30 => ?_)
      · exact absurd (show what = 0 from zc30) hw
      · skip
        refine j_iconst (v := 1) hx d_Mo_bad_33 (by decide) ?_
        refine j_goto (tgt := 38) hx d_Mo_bad_34 (by decide) ?_
        exact j_iret hx hq rfl d_Mo_bad_38 (by first | (rfl) | fail) (by first | (rfl) | fail)

set_option maxRecDepth 20000 in
set_option maxHeartbeats 4000000 in
theorem c_Mo_less {l : Launch} {G : Gz} (hG : zI G) (σ : St) (a : Int32) (b : Int32) : MI l G y_Mo_less prog_14_method_6_code 2 .int 1 [.int a, .int b] σ (if a < b then a else b) σ := by
  refine MI.of hG (by decide) (Nat.le_of_ble_eq_true rfl) (fun X hx hq => ?_)
  show J l G X 2 σ 0 [(0, .int a), (1, .int b)] []
  refine j_iload_n hx d_Mo_less_0 rfl 0 rfl ?_
  refine j_iload_n hx d_Mo_less_1 rfl 1 rfl ?_
  refine j_icmp_ge (tgt := 9) hx d_Mo_less_2 (by decide) (fun zc2 => ?_) (fun zc2 => ?_)
  · skip
    refine j_iload_n hx d_Mo_less_9 rfl 1 rfl ?_
    exact j_iret hx hq rfl d_Mo_less_10 (by first | (first | exact (if_pos (i_nle zc2)).symm | exact (if_neg (i_lelt zc2)).symm) | fail) (by first | (first | rfl | (simp only [zc2]; done) | (simp [zc2]; done)) | fail)
  · skip
    refine j_iload_n hx d_Mo_less_5 rfl 0 rfl ?_
    refine j_goto (tgt := 10) hx d_Mo_less_6 (by decide) ?_
    exact j_iret hx hq rfl d_Mo_less_10 (by first | (first | exact (if_pos (i_nle zc2)).symm | exact (if_neg (i_lelt zc2)).symm) | fail) (by first | (first | rfl | (simp only [zc2]; done) | (simp [zc2]; done)) | fail)

set_option maxRecDepth 20000 in
set_option maxHeartbeats 4000000 in
theorem c_Mo_more {l : Launch} {G : Gz} (hG : zI G) (σ : St) (a : Int32) (b : Int32) : MI l G y_Mo_more prog_14_method_7_code 2 .int 1 [.int a, .int b] σ (if b < a then a else b) σ := by
  refine MI.of hG (by decide) (Nat.le_of_ble_eq_true rfl) (fun X hx hq => ?_)
  show J l G X 2 σ 0 [(0, .int a), (1, .int b)] []
  refine j_iload_n hx d_Mo_more_0 rfl 0 rfl ?_
  refine j_iload_n hx d_Mo_more_1 rfl 1 rfl ?_
  refine j_icmp_le (tgt := 9) hx d_Mo_more_2 (by decide) (fun zc2 => ?_) (fun zc2 => ?_)
  · skip
    refine j_iload_n hx d_Mo_more_9 rfl 1 rfl ?_
    exact j_iret hx hq rfl d_Mo_more_10 (by first | (first | exact (if_pos (i_nle zc2)).symm | exact (if_neg (i_lelt zc2)).symm) | fail) (by first | (first | rfl | (simp only [zc2]; done) | (simp [zc2]; done)) | fail)
  · skip
    refine j_iload_n hx d_Mo_more_5 rfl 0 rfl ?_
    refine j_goto (tgt := 10) hx d_Mo_more_6 (by decide) ?_
    exact j_iret hx hq rfl d_Mo_more_10 (by first | (first | exact (if_pos (i_nle zc2)).symm | exact (if_neg (i_lelt zc2)).symm) | fail) (by first | (first | rfl | (simp only [zc2]; done) | (simp [zc2]; done)) | fail)

set_option maxRecDepth 20000 in
set_option maxHeartbeats 4000000 in
theorem c_Mo_has {l : Launch} {G : Gz} (hG : zI G) (σ : St) (bits : Int32) (k9 : Int32) : MI l G y_Mo_has prog_14_method_8_code 2 .boolean 1 [.int bits, .int k9] σ (b2 (hB bits k9)) σ := by
  refine MI.of hG (by decide) (Nat.le_of_ble_eq_true rfl) (fun X hx hq => ?_)
  show J l G X 2 σ 0 [(0, .int bits), (1, .int k9)] []
  refine j_iload_n hx d_Mo_has_0 rfl 0 rfl ?_
  refine j_iload_n hx d_Mo_has_1 rfl 1 rfl ?_
  refine j_ishr hx d_Mo_has_2 ?_
  refine j_iconst (v := 1) hx d_Mo_has_3 (by decide) ?_
  refine j_iand hx d_Mo_has_4 ?_
  refine j_iconst (v := 1) hx d_Mo_has_5 (by decide) ?_
  refine j_icmp_ne (tgt := 13) hx d_Mo_has_6 (by decide) (fun zc6 => ?_) (fun zc6 => ?_)
  · skip
    refine j_iconst (v := 0) hx d_Mo_has_13 (by decide) ?_
    exact j_iret hx hq rfl d_Mo_has_14 (by first | (first | exact (b2_t zc6).symm | exact (b2_t (p := hB bits k9) (Decidable.not_not.mp zc6)).symm | exact (b2_f zc6).symm) | fail) (by first | (first | rfl | (simp only [zc6]; done) | (simp [zc6]; done)) | fail)
  · skip
    refine j_iconst (v := 1) hx d_Mo_has_9 (by decide) ?_
    refine j_goto (tgt := 14) hx d_Mo_has_10 (by decide) ?_
    exact j_iret hx hq rfl d_Mo_has_14 (by first | (first | exact (b2_t zc6).symm | exact (b2_t (p := hB bits k9) (Decidable.not_not.mp zc6)).symm | exact (b2_f zc6).symm) | fail) (by first | (first | rfl | (simp only [zc6]; done) | (simp [zc6]; done)) | fail)

set_option maxRecDepth 20000 in
set_option maxHeartbeats 4000000 in
theorem c_Mo_isFlash {l : Launch} {G : Gz} (hG : zI G) (σ : St) (m : Int32) (p : Int32) (hp : ¬ p = 0) : MI l G y_Mo_isFlash prog_14_method_46_code 2 .boolean 1 [.int m, .int p] σ (b2 (fl0 m p)) σ := by
  refine MI.of hG (by decide) (Nat.le_of_ble_eq_true rfl) (fun X hx hq => ?_)
  show J l G X 2 σ 0 [(0, .int m), (1, .int p)] []
  refine j_iload_n hx d_Mo_isFlash_0 rfl 0 rfl ?_
  refine j_iload_n hx d_Mo_isFlash_1 rfl 1 rfl ?_
  refine j_irem hx d_Mo_isFlash_2 (by exact hp) ?_
  refine j_if_ne (tgt := 10) hx d_Mo_isFlash_3 (by decide) (fun zc3 => ?_) (fun zc3 => ?_)
  · skip
    refine j_iconst (v := 0) hx d_Mo_isFlash_10 (by decide) ?_
    exact j_iret hx hq rfl d_Mo_isFlash_11 (by first | (first | exact (b2_t (p := fl0 m p) zc3).symm | exact (b2_t (p := fl0 m p) (Decidable.not_not.mp zc3)).symm | exact (b2_f (p := fl0 m p) zc3).symm) | fail) (by first | (first | rfl | (simp only [zc3]; done) | (simp [zc3]; done)) | fail)
  · skip
    refine j_iconst (v := 1) hx d_Mo_isFlash_6 (by decide) ?_
    refine j_goto (tgt := 11) hx d_Mo_isFlash_7 (by decide) ?_
    exact j_iret hx hq rfl d_Mo_isFlash_11 (by first | (first | exact (b2_t (p := fl0 m p) zc3).symm | exact (b2_t (p := fl0 m p) (Decidable.not_not.mp zc3)).symm | exact (b2_f (p := fl0 m p) zc3).symm) | fail) (by first | (first | rfl | (simp only [zc3]; done) | (simp [zc3]; done)) | fail)

set_option maxRecDepth 20000 in
set_option maxHeartbeats 4000000 in
theorem c_Mo_away {l : Launch} {G : Gz} (hG : zI G) (σ : St) (a : Int32) (b : Int32) : MI l G y_Mo_away prog_14_method_47_code 2 .int 1 [.int a, .int b] σ (aw a b) σ := by
  refine MI.of hG (by decide) (Nat.le_of_ble_eq_true rfl) (fun X hx hq => ?_)
  show J l G X 2 σ 0 [(0, .int a), (1, .int b)] []
  refine j_iload_n hx d_Mo_away_0 rfl 0 rfl ?_
  refine j_iload_n hx d_Mo_away_1 rfl 1 rfl ?_
  refine j_icmp_le (tgt := 11) hx d_Mo_away_2 (by decide) (fun zc2 => ?_) (fun zc2 => ?_)
  · skip
    refine j_iload_n hx d_Mo_away_11 rfl 1 rfl ?_
    refine j_iload_n hx d_Mo_away_12 rfl 0 rfl ?_
    refine j_isub hx d_Mo_away_13 ?_
    exact j_iret hx hq rfl d_Mo_away_14 (by first | (unfold aw; first | exact (if_pos (i_nle zc2)).symm | exact (if_neg (i_lelt zc2)).symm) | fail) (by first | (first | rfl | (simp only [zc2]; done) | (simp [zc2]; done)) | fail)
  · skip
    refine j_iload_n hx d_Mo_away_5 rfl 0 rfl ?_
    refine j_iload_n hx d_Mo_away_6 rfl 1 rfl ?_
    refine j_isub hx d_Mo_away_7 ?_
    refine j_goto (tgt := 14) hx d_Mo_away_8 (by decide) ?_
    exact j_iret hx hq rfl d_Mo_away_14 (by first | (unfold aw; first | exact (if_pos (i_nle zc2)).symm | exact (if_neg (i_lelt zc2)).symm) | fail) (by first | (first | rfl | (simp only [zc2]; done) | (simp [zc2]; done)) | fail)

set_option maxRecDepth 20000 in
set_option maxHeartbeats 4000000 in
theorem c_Mo_sightOf {l : Launch} {G : Gz} (hG : zI G) {o : Nat} (ho_o : isArr o 31) (σ : St) (hr : ¬ 1 + σ o 28 = 0) : MI l G y_Mo_sightOf prog_14_method_48_code 2 .int 1 [.ref (G.1 111), .ref (G.1 o)] σ (sgt σ o) σ := by
  refine MI.of hG (by decide) (Nat.le_of_ble_eq_true rfl) (fun X hx hq => ?_)
  show J l G X 2 σ 0 [(0, .ref (G.1 111)), (1, .ref (G.1 o))] []
  refine j_aload_n hx d_Mo_sightOf_0 rfl 0 rfl ?_
  refine j_get hx ck_Mo 12 (by decide) t_1430 (by decide) (sh_111 _ _) rfl d_Mo_sightOf_1 ?_
  refine j_iconst (v := 5) hx d_Mo_sightOf_4 (by decide) ?_
  have hz5_1 : zin (5) 6 5 := by first | exact ⟨rfl, by decide⟩ | exact zin_nI (by omega) (by decide) | exact zin_of (by omega) (by omega)
  refine j_ialdk hx ia_115 hz5_1 d_Mo_sightOf_5 ?_
  refine j_iconst (v := 1) hx d_Mo_sightOf_6 (by decide) ?_
  refine j_aload_n hx d_Mo_sightOf_7 rfl 1 rfl ?_
  refine j_bipush (v := 28) hx d_Mo_sightOf_8 (by decide) ?_
  have hz10_2 : zin (28) 31 28 := by first | exact ⟨rfl, by decide⟩ | exact zin_nI (by omega) (by decide) | exact zin_of (by omega) (by omega)
  refine j_ialdk hx ho_o hz10_2 d_Mo_sightOf_10 ?_
  refine j_iadd hx d_Mo_sightOf_11 ?_
  refine j_idiv hx d_Mo_sightOf_12 (by exact hr) ?_
  exact j_iret hx hq rfl d_Mo_sightOf_13 (by first | (rfl) | fail) (by first | (first | rfl | (simp only []; done) | (simp []; done)) | fail)

set_option maxRecDepth 20000 in
set_option maxHeartbeats 4000000 in
theorem c_Mo_donkeyAt {l : Launch} {G : Gz} (hG : zI G) {o : Nat} (ho_o : isArr o 31) (σ : St) (d : Nat) (m : Int32) (hd : d < 3) : MI l G y_Mo_donkeyAt prog_14_method_49_code 4 .int 2 [.ref (G.1 111), .ref (G.1 o), .int (nI d), .int m] σ (mdA σ o d m) σ := by
  refine MI.of hG (by decide) (Nat.le_of_ble_eq_true rfl) (fun X hx hq => ?_)
  show J l G X 4 σ 0 [(0, .ref (G.1 111)), (1, .ref (G.1 o)), (2, .int (nI d)), (3, .int m)] []
  refine j_aload_n hx d_Mo_donkeyAt_0 rfl 1 rfl ?_
  refine j_iconst (v := 1) hx d_Mo_donkeyAt_1 (by decide) ?_
  refine j_iload_n hx d_Mo_donkeyAt_2 rfl 2 rfl ?_
  refine j_iadd hx d_Mo_donkeyAt_3 ?_
  have hz4_1 : zin (1 + (nI d)) 31 ((1 + d)) := by exact zin_add (c := 1) (by omega) (by decide)
  refine j_ialdk hx ho_o hz4_1 d_Mo_donkeyAt_4 ?_
  refine j_iload_n hx d_Mo_donkeyAt_5 rfl 3 rfl ?_
  refine j_iadd hx d_Mo_donkeyAt_6 ?_
  refine j_aload_n hx d_Mo_donkeyAt_7 rfl 0 rfl ?_
  refine j_get hx ck_Mo 12 (by decide) t_1430 (by decide) (sh_111 _ _) rfl d_Mo_donkeyAt_8 ?_
  refine j_iconst (v := 0) hx d_Mo_donkeyAt_11 (by decide) ?_
  have hz12_2 : zin (0) 6 0 := by first | exact ⟨rfl, by decide⟩ | exact zin_nI (by omega) (by decide) | exact zin_of (by omega) (by omega)
  refine j_ialdk hx ia_115 hz12_2 d_Mo_donkeyAt_12 ?_
  refine j_iconst (v := 1) hx d_Mo_donkeyAt_13 (by decide) ?_
  refine j_isub hx d_Mo_donkeyAt_14 ?_
  refine j_callSi hx (c_Mo_less hG σ ((σ o ((1 + d))) + m) ((σ 115 0) - 1)) mo_Mo_less t_1750 t_1749 (by decide) rfl rfl (Nat.le_of_ble_eq_true rfl) d_Mo_donkeyAt_15 ?_
  exact j_iret hx hq rfl d_Mo_donkeyAt_18 (by first | (rfl) | fail) (by first | (first | rfl | (simp only []; done) | (simp []; done)) | fail)

set_option maxRecDepth 20000 in
set_option maxHeartbeats 4000000 in
theorem c_Mo_seenBy {l : Launch} {G : Gz} (hG : zI G) {o : Nat} (ho_o : isArr o 31) (σ : St) (c : Int32) (m : Int32) (hw : mW σ) (hr : rW σ o) : MI l G y_Mo_seenBy prog_14_method_50_code 7 .int 3 [.ref (G.1 111), .ref (G.1 o), .int c, .int m] σ (msb σ o c m) σ := by
  refine MI.of hG (by decide) (Nat.le_of_ble_eq_true rfl) (fun X hx hq => ?_)
  show J l G X 7 σ 0 [(0, .ref (G.1 111)), (1, .ref (G.1 o)), (2, .int c), (3, .int m)] []
  have hb1 : ct (σ 115 1) ≤ 6 := hw.1.2.1
  have hb2 : ct (σ 115 2) ≤ 3 := hw.1.2.2.1
  have hb0 : ct (σ 115 0) ≤ 12 := hw.1.1
  have hb3 : ct (σ 115 3) ≤ 6 := hw.1.2.2.2.1
  have hb4 : ct (σ 115 4) ≤ 6 := hw.1.2.2.2.2
  refine j_iconst (v := 0) hx d_Mo_seenBy_0 (by decide) ?_
  refine j_istore hx [(4, .int 0), (0, .ref (G.1 111)), (1, .ref (G.1 o)), (2, .int c), (3, .int m)] d_Mo_seenBy_1 (by decide) rfl ?_
  refine j_aload_n hx d_Mo_seenBy_3 rfl 1 rfl ?_
  refine j_aload_n hx d_Mo_seenBy_4 rfl 2 rfl ?_
  refine j_callVi hx (c_Mo_sightOf hG ho_o σ (by exact hr.1)) mo_Mo_sightOf mv_Mo_sightOf t_1735 (by decide) rfl (by decide) (sh_111 _ _) rfl rfl (Nat.le_of_ble_eq_true rfl) d_Mo_seenBy_5 ?_
  refine j_istore hx [(5, .int (sgt σ o)), (4, .int 0), (0, .ref (G.1 111)), (1, .ref (G.1 o)), (2, .int c), (3, .int m)] d_Mo_seenBy_8 (by decide) rfl ?_
  refine j_iconst (v := 0) hx d_Mo_seenBy_10 (by decide) ?_
  refine j_istore hx [(6, .int 0), (5, .int (sgt σ o)), (4, .int 0), (0, .ref (G.1 111)), (1, .ref (G.1 o)), (2, .int c), (3, .int m)] d_Mo_seenBy_11 (by decide) rfl ?_
  have hl13 : ∀ (N9 : Nat) (i : Nat), (i ≤ (ct (σ 115 1))) → (ct (σ 115 1)) - i = N9 → J l G X 7 σ 13 [(0, .ref (G.1 111)), (1, .ref (G.1 o)), (2, .int c), (3, .int m), (4, .int (msL σ o c m i)), (5, .int (sgt σ o)), (6, .int (nI i))] [] := by
    intro N9
    induction N9 using Nat.strongRecOn with
    | _ N9 ih13 =>
      intro i hi_i hm13
      refine j_iload hx d_Mo_seenBy_13 6 rfl ?_
      refine j_aload_n hx d_Mo_seenBy_15 rfl 0 rfl ?_
      refine j_get hx ck_Mo 12 (by decide) t_1430 (by decide) (sh_111 _ _) rfl d_Mo_seenBy_16 ?_
      refine j_iconst (v := 1) hx d_Mo_seenBy_19 (by decide) ?_
      have hz20_1 : zin (1) 6 1 := by first | exact ⟨rfl, by decide⟩ | exact zin_nI (by omega) (by decide) | exact zin_of (by omega) (by omega)
      refine j_ialdk hx ia_115 hz20_1 d_Mo_seenBy_20 ?_
      refine j_icmp_ge (tgt := 85) hx d_Mo_seenBy_21 (by decide) (fun zc21 => ?_) (fun zc21 => ?_)
      · skip
        obtain rfl := ct_end' hi_i zc21
        refine j_iconst (v := 0) hx d_Mo_seenBy_85 (by decide) ?_
        refine j_istore hx [(6, .int 0), (0, .ref (G.1 111)), (1, .ref (G.1 o)), (2, .int c), (3, .int m), (4, .int (msL σ o c m (ct (σ 115 1)))), (5, .int (sgt σ o))] d_Mo_seenBy_86 (by decide) rfl ?_
        have hl88 : ∀ (N9 : Nat) (j : Nat), (j ≤ (ct (σ 115 2))) → (ct (σ 115 2)) - j = N9 → J l G X 7 σ 88 [(0, .ref (G.1 111)), (1, .ref (G.1 o)), (2, .int c), (3, .int m), (4, .int (msD σ o c m (msL σ o c m (ct (σ 115 1))) j)), (5, .int (sgt σ o)), (6, .int (nI j))] [] := by
          intro N9
          induction N9 using Nat.strongRecOn with
          | _ N9 ih88 =>
            intro j hi_j hm88
            refine j_iload hx d_Mo_seenBy_88 6 rfl ?_
            refine j_aload_n hx d_Mo_seenBy_90 rfl 0 rfl ?_
            refine j_get hx ck_Mo 12 (by decide) t_1430 (by decide) (sh_111 _ _) rfl d_Mo_seenBy_91 ?_
            refine j_iconst (v := 2) hx d_Mo_seenBy_94 (by decide) ?_
            have hz95_2 : zin (2) 6 2 := by first | exact ⟨rfl, by decide⟩ | exact zin_nI (by omega) (by decide) | exact zin_of (by omega) (by omega)
            refine j_ialdk hx ia_115 hz95_2 d_Mo_seenBy_95 ?_
            refine j_icmp_ge (tgt := 148) hx d_Mo_seenBy_96 (by decide) (fun zc96 => ?_) (fun zc96 => ?_)
            · skip
              obtain rfl := ct_end' hi_j zc96
              refine j_aload_n hx d_Mo_seenBy_148 rfl 1 rfl ?_
              refine j_bipush (v := 29) hx d_Mo_seenBy_149 (by decide) ?_
              have hz151_3 : zin (29) 31 29 := by first | exact ⟨rfl, by decide⟩ | exact zin_nI (by omega) (by decide) | exact zin_of (by omega) (by omega)
              refine j_ialdk hx ho_o hz151_3 d_Mo_seenBy_151 ?_
              refine j_iconst (v := (-1)) hx d_Mo_seenBy_152 (by decide) ?_
              refine j_icmp_eq (tgt := 187) hx d_Mo_seenBy_153 (by decide) (fun zc153 => ?_) (fun zc153 => ?_)
              · skip
                refine j_iload hx d_Mo_seenBy_187 4 rfl ?_
                exact j_iret hx hq rfl d_Mo_seenBy_189 (by first | (unfold msb; first | exact (if_pos ⟨zc153, i_nlt zc166, b2_nz zc177⟩).symm | exact (if_neg (c := mmP σ o c m (sgt σ o)) (fun z => z.1 zc153)).symm | exact (if_neg (c := mmP σ o c m (sgt σ o)) (fun z => i_lelt z.2.1 zc166)).symm | exact (if_neg (c := mmP σ o c m (sgt σ o)) (fun z => b2_z zc177 z.2.2)).symm) | fail) (by first | (first | rfl | (simp only [zc21, zc96, zc153]; done) | (simp [zc21, zc96, zc153]; done)) | fail)
              · skip
                refine j_aload_n hx d_Mo_seenBy_156 rfl 1 rfl ?_
                refine j_bipush (v := 29) hx d_Mo_seenBy_157 (by decide) ?_
                have hz159_4 : zin (29) 31 29 := by first | exact ⟨rfl, by decide⟩ | exact zin_nI (by omega) (by decide) | exact zin_of (by omega) (by omega)
                refine j_ialdk hx ho_o hz159_4 d_Mo_seenBy_159 ?_
                refine j_iload_n hx d_Mo_seenBy_160 rfl 2 rfl ?_
                refine j_callSi hx (c_Mo_away hG σ (σ o 29) c) mo_Mo_away t_1740 t_1739 (by decide) rfl rfl (Nat.le_of_ble_eq_true rfl) d_Mo_seenBy_161 ?_
                refine j_iload hx d_Mo_seenBy_164 5 rfl ?_
                refine j_icmp_gt (tgt := 187) hx d_Mo_seenBy_166 (by decide) (fun zc166 => ?_) (fun zc166 => ?_)
                · skip
                  refine j_iload hx d_Mo_seenBy_187 4 rfl ?_
                  exact j_iret hx hq rfl d_Mo_seenBy_189 (by first | (unfold msb; first | exact (if_pos ⟨zc153, i_nlt zc166, b2_nz zc177⟩).symm | exact (if_neg (c := mmP σ o c m (sgt σ o)) (fun z => z.1 zc153)).symm | exact (if_neg (c := mmP σ o c m (sgt σ o)) (fun z => i_lelt z.2.1 zc166)).symm | exact (if_neg (c := mmP σ o c m (sgt σ o)) (fun z => b2_z zc177 z.2.2)).symm) | fail) (by first | (first | rfl | (simp only [zc21, zc96, zc153, zc166]; done) | (simp [zc21, zc96, zc153, zc166]; done)) | fail)
                · skip
                  refine j_iload_n hx d_Mo_seenBy_169 rfl 3 rfl ?_
                  refine j_aload_n hx d_Mo_seenBy_170 rfl 1 rfl ?_
                  refine j_bipush (v := 30) hx d_Mo_seenBy_171 (by decide) ?_
                  have hz173_5 : zin (30) 31 30 := by first | exact ⟨rfl, by decide⟩ | exact zin_nI (by omega) (by decide) | exact zin_of (by omega) (by omega)
                  refine j_ialdk hx ho_o hz173_5 d_Mo_seenBy_173 ?_
                  refine j_callSi hx (c_Mo_isFlash hG σ m (σ o 30) (by exact hr.2.resolve_left zc153)) mo_Mo_isFlash t_1743 t_1742 (by decide) rfl rfl (Nat.le_of_ble_eq_true rfl) d_Mo_seenBy_174 ?_
                  refine j_if_eq (tgt := 187) hx d_Mo_seenBy_177 (by decide) (fun zc177 => ?_) (fun zc177 => ?_)
                  · skip
                    refine j_iload hx d_Mo_seenBy_187 4 rfl ?_
                    exact j_iret hx hq rfl d_Mo_seenBy_189 (by first | (unfold msb; first | exact (if_pos ⟨zc153, i_nlt zc166, b2_nz zc177⟩).symm | exact (if_neg (c := mmP σ o c m (sgt σ o)) (fun z => z.1 zc153)).symm | exact (if_neg (c := mmP σ o c m (sgt σ o)) (fun z => i_lelt z.2.1 zc166)).symm | exact (if_neg (c := mmP σ o c m (sgt σ o)) (fun z => b2_z zc177 z.2.2)).symm) | fail) (by first | (first | rfl | (simp only [zc21, zc96, zc153, zc166, zc177]; done) | (simp [zc21, zc96, zc153, zc166, zc177]; done)) | fail)
                  · skip
                    refine j_iload hx d_Mo_seenBy_180 4 rfl ?_
                    refine j_iconst (v := 1) hx d_Mo_seenBy_182 (by decide) ?_
                    refine j_iadd hx d_Mo_seenBy_183 ?_
                    refine j_goto (tgt := 189) hx d_Mo_seenBy_184 (by decide) ?_
                    exact j_iret hx hq rfl d_Mo_seenBy_189 (by first | (unfold msb; first | exact (if_pos ⟨zc153, i_nlt zc166, b2_nz zc177⟩).symm | exact (if_neg (c := mmP σ o c m (sgt σ o)) (fun z => z.1 zc153)).symm | exact (if_neg (c := mmP σ o c m (sgt σ o)) (fun z => i_lelt z.2.1 zc166)).symm | exact (if_neg (c := mmP σ o c m (sgt σ o)) (fun z => b2_z zc177 z.2.2)).symm) | fail) (by first | (first | rfl | (simp only [zc21, zc96, zc153, zc166, zc177]; done) | (simp [zc21, zc96, zc153, zc166, zc177]; done)) | fail)
            · skip
              have hlt88 := ct_go hi_j zc96
              refine j_iload hx d_Mo_seenBy_99 4 rfl ?_
              refine j_aload_n hx d_Mo_seenBy_101 rfl 0 rfl ?_
              refine j_aload_n hx d_Mo_seenBy_102 rfl 1 rfl ?_
              refine j_iload hx d_Mo_seenBy_103 6 rfl ?_
              refine j_iload_n hx d_Mo_seenBy_105 rfl 3 rfl ?_
              refine j_callVi hx (c_Mo_donkeyAt hG ho_o σ j m (by omega)) mo_Mo_donkeyAt mv_Mo_donkeyAt t_1745 (by decide) rfl (by decide) (sh_111 _ _) rfl rfl (Nat.le_of_ble_eq_true rfl) d_Mo_seenBy_106 ?_
              refine j_iload_n hx d_Mo_seenBy_109 rfl 2 rfl ?_
              refine j_callSi hx (c_Mo_away hG σ (mdA σ o j m) c) mo_Mo_away t_1740 t_1739 (by decide) rfl rfl (Nat.le_of_ble_eq_true rfl) d_Mo_seenBy_110 ?_
              refine j_iload hx d_Mo_seenBy_113 5 rfl ?_
              refine j_icmp_gt (tgt := 138) hx d_Mo_seenBy_115 (by decide) (fun zc115 => ?_) (fun zc115 => ?_)
              · skip
                refine j_iconst (v := 0) hx d_Mo_seenBy_138 (by decide) ?_
                refine j_iadd hx d_Mo_seenBy_139 ?_
                refine j_istore hx [(4, .int ((msD σ o c m (msL σ o c m (ct (σ 115 1))) j) + 0)), (0, .ref (G.1 111)), (1, .ref (G.1 o)), (2, .int c), (3, .int m), (5, .int (sgt σ o)), (6, .int (nI j))] d_Mo_seenBy_140 (by decide) rfl ?_
                refine j_iinc hx [(6, .int ((nI j) + 1)), (4, .int ((msD σ o c m (msL σ o c m (ct (σ 115 1))) j) + 0)), (0, .ref (G.1 111)), (1, .ref (G.1 o)), (2, .int c), (3, .int m), (5, .int (sgt σ o))] d_Mo_seenBy_142 6 rfl rfl (by decide) rfl ?_
                refine j_goto (tgt := 88) hx d_Mo_seenBy_145 (by decide) ?_
                refine J.lsub (ls' := [(0, .ref (G.1 111)), (1, .ref (G.1 o)), (2, .int c), (3, .int m), (4, .int ((msD σ o c m (msL σ o c m (ct (σ 115 1))) j) + 0)), (5, .int (sgt σ o)), (6, .int ((nI j) + 1))]) [2, 3, 4, 5, 1, 6, 0] rfl ?_
                refine J.to ?_ ?_ (ih88 _ ?_ (j + 1) hlt88 rfl)
                · first | (first | rfl | (simp [zc21, zc96, zc115]; done)) | fail
                · first | (simp only [nI_s, msD_s]; first | rw [b2_t (p := mdP σ o c m (sgt σ o) j) ⟨i_nlt zc115, b2_nz zc131⟩] | rw [b2_f (p := mdP σ o c m (sgt σ o) j) (fun z => i_lelt z.1 zc115)] | rw [b2_f (p := mdP σ o c m (sgt σ o) j) (fun z => b2_z zc131 z.2)]) | fail
                · first | (omega) | fail
              · skip
                refine j_iload_n hx d_Mo_seenBy_118 rfl 3 rfl ?_
                refine j_aload_n hx d_Mo_seenBy_119 rfl 0 rfl ?_
                refine j_get hx ck_Mo 20 (by decide) t_1438 (by decide) (sh_111 _ _) rfl d_Mo_seenBy_120 ?_
                refine j_iload hx d_Mo_seenBy_123 6 rfl ?_
                have hz125_6 : zin (nI j) 3 j := by first | exact ⟨rfl, by decide⟩ | exact zin_nI (by omega) (by decide) | exact zin_of (by omega) (by omega)
                refine j_aaldk hx ias_donkey.1.1 (ias_donkey.2.1 _ _) hz125_6 d_Mo_seenBy_125 ?_
                refine j_iconst (v := 1) hx d_Mo_seenBy_126 (by decide) ?_
                have hz127_7 : zin (1) 2 1 := by first | exact ⟨rfl, by decide⟩ | exact zin_nI (by omega) (by decide) | exact zin_of (by omega) (by omega)
                refine j_ialdk hx (ias_donkey.2.2 _ hz125_6.2) hz127_7 d_Mo_seenBy_127 ?_
                refine j_callSi hx (c_Mo_isFlash hG σ m (σ (152 + j) 1) (by exact hw.2.2.1 _ hlt88)) mo_Mo_isFlash t_1743 t_1742 (by decide) rfl rfl (Nat.le_of_ble_eq_true rfl) d_Mo_seenBy_128 ?_
                refine j_if_eq (tgt := 138) hx d_Mo_seenBy_131 (by decide) (fun zc131 => ?_) (fun zc131 => ?_)
                · skip
                  refine j_iconst (v := 0) hx d_Mo_seenBy_138 (by decide) ?_
                  refine j_iadd hx d_Mo_seenBy_139 ?_
                  refine j_istore hx [(4, .int ((msD σ o c m (msL σ o c m (ct (σ 115 1))) j) + 0)), (0, .ref (G.1 111)), (1, .ref (G.1 o)), (2, .int c), (3, .int m), (5, .int (sgt σ o)), (6, .int (nI j))] d_Mo_seenBy_140 (by decide) rfl ?_
                  refine j_iinc hx [(6, .int ((nI j) + 1)), (4, .int ((msD σ o c m (msL σ o c m (ct (σ 115 1))) j) + 0)), (0, .ref (G.1 111)), (1, .ref (G.1 o)), (2, .int c), (3, .int m), (5, .int (sgt σ o))] d_Mo_seenBy_142 6 rfl rfl (by decide) rfl ?_
                  refine j_goto (tgt := 88) hx d_Mo_seenBy_145 (by decide) ?_
                  refine J.lsub (ls' := [(0, .ref (G.1 111)), (1, .ref (G.1 o)), (2, .int c), (3, .int m), (4, .int ((msD σ o c m (msL σ o c m (ct (σ 115 1))) j) + 0)), (5, .int (sgt σ o)), (6, .int ((nI j) + 1))]) [2, 3, 4, 5, 1, 6, 0] rfl ?_
                  refine J.to ?_ ?_ (ih88 _ ?_ (j + 1) hlt88 rfl)
                  · first | (first | rfl | (simp [zc21, zc96, zc115, zc131]; done)) | fail
                  · first | (simp only [nI_s, msD_s]; first | rw [b2_t (p := mdP σ o c m (sgt σ o) j) ⟨i_nlt zc115, b2_nz zc131⟩] | rw [b2_f (p := mdP σ o c m (sgt σ o) j) (fun z => i_lelt z.1 zc115)] | rw [b2_f (p := mdP σ o c m (sgt σ o) j) (fun z => b2_z zc131 z.2)]) | fail
                  · first | (omega) | fail
                · skip
                  refine j_iconst (v := 1) hx d_Mo_seenBy_134 (by decide) ?_
                  refine j_goto (tgt := 139) hx d_Mo_seenBy_135 (by decide) ?_
                  refine j_iadd hx d_Mo_seenBy_139 ?_
                  refine j_istore hx [(4, .int ((msD σ o c m (msL σ o c m (ct (σ 115 1))) j) + 1)), (0, .ref (G.1 111)), (1, .ref (G.1 o)), (2, .int c), (3, .int m), (5, .int (sgt σ o)), (6, .int (nI j))] d_Mo_seenBy_140 (by decide) rfl ?_
                  refine j_iinc hx [(6, .int ((nI j) + 1)), (4, .int ((msD σ o c m (msL σ o c m (ct (σ 115 1))) j) + 1)), (0, .ref (G.1 111)), (1, .ref (G.1 o)), (2, .int c), (3, .int m), (5, .int (sgt σ o))] d_Mo_seenBy_142 6 rfl rfl (by decide) rfl ?_
                  refine j_goto (tgt := 88) hx d_Mo_seenBy_145 (by decide) ?_
                  refine J.lsub (ls' := [(0, .ref (G.1 111)), (1, .ref (G.1 o)), (2, .int c), (3, .int m), (4, .int ((msD σ o c m (msL σ o c m (ct (σ 115 1))) j) + 1)), (5, .int (sgt σ o)), (6, .int ((nI j) + 1))]) [2, 3, 4, 5, 1, 6, 0] rfl ?_
                  refine J.to ?_ ?_ (ih88 _ ?_ (j + 1) hlt88 rfl)
                  · first | (first | rfl | (simp [zc21, zc96, zc115, zc131]; done)) | fail
                  · first | (simp only [nI_s, msD_s]; first | rw [b2_t (p := mdP σ o c m (sgt σ o) j) ⟨i_nlt zc115, b2_nz zc131⟩] | rw [b2_f (p := mdP σ o c m (sgt σ o) j) (fun z => i_lelt z.1 zc115)] | rw [b2_f (p := mdP σ o c m (sgt σ o) j) (fun z => b2_z zc131 z.2)]) | fail
                  · first | (omega) | fail
        refine J.lsub (ls' := [(0, .ref (G.1 111)), (1, .ref (G.1 o)), (2, .int c), (3, .int m), (4, .int (msL σ o c m (ct (σ 115 1)))), (5, .int (sgt σ o)), (6, .int 0)]) [1, 2, 3, 4, 5, 6, 0] rfl ?_
        refine J.to ?_ ?_ (hl88 _ 0 (Nat.zero_le _) rfl)
        · first | (first | rfl | (simp [zc21]; done)) | fail
        · first | (rfl) | fail
      · skip
        have hlt13 := ct_go hi_i zc21
        refine j_iload hx d_Mo_seenBy_24 4 rfl ?_
        refine j_aload_n hx d_Mo_seenBy_26 rfl 1 rfl ?_
        refine j_iconst (v := 0) hx d_Mo_seenBy_27 (by decide) ?_
        have hz28_8 : zin (0) 31 0 := by first | exact ⟨rfl, by decide⟩ | exact zin_nI (by omega) (by decide) | exact zin_of (by omega) (by omega)
        refine j_ialdk hx ho_o hz28_8 d_Mo_seenBy_28 ?_
        refine j_iload hx d_Mo_seenBy_29 6 rfl ?_
        refine j_callSi hx (c_Mo_has hG σ (σ o 0) (nI i)) mo_Mo_has t_1721 t_1720 (by decide) rfl rfl (Nat.le_of_ble_eq_true rfl) d_Mo_seenBy_31 ?_
        refine j_if_eq (tgt := 75) hx d_Mo_seenBy_34 (by decide) (fun zc34 => ?_) (fun zc34 => ?_)
        · skip
          refine j_iconst (v := 0) hx d_Mo_seenBy_75 (by decide) ?_
          refine j_iadd hx d_Mo_seenBy_76 ?_
          refine j_istore hx [(4, .int ((msL σ o c m i) + 0)), (0, .ref (G.1 111)), (1, .ref (G.1 o)), (2, .int c), (3, .int m), (5, .int (sgt σ o)), (6, .int (nI i))] d_Mo_seenBy_77 (by decide) rfl ?_
          refine j_iinc hx [(6, .int ((nI i) + 1)), (4, .int ((msL σ o c m i) + 0)), (0, .ref (G.1 111)), (1, .ref (G.1 o)), (2, .int c), (3, .int m), (5, .int (sgt σ o))] d_Mo_seenBy_79 6 rfl rfl (by decide) rfl ?_
          refine j_goto (tgt := 13) hx d_Mo_seenBy_82 (by decide) ?_
          refine J.lsub (ls' := [(0, .ref (G.1 111)), (1, .ref (G.1 o)), (2, .int c), (3, .int m), (4, .int ((msL σ o c m i) + 0)), (5, .int (sgt σ o)), (6, .int ((nI i) + 1))]) [2, 3, 4, 5, 1, 6, 0] rfl ?_
          refine J.to ?_ ?_ (ih13 _ ?_ (i + 1) hlt13 rfl)
          · first | (first | rfl | (simp [zc21, zc34]; done)) | fail
          · first | (simp only [nI_s, msL, sm_s]; first | rw [b2_t (p := mlP σ o c m (sgt σ o) i) ⟨b2_nz zc34, i_nlt zc52, b2_nz zc68⟩] | rw [b2_f (p := mlP σ o c m (sgt σ o) i) (fun z => b2_z zc34 z.1)] | rw [b2_f (p := mlP σ o c m (sgt σ o) i) (fun z => i_lelt z.2.1 zc52)] | rw [b2_f (p := mlP σ o c m (sgt σ o) i) (fun z => b2_z zc68 z.2.2)]) | fail
          · first | (omega) | fail
        · skip
          refine j_aload_n hx d_Mo_seenBy_37 rfl 0 rfl ?_
          refine j_get hx ck_Mo 18 (by decide) t_1436 (by decide) (sh_111 _ _) rfl d_Mo_seenBy_38 ?_
          refine j_iload hx d_Mo_seenBy_41 6 rfl ?_
          have hz43_9 : zin (nI i) 6 i := by first | exact ⟨rfl, by decide⟩ | exact zin_nI (by omega) (by decide) | exact zin_of (by omega) (by omega)
          refine j_aaldk hx ias_light.1.1 (ias_light.2.1 _ _) hz43_9 d_Mo_seenBy_43 ?_
          refine j_iconst (v := 0) hx d_Mo_seenBy_44 (by decide) ?_
          have hz45_10 : zin (0) 2 0 := by first | exact ⟨rfl, by decide⟩ | exact zin_nI (by omega) (by decide) | exact zin_of (by omega) (by omega)
          refine j_ialdk hx (ias_light.2.2 _ hz43_9.2) hz45_10 d_Mo_seenBy_45 ?_
          refine j_iload_n hx d_Mo_seenBy_46 rfl 2 rfl ?_
          refine j_callSi hx (c_Mo_away hG σ (σ (143 + i) 0) c) mo_Mo_away t_1740 t_1739 (by decide) rfl rfl (Nat.le_of_ble_eq_true rfl) d_Mo_seenBy_47 ?_
          refine j_iload hx d_Mo_seenBy_50 5 rfl ?_
          refine j_icmp_gt (tgt := 75) hx d_Mo_seenBy_52 (by decide) (fun zc52 => ?_) (fun zc52 => ?_)
          · skip
            refine j_iconst (v := 0) hx d_Mo_seenBy_75 (by decide) ?_
            refine j_iadd hx d_Mo_seenBy_76 ?_
            refine j_istore hx [(4, .int ((msL σ o c m i) + 0)), (0, .ref (G.1 111)), (1, .ref (G.1 o)), (2, .int c), (3, .int m), (5, .int (sgt σ o)), (6, .int (nI i))] d_Mo_seenBy_77 (by decide) rfl ?_
            refine j_iinc hx [(6, .int ((nI i) + 1)), (4, .int ((msL σ o c m i) + 0)), (0, .ref (G.1 111)), (1, .ref (G.1 o)), (2, .int c), (3, .int m), (5, .int (sgt σ o))] d_Mo_seenBy_79 6 rfl rfl (by decide) rfl ?_
            refine j_goto (tgt := 13) hx d_Mo_seenBy_82 (by decide) ?_
            refine J.lsub (ls' := [(0, .ref (G.1 111)), (1, .ref (G.1 o)), (2, .int c), (3, .int m), (4, .int ((msL σ o c m i) + 0)), (5, .int (sgt σ o)), (6, .int ((nI i) + 1))]) [2, 3, 4, 5, 1, 6, 0] rfl ?_
            refine J.to ?_ ?_ (ih13 _ ?_ (i + 1) hlt13 rfl)
            · first | (first | rfl | (simp [zc21, zc34, zc52]; done)) | fail
            · first | (simp only [nI_s, msL, sm_s]; first | rw [b2_t (p := mlP σ o c m (sgt σ o) i) ⟨b2_nz zc34, i_nlt zc52, b2_nz zc68⟩] | rw [b2_f (p := mlP σ o c m (sgt σ o) i) (fun z => b2_z zc34 z.1)] | rw [b2_f (p := mlP σ o c m (sgt σ o) i) (fun z => i_lelt z.2.1 zc52)] | rw [b2_f (p := mlP σ o c m (sgt σ o) i) (fun z => b2_z zc68 z.2.2)]) | fail
            · first | (omega) | fail
          · skip
            refine j_iload_n hx d_Mo_seenBy_55 rfl 3 rfl ?_
            refine j_aload_n hx d_Mo_seenBy_56 rfl 0 rfl ?_
            refine j_get hx ck_Mo 18 (by decide) t_1436 (by decide) (sh_111 _ _) rfl d_Mo_seenBy_57 ?_
            refine j_iload hx d_Mo_seenBy_60 6 rfl ?_
            have hz62_11 : zin (nI i) 6 i := by first | exact ⟨rfl, by decide⟩ | exact zin_nI (by omega) (by decide) | exact zin_of (by omega) (by omega)
            refine j_aaldk hx ias_light.1.1 (ias_light.2.1 _ _) hz62_11 d_Mo_seenBy_62 ?_
            refine j_iconst (v := 1) hx d_Mo_seenBy_63 (by decide) ?_
            have hz64_12 : zin (1) 2 1 := by first | exact ⟨rfl, by decide⟩ | exact zin_nI (by omega) (by decide) | exact zin_of (by omega) (by omega)
            refine j_ialdk hx (ias_light.2.2 _ hz62_11.2) hz64_12 d_Mo_seenBy_64 ?_
            refine j_callSi hx (c_Mo_isFlash hG σ m (σ (143 + i) 1) (by exact hw.2.1 _ hlt13)) mo_Mo_isFlash t_1743 t_1742 (by decide) rfl rfl (Nat.le_of_ble_eq_true rfl) d_Mo_seenBy_65 ?_
            refine j_if_eq (tgt := 75) hx d_Mo_seenBy_68 (by decide) (fun zc68 => ?_) (fun zc68 => ?_)
            · skip
              refine j_iconst (v := 0) hx d_Mo_seenBy_75 (by decide) ?_
              refine j_iadd hx d_Mo_seenBy_76 ?_
              refine j_istore hx [(4, .int ((msL σ o c m i) + 0)), (0, .ref (G.1 111)), (1, .ref (G.1 o)), (2, .int c), (3, .int m), (5, .int (sgt σ o)), (6, .int (nI i))] d_Mo_seenBy_77 (by decide) rfl ?_
              refine j_iinc hx [(6, .int ((nI i) + 1)), (4, .int ((msL σ o c m i) + 0)), (0, .ref (G.1 111)), (1, .ref (G.1 o)), (2, .int c), (3, .int m), (5, .int (sgt σ o))] d_Mo_seenBy_79 6 rfl rfl (by decide) rfl ?_
              refine j_goto (tgt := 13) hx d_Mo_seenBy_82 (by decide) ?_
              refine J.lsub (ls' := [(0, .ref (G.1 111)), (1, .ref (G.1 o)), (2, .int c), (3, .int m), (4, .int ((msL σ o c m i) + 0)), (5, .int (sgt σ o)), (6, .int ((nI i) + 1))]) [2, 3, 4, 5, 1, 6, 0] rfl ?_
              refine J.to ?_ ?_ (ih13 _ ?_ (i + 1) hlt13 rfl)
              · first | (first | rfl | (simp [zc21, zc34, zc52, zc68]; done)) | fail
              · first | (simp only [nI_s, msL, sm_s]; first | rw [b2_t (p := mlP σ o c m (sgt σ o) i) ⟨b2_nz zc34, i_nlt zc52, b2_nz zc68⟩] | rw [b2_f (p := mlP σ o c m (sgt σ o) i) (fun z => b2_z zc34 z.1)] | rw [b2_f (p := mlP σ o c m (sgt σ o) i) (fun z => i_lelt z.2.1 zc52)] | rw [b2_f (p := mlP σ o c m (sgt σ o) i) (fun z => b2_z zc68 z.2.2)]) | fail
              · first | (omega) | fail
            · skip
              refine j_iconst (v := 1) hx d_Mo_seenBy_71 (by decide) ?_
              refine j_goto (tgt := 76) hx d_Mo_seenBy_72 (by decide) ?_
              refine j_iadd hx d_Mo_seenBy_76 ?_
              refine j_istore hx [(4, .int ((msL σ o c m i) + 1)), (0, .ref (G.1 111)), (1, .ref (G.1 o)), (2, .int c), (3, .int m), (5, .int (sgt σ o)), (6, .int (nI i))] d_Mo_seenBy_77 (by decide) rfl ?_
              refine j_iinc hx [(6, .int ((nI i) + 1)), (4, .int ((msL σ o c m i) + 1)), (0, .ref (G.1 111)), (1, .ref (G.1 o)), (2, .int c), (3, .int m), (5, .int (sgt σ o))] d_Mo_seenBy_79 6 rfl rfl (by decide) rfl ?_
              refine j_goto (tgt := 13) hx d_Mo_seenBy_82 (by decide) ?_
              refine J.lsub (ls' := [(0, .ref (G.1 111)), (1, .ref (G.1 o)), (2, .int c), (3, .int m), (4, .int ((msL σ o c m i) + 1)), (5, .int (sgt σ o)), (6, .int ((nI i) + 1))]) [2, 3, 4, 5, 1, 6, 0] rfl ?_
              refine J.to ?_ ?_ (ih13 _ ?_ (i + 1) hlt13 rfl)
              · first | (first | rfl | (simp [zc21, zc34, zc52, zc68]; done)) | fail
              · first | (simp only [nI_s, msL, sm_s]; first | rw [b2_t (p := mlP σ o c m (sgt σ o) i) ⟨b2_nz zc34, i_nlt zc52, b2_nz zc68⟩] | rw [b2_f (p := mlP σ o c m (sgt σ o) i) (fun z => b2_z zc34 z.1)] | rw [b2_f (p := mlP σ o c m (sgt σ o) i) (fun z => i_lelt z.2.1 zc52)] | rw [b2_f (p := mlP σ o c m (sgt σ o) i) (fun z => b2_z zc68 z.2.2)]) | fail
              · first | (omega) | fail
  refine J.lsub (ls' := [(0, .ref (G.1 111)), (1, .ref (G.1 o)), (2, .int c), (3, .int m), (4, .int 0), (5, .int (sgt σ o)), (6, .int 0)]) [3, 4, 5, 6, 2, 1, 0] rfl ?_
  refine J.to ?_ ?_ (hl13 _ 0 (Nat.zero_le _) rfl)
  · first | (first | rfl | (simp []; done)) | fail
  · first | (rfl) | fail

set_option maxRecDepth 20000 in
set_option maxHeartbeats 4000000 in
theorem c_Mo_by {l : Launch} {G : Gz} (hG : zI G) (σ : St) (h : Int32) (u : Int32) (v : Int32) : MI l G y_Mo_by prog_14_method_40_code 3 .int 2 [.int h, .int u, .int v] σ (mby h u v) σ := by
  refine MI.of hG (by decide) (Nat.le_of_ble_eq_true rfl) (fun X hx hq => ?_)
  show J l G X 3 σ 0 [(0, .int h), (1, .int u), (2, .int v)] []
  refine j_iload_n hx d_Mo_by_0 rfl 0 rfl ?_
  refine J.sw (x := h) 2 (fun zc1_0 => ?_) (fun zc1_0 => ?_)
  · skip
    refine j_tableIn (x := h) (tgt := 40) (off := 39) hx d_Mo_by_1 (by rw [zc1_0]; decide) (by rw [zc1_0]; decide) (by rw [zc1_0]; decide) (by decide) ?_
    refine j_iload_n hx d_Mo_by_40 rfl 1 rfl ?_
    refine j_iload_n hx d_Mo_by_41 rfl 2 rfl ?_
    refine j_iadd hx d_Mo_by_42 ?_
    exact j_iret hx hq rfl d_Mo_by_43 (by first | (unfold mby; exact (if_pos zc1_0).symm) | fail) (by first | (first | rfl | (simp only [zc1_0]; done) | (simp [zc1_0]; done)) | fail)
  refine J.sw (x := h) 3 (fun zc1_1 => ?_) (fun zc1_1 => ?_)
  · skip
    refine j_tableIn (x := h) (tgt := 44) (off := 43) hx d_Mo_by_1 (by rw [zc1_1]; decide) (by rw [zc1_1]; decide) (by rw [zc1_1]; decide) (by decide) ?_
    refine j_iload_n hx d_Mo_by_44 rfl 1 rfl ?_
    refine j_iload_n hx d_Mo_by_45 rfl 2 rfl ?_
    refine j_isub hx d_Mo_by_46 ?_
    exact j_iret hx hq rfl d_Mo_by_47 (by first | (unfold mby; rw [if_neg zc1_0]; exact (if_pos zc1_1).symm) | fail) (by first | (first | rfl | (simp only [zc1_0, zc1_1]; done) | (simp [zc1_0, zc1_1]; done)) | fail)
  refine J.sw (x := h) 4 (fun zc1_2 => ?_) (fun zc1_2 => ?_)
  · skip
    refine j_tableIn (x := h) (tgt := 48) (off := 47) hx d_Mo_by_1 (by rw [zc1_2]; decide) (by rw [zc1_2]; decide) (by rw [zc1_2]; decide) (by decide) ?_
    refine j_iload_n hx d_Mo_by_48 rfl 1 rfl ?_
    refine j_iload_n hx d_Mo_by_49 rfl 2 rfl ?_
    refine j_imul hx d_Mo_by_50 ?_
    exact j_iret hx hq rfl d_Mo_by_51 (by first | (unfold mby; rw [if_neg zc1_0, if_neg zc1_1]; exact (if_pos zc1_2).symm) | fail) (by first | (first | rfl | (simp only [zc1_0, zc1_1, zc1_2]; done) | (simp [zc1_0, zc1_1, zc1_2]; done)) | fail)
  refine J.sw (x := h) 5 (fun zc1_3 => ?_) (fun zc1_3 => ?_)
  · skip
    refine j_tableIn (x := h) (tgt := 52) (off := 51) hx d_Mo_by_1 (by rw [zc1_3]; decide) (by rw [zc1_3]; decide) (by rw [zc1_3]; decide) (by decide) ?_
    refine j_iload_n hx d_Mo_by_52 rfl 2 rfl ?_
    refine j_if_ne (tgt := 60) hx d_Mo_by_53 (by decide) (fun zc53 => ?_) (fun zc53 => ?_)
    · skip
      refine j_iload_n hx d_Mo_by_60 rfl 2 rfl ?_
      refine j_iconst (v := (-1)) hx d_Mo_by_61 (by decide) ?_
      refine j_icmp_ne (tgt := 70) hx d_Mo_by_62 (by decide) (fun zc62 => ?_) (fun zc62 => ?_)
      · skip
        refine j_iload_n hx d_Mo_by_70 rfl 1 rfl ?_
        refine j_iload_n hx d_Mo_by_71 rfl 2 rfl ?_
        refine j_idiv hx d_Mo_by_72 (by first | exact zc53 | exact zc75 | exact fun z => zc53 z) ?_
        exact j_iret hx hq rfl d_Mo_by_73 (by first | (unfold mby; rw [if_neg zc1_0, if_neg zc1_1, if_neg zc1_2, if_pos zc1_3]; first | exact (if_pos zc53).symm | (rw [if_neg zc53]; first | exact (if_pos zc62).symm | exact (if_neg zc62).symm)) | fail) (by first | (first | rfl | (simp only [zc1_0, zc1_1, zc1_2, zc1_3, zc53, zc62]; done) | (simp [zc1_0, zc1_1, zc1_2, zc1_3, zc53, zc62]; done)) | fail)
      · skip
        refine j_iload_n hx d_Mo_by_65 rfl 1 rfl ?_
        refine j_ineg hx d_Mo_by_66 ?_
        refine j_goto (tgt := 73) hx d_Mo_by_67 (by decide) ?_
        exact j_iret hx hq rfl d_Mo_by_73 (by first | (unfold mby; rw [if_neg zc1_0, if_neg zc1_1, if_neg zc1_2, if_pos zc1_3]; first | exact (if_pos zc53).symm | (rw [if_neg zc53]; first | exact (if_pos zc62).symm | exact (if_neg zc62).symm)) | fail) (by first | (first | rfl | (simp only [zc1_0, zc1_1, zc1_2, zc1_3, zc53, zc62]; done) | (simp [zc1_0, zc1_1, zc1_2, zc1_3, zc53, zc62]; done)) | fail)
    · skip
      refine j_iconst (v := 0) hx d_Mo_by_56 (by decide) ?_
      refine j_goto (tgt := 73) hx d_Mo_by_57 (by decide) ?_
      exact j_iret hx hq rfl d_Mo_by_73 (by first | (unfold mby; rw [if_neg zc1_0, if_neg zc1_1, if_neg zc1_2, if_pos zc1_3]; first | exact (if_pos zc53).symm | (rw [if_neg zc53]; first | exact (if_pos zc62).symm | exact (if_neg zc62).symm)) | fail) (by first | (first | rfl | (simp only [zc1_0, zc1_1, zc1_2, zc1_3, zc53]; done) | (simp [zc1_0, zc1_1, zc1_2, zc1_3, zc53]; done)) | fail)
  refine J.sw (x := h) 6 (fun zc1_4 => ?_) (fun zc1_4 => ?_)
  · skip
    refine j_tableIn (x := h) (tgt := 74) (off := 73) hx d_Mo_by_1 (by rw [zc1_4]; decide) (by rw [zc1_4]; decide) (by rw [zc1_4]; decide) (by decide) ?_
    refine j_iload_n hx d_Mo_by_74 rfl 2 rfl ?_
    refine j_if_eq (tgt := 83) hx d_Mo_by_75 (by decide) (fun zc75 => ?_) (fun zc75 => ?_)
    · skip
      refine j_iconst (v := 0) hx d_Mo_by_83 (by decide) ?_
      refine j_goto (tgt := 90) hx d_Mo_by_84 (by decide) ?_
      exact j_iret hx hq rfl d_Mo_by_90 (by first | (unfold mby; rw [if_neg zc1_0, if_neg zc1_1, if_neg zc1_2, if_neg zc1_3, if_pos zc1_4]; first | exact (if_pos (Or.inl zc75)).symm | exact (if_pos (Or.inr zc80)).symm | exact (if_neg (fun z => z.elim zc75 zc80)).symm) | fail) (by first | (first | rfl | (simp only [zc1_0, zc1_1, zc1_2, zc1_3, zc1_4, zc75]; done) | (simp [zc1_0, zc1_1, zc1_2, zc1_3, zc1_4, zc75]; done)) | fail)
    · skip
      refine j_iload_n hx d_Mo_by_78 rfl 2 rfl ?_
      refine j_iconst (v := (-1)) hx d_Mo_by_79 (by decide) ?_
      refine j_icmp_ne (tgt := 87) hx d_Mo_by_80 (by decide) (fun zc80 => ?_) (fun zc80 => ?_)
      · skip
        refine j_iload_n hx d_Mo_by_87 rfl 1 rfl ?_
        refine j_iload_n hx d_Mo_by_88 rfl 2 rfl ?_
        refine j_irem hx d_Mo_by_89 (by first | exact zc53 | exact zc75 | exact fun z => zc53 z) ?_
        exact j_iret hx hq rfl d_Mo_by_90 (by first | (unfold mby; rw [if_neg zc1_0, if_neg zc1_1, if_neg zc1_2, if_neg zc1_3, if_pos zc1_4]; first | exact (if_pos (Or.inl zc75)).symm | exact (if_pos (Or.inr zc80)).symm | exact (if_neg (fun z => z.elim zc75 zc80)).symm) | fail) (by first | (first | rfl | (simp only [zc1_0, zc1_1, zc1_2, zc1_3, zc1_4, zc75, zc80]; done) | (simp [zc1_0, zc1_1, zc1_2, zc1_3, zc1_4, zc75, zc80]; done)) | fail)
      · skip
        refine j_iconst (v := 0) hx d_Mo_by_83 (by decide) ?_
        refine j_goto (tgt := 90) hx d_Mo_by_84 (by decide) ?_
        exact j_iret hx hq rfl d_Mo_by_90 (by first | (unfold mby; rw [if_neg zc1_0, if_neg zc1_1, if_neg zc1_2, if_neg zc1_3, if_pos zc1_4]; first | exact (if_pos (Or.inl zc75)).symm | exact (if_pos (Or.inr zc80)).symm | exact (if_neg (fun z => z.elim zc75 zc80)).symm) | fail) (by first | (first | rfl | (simp only [zc1_0, zc1_1, zc1_2, zc1_3, zc1_4, zc75, zc80]; done) | (simp [zc1_0, zc1_1, zc1_2, zc1_3, zc1_4, zc75, zc80]; done)) | fail)
  refine J.sw (x := h) 7 (fun zc1_5 => ?_) (fun zc1_5 => ?_)
  · skip
    refine j_tableIn (x := h) (tgt := 91) (off := 90) hx d_Mo_by_1 (by rw [zc1_5]; decide) (by rw [zc1_5]; decide) (by rw [zc1_5]; decide) (by decide) ?_
    refine j_iload_n hx d_Mo_by_91 rfl 1 rfl ?_
    refine j_iload_n hx d_Mo_by_92 rfl 2 rfl ?_
    refine j_callSi hx (c_Mo_less hG σ u v) mo_Mo_less t_1750 t_1749 (by decide) rfl rfl (Nat.le_of_ble_eq_true rfl) d_Mo_by_93 ?_
    exact j_iret hx hq rfl d_Mo_by_96 (by first | (unfold mby; rw [if_neg zc1_0, if_neg zc1_1, if_neg zc1_2, if_neg zc1_3, if_neg zc1_4]; exact (if_pos zc1_5).symm) | fail) (by first | (first | rfl | (simp only [zc1_0, zc1_1, zc1_2, zc1_3, zc1_4, zc1_5]; done) | (simp [zc1_0, zc1_1, zc1_2, zc1_3, zc1_4, zc1_5]; done)) | fail)
  refine j_tableOut (x := h) (tgt := 97) hx d_Mo_by_1 (by have h0 := sw_ne zc1_0; have h1 := sw_ne zc1_1; have h2 := sw_ne zc1_2; have h3 := sw_ne zc1_3; have h4 := sw_ne zc1_4; have h5 := sw_ne zc1_5; have q2 : Int32.toInt 2 = 2 := rfl; have q3 : Int32.toInt 3 = 3 := rfl; have q4 : Int32.toInt 4 = 4 := rfl; have q5 : Int32.toInt 5 = 5 := rfl; have q6 : Int32.toInt 6 = 6 := rfl; have q7 : Int32.toInt 7 = 7 := rfl; omega) (by decide) ?_
  refine j_iload_n hx d_Mo_by_97 rfl 1 rfl ?_
  refine j_iload_n hx d_Mo_by_98 rfl 2 rfl ?_
  refine j_callSi hx (c_Mo_more hG σ u v) mo_Mo_more t_1764 t_1763 (by decide) rfl rfl (Nat.le_of_ble_eq_true rfl) d_Mo_by_99 ?_
  exact j_iret hx hq rfl d_Mo_by_102 (by first | (unfold mby; rw [if_neg zc1_0, if_neg zc1_1, if_neg zc1_2, if_neg zc1_3, if_neg zc1_4, if_neg zc1_5]) | fail) (by first | (first | rfl | (simp only [zc1_0, zc1_1, zc1_2, zc1_3, zc1_4, zc1_5]; done) | (simp [zc1_0, zc1_1, zc1_2, zc1_3, zc1_4, zc1_5]; done)) | fail)

set_option maxRecDepth 20000 in
set_option maxHeartbeats 4000000 in
theorem c_Mo_byLaw {l : Launch} {G : Gz} (hG : zI G) (σ : St) (hl : lawOK σ) : MI l G y_Mo_byLaw prog_14_method_41_code 3 .int 3 [.ref (G.1 111)] σ (mbV σ) (mbS σ) := by
  refine MI.of hG (by decide) (Nat.le_of_ble_eq_true rfl) (fun X hx hq => ?_)
  show J l G X 3 σ 0 [(0, .ref (G.1 111))] []
  have hl1 := hl.1
  refine j_aload_n hx d_Mo_byLaw_0 rfl 0 rfl ?_
  refine j_get hx ck_Mo 23 (by decide) t_1441 (by decide) (sh_111 _ _) rfl d_Mo_byLaw_1 ?_
  refine j_if_ne (tgt := 16) hx d_Mo_byLaw_4 (by decide) (fun zc4 => ?_) (fun zc4 => ?_)
  · skip
    refine j_iconst (v := 0) hx d_Mo_byLaw_16 (by decide) ?_
    refine j_istore_n hx [(1, .int 0), (0, .ref (G.1 111))] d_Mo_byLaw_17 rfl (by decide) rfl ?_
    refine j_iconst (v := 0) hx d_Mo_byLaw_18 (by decide) ?_
    refine j_istore_n hx [(2, .int 0), (1, .int 0), (0, .ref (G.1 111))] d_Mo_byLaw_19 rfl (by decide) rfl ?_
    have hl20 : ∀ (N9 : Nat) (i : Nat), (i ≤ (ct (σ 111 23))) → (ct (σ 111 23)) - i = N9 → J l G X 3 (mlR σ i) 20 [(0, .ref (G.1 111)), (1, .int (nI (dep σ i))), (2, .int (nI i))] [] := by
      intro N9
      induction N9 using Nat.strongRecOn with
      | _ N9 ih20 =>
        intro i hi_i hm20
        have hd := @dep_le σ i
        refine j_iload_n hx d_Mo_byLaw_20 rfl 2 rfl ?_
        refine j_aload_n hx d_Mo_byLaw_21 rfl 0 rfl ?_
        refine j_get hx ck_Mo 23 (by decide) t_1441 (by decide) (sh_111 _ _) rfl d_Mo_byLaw_22 ?_
        refine j_icmp_ge (tgt := 129) hx d_Mo_byLaw_25 (by decide) (fun zc25 => ?_) (fun zc25 => ?_)
        · skip
          obtain rfl := ct_end' hi_i (by have q9 := zc25; rw [mlR_o (by decide)] at q9; exact q9)
          refine j_aload_n hx d_Mo_byLaw_129 rfl 0 rfl ?_
          refine j_get hx ck_Mo 29 (by decide) t_1447 (by decide) (sh_111 _ _) rfl d_Mo_byLaw_130 ?_
          refine j_iconst (v := 0) hx d_Mo_byLaw_133 (by decide) ?_
          have hz134_1 : zin (0) 160 0 := by exact ⟨rfl, by decide⟩
          refine j_ialdk hx ia_120 hz134_1 d_Mo_byLaw_134 ?_
          exact j_iret hx hq rfl d_Mo_byLaw_135 (by first | (exact (if_neg zc4).symm) | fail) (by first | (exact (if_neg zc4).symm) | fail)
        · skip
          have hlt20 := ct_go hi_i (by have q9 := zc25; rw [mlR_o (by decide)] at q9; exact q9)
          refine j_aload_n hx d_Mo_byLaw_28 rfl 0 rfl ?_
          refine j_get hx ck_Mo 25 (by decide) t_1443 (by decide) (sh_111 _ _) rfl d_Mo_byLaw_29 ?_
          refine j_iload_n hx d_Mo_byLaw_32 rfl 2 rfl ?_
          have hz33_2 : zin (nI i) 160 i := by first | exact ⟨rfl, by decide⟩ | exact zin_nI (by omega) (by decide) | exact zin_of (by omega) (by omega)
          refine j_aaldk hx ias_law.1.1 (ias_law.2.1 _ _) hz33_2 d_Mo_byLaw_33 ?_
          refine j_iconst (v := 0) hx d_Mo_byLaw_34 (by decide) ?_
          have hz35_3 : zin (0) 2 0 := by first | exact ⟨rfl, by decide⟩ | exact zin_nI (by omega) (by decide) | exact zin_of (by omega) (by omega)
          refine j_ialdk hx (ias_law.2.2 _ hz33_2.2) hz35_3 d_Mo_byLaw_35 ?_
          refine j_iconst (v := 2) hx d_Mo_byLaw_36 (by decide) ?_
          refine j_icmp_ge (tgt := 87) hx d_Mo_byLaw_37 (by decide) (fun zc37 => ?_) (fun zc37 => ?_)
          · skip
            refine j_iinc hx [(1, .int ((nI (dep σ i)) + (-1))), (0, .ref (G.1 111)), (2, .int (nI i))] d_Mo_byLaw_87 1 rfl rfl (by decide) rfl ?_
            refine J.to (ls' := [(1, .int (nI (dep σ i - 1))), (0, .ref (G.1 111)), (2, .int (nI i))]) rfl (by rw [nI_p (by have := law_d hl hlt20 zc37; omega) (by omega)]) ?_
            refine j_aload_n hx d_Mo_byLaw_90 rfl 1 rfl ?_
            refine j_get hx ck_Mo 29 (by decide) t_1447 (by decide) (sh_111 _ _) rfl d_Mo_byLaw_91 ?_
            refine j_iload_n hx d_Mo_byLaw_94 rfl 0 rfl ?_
            refine j_iconst (v := 1) hx d_Mo_byLaw_95 (by decide) ?_
            refine j_isub hx d_Mo_byLaw_96 ?_
            refine j_aload_n hx d_Mo_byLaw_97 rfl 1 rfl ?_
            refine j_get hx ck_Mo 25 (by decide) t_1443 (by decide) (sh_111 _ _) rfl d_Mo_byLaw_98 ?_
            refine j_iload_n hx d_Mo_byLaw_101 rfl 2 rfl ?_
            have hz102_4 : zin (nI i) 160 i := by first | exact ⟨rfl, by decide⟩ | exact zin_nI (by omega) (by decide) | exact zin_of (by omega) (by omega)
            refine j_aaldk hx ias_law.1.1 (ias_law.2.1 _ _) hz102_4 d_Mo_byLaw_102 ?_
            refine j_iconst (v := 0) hx d_Mo_byLaw_103 (by decide) ?_
            have hz104_5 : zin (0) 2 0 := by first | exact ⟨rfl, by decide⟩ | exact zin_nI (by omega) (by decide) | exact zin_of (by omega) (by omega)
            refine j_ialdk hx (ias_law.2.2 _ hz102_4.2) hz104_5 d_Mo_byLaw_104 ?_
            refine j_aload_n hx d_Mo_byLaw_105 rfl 1 rfl ?_
            refine j_get hx ck_Mo 29 (by decide) t_1447 (by decide) (sh_111 _ _) rfl d_Mo_byLaw_106 ?_
            refine j_iload_n hx d_Mo_byLaw_109 rfl 0 rfl ?_
            refine j_iconst (v := 1) hx d_Mo_byLaw_110 (by decide) ?_
            refine j_isub hx d_Mo_byLaw_111 ?_
            have hz112_6 : zin ((nI (dep σ i - 1)) - 1) 160 ((dep σ i - 2)) := by exact zin_m1 (law_d hl hlt20 zc37) (by omega) (by decide)
            refine j_ialdk hx ia_120 hz112_6 d_Mo_byLaw_112 ?_
            refine j_aload_n hx d_Mo_byLaw_113 rfl 1 rfl ?_
            refine j_get hx ck_Mo 29 (by decide) t_1447 (by decide) (sh_111 _ _) rfl d_Mo_byLaw_114 ?_
            refine j_iload_n hx d_Mo_byLaw_117 rfl 0 rfl ?_
            have hz118_7 : zin (nI (dep σ i - 1)) 160 ((dep σ i - 1)) := by exact zin_nI (by have := law_d hl hlt20 zc37; omega) (by decide)
            refine j_ialdk hx ia_120 hz118_7 d_Mo_byLaw_118 ?_
            refine j_callSi hx (c_Mo_by hG (mlR σ i) ((mlR σ i) (167 + i) 0) ((mlR σ i) 120 ((dep σ i - 2))) ((mlR σ i) 120 ((dep σ i - 1)))) mo_Mo_by t_1761 t_1760 (by decide) rfl rfl (Nat.le_of_ble_eq_true rfl) d_Mo_byLaw_119 ?_
            have hz122_8 : zin ((nI (dep σ i - 1)) - 1) 160 ((dep σ i - 2)) := by exact zin_m1 (law_d hl hlt20 zc37) (by omega) (by decide)
            refine j_iastk hx ia_120 hz122_8 d_Mo_byLaw_122 ?_
            obtain ⟨s9_1, eg_1⟩ : ∃ z : St, z = mlR σ (i + 1) := ⟨_, rfl⟩
            refine J.to (σ' := s9_1) (by rw [eg_1]; first | exact mlR_1 zc37 zc53 | exact mlR_2 zc37 zc53 | exact mlR_3 zc37) rfl ?_
            refine j_iinc hx [(2, .int ((nI i) + 1)), (1, .int (nI (dep σ i - 1))), (0, .ref (G.1 111))] d_Mo_byLaw_123 2 rfl rfl (by decide) rfl ?_
            refine j_goto (tgt := 20) hx d_Mo_byLaw_126 (by decide) ?_
            refine J.lsub (ls' := [(0, .ref (G.1 111)), (1, .int (nI (dep σ i - 1))), (2, .int ((nI i) + 1))]) [2, 1, 0] rfl ?_
            refine J.to ?_ ?_ (ih20 _ ?_ (i + 1) hlt20 rfl)
            · first | (exact eg_1) | fail
            · first | (simp only [nI_s]; first | (rw [dep_1 zc37]; done) | (rw [dep_2 zc37]; done)) | fail
            · first | (omega) | fail
          · skip
            refine j_aload_n hx d_Mo_byLaw_40 rfl 0 rfl ?_
            refine j_get hx ck_Mo 29 (by decide) t_1447 (by decide) (sh_111 _ _) rfl d_Mo_byLaw_41 ?_
            refine j_iload_n hx d_Mo_byLaw_44 rfl 1 rfl ?_
            refine j_aload_n hx d_Mo_byLaw_45 rfl 0 rfl ?_
            refine j_get hx ck_Mo 25 (by decide) t_1443 (by decide) (sh_111 _ _) rfl d_Mo_byLaw_46 ?_
            refine j_iload_n hx d_Mo_byLaw_49 rfl 2 rfl ?_
            have hz50_9 : zin (nI i) 160 i := by first | exact ⟨rfl, by decide⟩ | exact zin_nI (by omega) (by decide) | exact zin_of (by omega) (by omega)
            refine j_aaldk hx ias_law.1.1 (ias_law.2.1 _ _) hz50_9 d_Mo_byLaw_50 ?_
            refine j_iconst (v := 0) hx d_Mo_byLaw_51 (by decide) ?_
            have hz52_10 : zin (0) 2 0 := by first | exact ⟨rfl, by decide⟩ | exact zin_nI (by omega) (by decide) | exact zin_of (by omega) (by omega)
            refine j_ialdk hx (ias_law.2.2 _ hz50_9.2) hz52_10 d_Mo_byLaw_52 ?_
            refine j_if_ne (tgt := 67) hx d_Mo_byLaw_53 (by decide) (fun zc53 => ?_) (fun zc53 => ?_)
            · skip
              refine j_aload_n hx d_Mo_byLaw_67 rfl 0 rfl ?_
              refine j_get hx ck_Mo 30 (by decide) t_1448 (by decide) (sh_111 _ _) rfl d_Mo_byLaw_68 ?_
              refine j_aload_n hx d_Mo_byLaw_71 rfl 0 rfl ?_
              refine j_get hx ck_Mo 25 (by decide) t_1443 (by decide) (sh_111 _ _) rfl d_Mo_byLaw_72 ?_
              refine j_iload_n hx d_Mo_byLaw_75 rfl 2 rfl ?_
              have hz76_11 : zin (nI i) 160 i := by first | exact ⟨rfl, by decide⟩ | exact zin_nI (by omega) (by decide) | exact zin_of (by omega) (by omega)
              refine j_aaldk hx ias_law.1.1 (ias_law.2.1 _ _) hz76_11 d_Mo_byLaw_76 ?_
              refine j_iconst (v := 1) hx d_Mo_byLaw_77 (by decide) ?_
              have hz78_12 : zin (1) 2 1 := by first | exact ⟨rfl, by decide⟩ | exact zin_nI (by omega) (by decide) | exact zin_of (by omega) (by omega)
              refine j_ialdk hx (ias_law.2.2 _ hz76_11.2) hz78_12 d_Mo_byLaw_78 ?_
              have hz79_13 : zin ((mlR σ i) (167 + i) 1) 9 ((σ (167 + i) 1).toInt.toNat) := by exact law_z hl hlt20 zc37 zc53
              refine j_ialdk hx ia_121 hz79_13 d_Mo_byLaw_79 ?_
              have hz80_14 : zin (nI (dep σ i)) 160 ((dep σ i)) := by first | exact ⟨rfl, by decide⟩ | exact zin_nI (by omega) (by decide) | exact zin_of (by omega) (by omega)
              refine j_iastk hx ia_120 hz80_14 d_Mo_byLaw_80 ?_
              refine j_iinc hx [(1, .int ((nI (dep σ i)) + 1)), (0, .ref (G.1 111)), (2, .int (nI i))] d_Mo_byLaw_81 1 rfl rfl (by decide) rfl ?_
              refine j_goto (tgt := 123) hx d_Mo_byLaw_84 (by decide) ?_
              obtain ⟨s9_1, eg_1⟩ : ∃ z : St, z = mlR σ (i + 1) := ⟨_, rfl⟩
              refine J.to (σ' := s9_1) (by rw [eg_1]; first | exact mlR_1 zc37 zc53 | exact mlR_2 zc37 zc53 | exact mlR_3 zc37) rfl ?_
              refine j_iinc hx [(2, .int ((nI i) + 1)), (1, .int ((nI (dep σ i)) + 1)), (0, .ref (G.1 111))] d_Mo_byLaw_123 2 rfl rfl (by decide) rfl ?_
              refine j_goto (tgt := 20) hx d_Mo_byLaw_126 (by decide) ?_
              refine J.lsub (ls' := [(0, .ref (G.1 111)), (1, .int ((nI (dep σ i)) + 1)), (2, .int ((nI i) + 1))]) [2, 1, 0] rfl ?_
              refine J.to ?_ ?_ (ih20 _ ?_ (i + 1) hlt20 rfl)
              · first | (exact eg_1) | fail
              · first | (simp only [nI_s]; first | (rw [dep_1 zc37]; done) | (rw [dep_2 zc37]; done)) | fail
              · first | (omega) | fail
            · skip
              refine j_aload_n hx d_Mo_byLaw_56 rfl 0 rfl ?_
              refine j_get hx ck_Mo 25 (by decide) t_1443 (by decide) (sh_111 _ _) rfl d_Mo_byLaw_57 ?_
              refine j_iload_n hx d_Mo_byLaw_60 rfl 2 rfl ?_
              have hz61_15 : zin (nI i) 160 i := by first | exact ⟨rfl, by decide⟩ | exact zin_nI (by omega) (by decide) | exact zin_of (by omega) (by omega)
              refine j_aaldk hx ias_law.1.1 (ias_law.2.1 _ _) hz61_15 d_Mo_byLaw_61 ?_
              refine j_iconst (v := 1) hx d_Mo_byLaw_62 (by decide) ?_
              have hz63_16 : zin (1) 2 1 := by first | exact ⟨rfl, by decide⟩ | exact zin_nI (by omega) (by decide) | exact zin_of (by omega) (by omega)
              refine j_ialdk hx (ias_law.2.2 _ hz61_15.2) hz63_16 d_Mo_byLaw_63 ?_
              refine j_goto (tgt := 80) hx d_Mo_byLaw_64 (by decide) ?_
              have hz80_17 : zin (nI (dep σ i)) 160 ((dep σ i)) := by first | exact ⟨rfl, by decide⟩ | exact zin_nI (by omega) (by decide) | exact zin_of (by omega) (by omega)
              refine j_iastk hx ia_120 hz80_17 d_Mo_byLaw_80 ?_
              refine j_iinc hx [(1, .int ((nI (dep σ i)) + 1)), (0, .ref (G.1 111)), (2, .int (nI i))] d_Mo_byLaw_81 1 rfl rfl (by decide) rfl ?_
              refine j_goto (tgt := 123) hx d_Mo_byLaw_84 (by decide) ?_
              obtain ⟨s9_1, eg_1⟩ : ∃ z : St, z = mlR σ (i + 1) := ⟨_, rfl⟩
              refine J.to (σ' := s9_1) (by rw [eg_1]; first | exact mlR_1 zc37 zc53 | exact mlR_2 zc37 zc53 | exact mlR_3 zc37) rfl ?_
              refine j_iinc hx [(2, .int ((nI i) + 1)), (1, .int ((nI (dep σ i)) + 1)), (0, .ref (G.1 111))] d_Mo_byLaw_123 2 rfl rfl (by decide) rfl ?_
              refine j_goto (tgt := 20) hx d_Mo_byLaw_126 (by decide) ?_
              refine J.lsub (ls' := [(0, .ref (G.1 111)), (1, .int ((nI (dep σ i)) + 1)), (2, .int ((nI i) + 1))]) [2, 1, 0] rfl ?_
              refine J.to ?_ ?_ (ih20 _ ?_ (i + 1) hlt20 rfl)
              · first | (exact eg_1) | fail
              · first | (simp only [nI_s]; first | (rw [dep_1 zc37]; done) | (rw [dep_2 zc37]; done)) | fail
              · first | (omega) | fail
    refine J.lsub (ls' := [(0, .ref (G.1 111)), (1, .int 0), (2, .int 0)]) [2, 1, 0] rfl ?_
    refine J.to ?_ ?_ (hl20 _ 0 (Nat.zero_le _) rfl)
    · first | (rfl) | fail
    · first | (rfl) | fail
  · skip
    refine j_aload_n hx d_Mo_byLaw_7 rfl 0 rfl ?_
    refine j_get hx ck_Mo 30 (by decide) t_1448 (by decide) (sh_111 _ _) rfl d_Mo_byLaw_8 ?_
    refine j_iconst (v := 0) hx d_Mo_byLaw_11 (by decide) ?_
    have hz12_18 : zin (0) 9 0 := by first | exact ⟨rfl, by decide⟩ | exact zin_nI (by omega) (by decide) | exact zin_of (by omega) (by omega)
    refine j_ialdk hx ia_121 hz12_18 d_Mo_byLaw_12 ?_
    refine j_iconst (v := 1) hx d_Mo_byLaw_13 (by decide) ?_
    refine j_isub hx d_Mo_byLaw_14 ?_
    exact j_iret hx hq rfl d_Mo_byLaw_15 (by first | (exact (if_pos zc4).symm) | fail) (by first | (exact (if_pos zc4).symm) | fail)

set_option maxRecDepth 20000 in
set_option maxHeartbeats 4000000 in
theorem c_Mo_isIn {l : Launch} {G : Gz} (hG : zI G) (σ : St) (s : Nat) (seen : Int32) (dark : Int32) (m : Int32) (c : Int32) (ng : Int32) (fg : Int32) (hs : s < 6) (hl : lawOK σ) : MI l G y_Mo_isIn prog_14_method_51_code 8 .boolean 4 [.ref (G.1 111), .int (nI s), .int seen, .int dark, .int m, .int c, .int ng, .int fg] σ (b2 (0 < mbV (knS σ s seen dark m c ng fg))) (mbS (knS σ s seen dark m c ng fg)) := by
  refine MI.of hG (by decide) (Nat.le_of_ble_eq_true rfl) (fun X hx hq => ?_)
  show J l G X 8 σ 0 [(0, .ref (G.1 111)), (1, .int (nI s)), (2, .int seen), (3, .int dark), (4, .int m), (5, .int c), (6, .int ng), (7, .int fg)] []
  refine j_aload_n hx d_Mo_isIn_0 rfl 0 rfl ?_
  refine j_get hx ck_Mo 30 (by decide) t_1448 (by decide) (sh_111 _ _) rfl d_Mo_isIn_1 ?_
  refine j_iconst (v := 0) hx d_Mo_isIn_4 (by decide) ?_
  refine j_iload_n hx d_Mo_isIn_5 rfl 2 rfl ?_
  have hz6_1 : zin (0) 9 0 := by first | exact ⟨rfl, by decide⟩ | exact zin_nI (by omega) (by decide) | exact zin_of (by omega) (by omega)
  refine j_iastk hx ia_121 hz6_1 d_Mo_isIn_6 ?_
  refine j_aload_n hx d_Mo_isIn_7 rfl 0 rfl ?_
  refine j_get hx ck_Mo 30 (by decide) t_1448 (by decide) (sh_111 _ _) rfl d_Mo_isIn_8 ?_
  refine j_iconst (v := 1) hx d_Mo_isIn_11 (by decide) ?_
  refine j_iload_n hx d_Mo_isIn_12 rfl 3 rfl ?_
  have hz13_2 : zin (1) 9 1 := by first | exact ⟨rfl, by decide⟩ | exact zin_nI (by omega) (by decide) | exact zin_of (by omega) (by omega)
  refine j_iastk hx ia_121 hz13_2 d_Mo_isIn_13 ?_
  refine j_aload_n hx d_Mo_isIn_14 rfl 0 rfl ?_
  refine j_get hx ck_Mo 30 (by decide) t_1448 (by decide) (sh_111 _ _) rfl d_Mo_isIn_15 ?_
  refine j_iconst (v := 2) hx d_Mo_isIn_18 (by decide) ?_
  refine j_iload hx d_Mo_isIn_19 4 rfl ?_
  have hz21_3 : zin (2) 9 2 := by first | exact ⟨rfl, by decide⟩ | exact zin_nI (by omega) (by decide) | exact zin_of (by omega) (by omega)
  refine j_iastk hx ia_121 hz21_3 d_Mo_isIn_21 ?_
  refine j_aload_n hx d_Mo_isIn_22 rfl 0 rfl ?_
  refine j_get hx ck_Mo 30 (by decide) t_1448 (by decide) (sh_111 _ _) rfl d_Mo_isIn_23 ?_
  refine j_iconst (v := 3) hx d_Mo_isIn_26 (by decide) ?_
  refine j_iload hx d_Mo_isIn_27 5 rfl ?_
  have hz29_4 : zin (3) 9 3 := by first | exact ⟨rfl, by decide⟩ | exact zin_nI (by omega) (by decide) | exact zin_of (by omega) (by omega)
  refine j_iastk hx ia_121 hz29_4 d_Mo_isIn_29 ?_
  refine j_aload_n hx d_Mo_isIn_30 rfl 0 rfl ?_
  refine j_get hx ck_Mo 30 (by decide) t_1448 (by decide) (sh_111 _ _) rfl d_Mo_isIn_31 ?_
  refine j_iconst (v := 4) hx d_Mo_isIn_34 (by decide) ?_
  refine j_aload_n hx d_Mo_isIn_35 rfl 0 rfl ?_
  refine j_get hx ck_Mo 22 (by decide) t_1440 (by decide) (sh_111 _ _) rfl d_Mo_isIn_36 ?_
  refine j_iload_n hx d_Mo_isIn_39 rfl 1 rfl ?_
  have hz40_5 : zin (nI s) 6 s := by first | exact ⟨rfl, by decide⟩ | exact zin_nI (by omega) (by decide) | exact zin_of (by omega) (by omega)
  refine j_aaldk hx ias_ship.1.1 (ias_ship.2.1 _ _) hz40_5 d_Mo_isIn_40 ?_
  refine j_iconst (v := 2) hx d_Mo_isIn_41 (by decide) ?_
  have hz42_6 : zin (2) 4 2 := by first | exact ⟨rfl, by decide⟩ | exact zin_nI (by omega) (by decide) | exact zin_of (by omega) (by omega)
  refine j_ialdk hx (ias_ship.2.2 _ hz40_5.2) hz42_6 d_Mo_isIn_42 ?_
  have hz43_7 : zin (4) 9 4 := by first | exact ⟨rfl, by decide⟩ | exact zin_nI (by omega) (by decide) | exact zin_of (by omega) (by omega)
  refine j_iastk hx ia_121 hz43_7 d_Mo_isIn_43 ?_
  refine j_aload_n hx d_Mo_isIn_44 rfl 0 rfl ?_
  refine j_get hx ck_Mo 30 (by decide) t_1448 (by decide) (sh_111 _ _) rfl d_Mo_isIn_45 ?_
  refine j_iconst (v := 5) hx d_Mo_isIn_48 (by decide) ?_
  refine j_aload_n hx d_Mo_isIn_49 rfl 0 rfl ?_
  refine j_get hx ck_Mo 22 (by decide) t_1440 (by decide) (sh_111 _ _) rfl d_Mo_isIn_50 ?_
  refine j_iload_n hx d_Mo_isIn_53 rfl 1 rfl ?_
  have hz54_8 : zin (nI s) 6 s := by first | exact ⟨rfl, by decide⟩ | exact zin_nI (by omega) (by decide) | exact zin_of (by omega) (by omega)
  refine j_aaldk hx ias_ship.1.1 (ias_ship.2.1 _ _) hz54_8 d_Mo_isIn_54 ?_
  refine j_iconst (v := 3) hx d_Mo_isIn_55 (by decide) ?_
  have hz56_9 : zin (3) 4 3 := by first | exact ⟨rfl, by decide⟩ | exact zin_nI (by omega) (by decide) | exact zin_of (by omega) (by omega)
  refine j_ialdk hx (ias_ship.2.2 _ hz54_8.2) hz56_9 d_Mo_isIn_56 ?_
  have hz57_10 : zin (5) 9 5 := by first | exact ⟨rfl, by decide⟩ | exact zin_nI (by omega) (by decide) | exact zin_of (by omega) (by omega)
  refine j_iastk hx ia_121 hz57_10 d_Mo_isIn_57 ?_
  refine j_aload_n hx d_Mo_isIn_58 rfl 0 rfl ?_
  refine j_get hx ck_Mo 30 (by decide) t_1448 (by decide) (sh_111 _ _) rfl d_Mo_isIn_59 ?_
  refine j_bipush (v := 6) hx d_Mo_isIn_62 (by decide) ?_
  refine j_aload_n hx d_Mo_isIn_64 rfl 0 rfl ?_
  refine j_get hx ck_Mo 22 (by decide) t_1440 (by decide) (sh_111 _ _) rfl d_Mo_isIn_65 ?_
  refine j_iload_n hx d_Mo_isIn_68 rfl 1 rfl ?_
  have hz69_11 : zin (nI s) 6 s := by first | exact ⟨rfl, by decide⟩ | exact zin_nI (by omega) (by decide) | exact zin_of (by omega) (by omega)
  refine j_aaldk hx ias_ship.1.1 (ias_ship.2.1 _ _) hz69_11 d_Mo_isIn_69 ?_
  refine j_iconst (v := 1) hx d_Mo_isIn_70 (by decide) ?_
  have hz71_12 : zin (1) 4 1 := by first | exact ⟨rfl, by decide⟩ | exact zin_nI (by omega) (by decide) | exact zin_of (by omega) (by omega)
  refine j_ialdk hx (ias_ship.2.2 _ hz69_11.2) hz71_12 d_Mo_isIn_71 ?_
  have hz72_13 : zin (6) 9 6 := by first | exact ⟨rfl, by decide⟩ | exact zin_nI (by omega) (by decide) | exact zin_of (by omega) (by omega)
  refine j_iastk hx ia_121 hz72_13 d_Mo_isIn_72 ?_
  refine j_aload_n hx d_Mo_isIn_73 rfl 0 rfl ?_
  refine j_get hx ck_Mo 30 (by decide) t_1448 (by decide) (sh_111 _ _) rfl d_Mo_isIn_74 ?_
  refine j_bipush (v := 7) hx d_Mo_isIn_77 (by decide) ?_
  refine j_iload hx d_Mo_isIn_79 6 rfl ?_
  have hz81_14 : zin (7) 9 7 := by first | exact ⟨rfl, by decide⟩ | exact zin_nI (by omega) (by decide) | exact zin_of (by omega) (by omega)
  refine j_iastk hx ia_121 hz81_14 d_Mo_isIn_81 ?_
  refine j_aload_n hx d_Mo_isIn_82 rfl 0 rfl ?_
  refine j_get hx ck_Mo 30 (by decide) t_1448 (by decide) (sh_111 _ _) rfl d_Mo_isIn_83 ?_
  refine j_bipush (v := 8) hx d_Mo_isIn_86 (by decide) ?_
  refine j_iload hx d_Mo_isIn_88 7 rfl ?_
  have hz90_15 : zin (8) 9 8 := by first | exact ⟨rfl, by decide⟩ | exact zin_nI (by omega) (by decide) | exact zin_of (by omega) (by omega)
  refine j_iastk hx ia_121 hz90_15 d_Mo_isIn_90 ?_
  obtain ⟨s9_1, eg_1⟩ : ∃ z : St, z = knS σ s seen dark m c ng fg := ⟨_, rfl⟩
  refine J.to (σ' := s9_1) (by rw [eg_1]; unfold knS kn2 kn1; simp only [up_o (show 161 + s ≠ 121 by omega)]) rfl ?_
  refine j_aload_n hx d_Mo_isIn_91 rfl 0 rfl ?_
  refine j_callVi hx (c_Mo_byLaw hG s9_1 (by rw [eg_1]; exact sq.rf.kn.law hl)) mo_Mo_byLaw mv_Mo_byLaw t_1756 (by decide) rfl (by decide) (sh_111 _ _) rfl rfl (Nat.le_of_ble_eq_true rfl) d_Mo_isIn_92 ?_
  refine j_if_le (tgt := 102) hx d_Mo_isIn_95 (by decide) (fun zc95 => ?_) (fun zc95 => ?_)
  · skip
    refine j_iconst (v := 0) hx d_Mo_isIn_102 (by decide) ?_
    exact j_iret hx hq rfl d_Mo_isIn_103 (by first | (rw [eg_1] at zc95; first | exact (b2_t (p := 0 < mbV (knS σ s seen dark m c ng fg)) (i_nle zc95)).symm | exact (b2_f (p := 0 < mbV (knS σ s seen dark m c ng fg)) (i_lelt zc95)).symm) | fail) (by first | (rw [eg_1]) | fail)
  · skip
    refine j_iconst (v := 1) hx d_Mo_isIn_98 (by decide) ?_
    refine j_goto (tgt := 103) hx d_Mo_isIn_99 (by decide) ?_
    exact j_iret hx hq rfl d_Mo_isIn_103 (by first | (rw [eg_1] at zc95; first | exact (b2_t (p := 0 < mbV (knS σ s seen dark m c ng fg)) (i_nle zc95)).symm | exact (b2_f (p := 0 < mbV (knS σ s seen dark m c ng fg)) (i_lelt zc95)).symm) | fail) (by first | (rw [eg_1]) | fail)

set_option maxRecDepth 20000 in
set_option maxHeartbeats 4000000 in
theorem c_Mo_isReef {l : Launch} {G : Gz} (hG : zI G) (σ : St) (s : Nat) (c : Nat) (hs : s < 6) (hc : c < 12) : MI l G y_Mo_isReef prog_14_method_52_code 3 .boolean 1 [.ref (G.1 111), .int (nI s), .int (nI c)] σ (b2 (mrP σ s c)) σ := by
  refine MI.of hG (by decide) (Nat.le_of_ble_eq_true rfl) (fun X hx hq => ?_)
  show J l G X 3 σ 0 [(0, .ref (G.1 111)), (1, .int (nI s)), (2, .int (nI c))] []
  refine j_aload_n hx d_Mo_isReef_0 rfl 0 rfl ?_
  refine j_get hx ck_Mo 14 (by decide) t_1432 (by decide) (sh_111 _ _) rfl d_Mo_isReef_1 ?_
  refine j_iload_n hx d_Mo_isReef_4 rfl 2 rfl ?_
  have hz5_1 : zin (nI c) 12 c := by first | exact ⟨rfl, by decide⟩ | exact zin_nI (by omega) (by decide) | exact zin_of (by omega) (by omega)
  refine j_ialdk hx ia_117 hz5_1 d_Mo_isReef_5 ?_
  refine j_if_le (tgt := 33) hx d_Mo_isReef_6 (by decide) (fun zc6 => ?_) (fun zc6 => ?_)
  · skip
    refine j_iconst (v := 0) hx d_Mo_isReef_33 (by decide) ?_
    exact j_iret hx hq rfl d_Mo_isReef_34 (by first | (first | exact (b2_t (p := mrP σ s c) ⟨i_nle zc6, i_nlt zc26⟩).symm | exact (b2_f (p := mrP σ s c) (fun z => i_lelt zc6 z.1)).symm | exact (b2_f (p := mrP σ s c) (fun z => i_lle zc26 z.2)).symm) | fail) (by first | (first | rfl | (simp only [zc6]; done) | (simp [zc6]; done)) | fail)
  · skip
    refine j_aload_n hx d_Mo_isReef_9 rfl 0 rfl ?_
    refine j_get hx ck_Mo 14 (by decide) t_1432 (by decide) (sh_111 _ _) rfl d_Mo_isReef_10 ?_
    refine j_iload_n hx d_Mo_isReef_13 rfl 2 rfl ?_
    have hz14_2 : zin (nI c) 12 c := by first | exact ⟨rfl, by decide⟩ | exact zin_nI (by omega) (by decide) | exact zin_of (by omega) (by omega)
    refine j_ialdk hx ia_117 hz14_2 d_Mo_isReef_14 ?_
    refine j_aload_n hx d_Mo_isReef_15 rfl 0 rfl ?_
    refine j_get hx ck_Mo 22 (by decide) t_1440 (by decide) (sh_111 _ _) rfl d_Mo_isReef_16 ?_
    refine j_iload_n hx d_Mo_isReef_19 rfl 1 rfl ?_
    have hz20_3 : zin (nI s) 6 s := by first | exact ⟨rfl, by decide⟩ | exact zin_nI (by omega) (by decide) | exact zin_of (by omega) (by omega)
    refine j_aaldk hx ias_ship.1.1 (ias_ship.2.1 _ _) hz20_3 d_Mo_isReef_20 ?_
    refine j_iconst (v := 3) hx d_Mo_isReef_21 (by decide) ?_
    have hz22_4 : zin (3) 4 3 := by first | exact ⟨rfl, by decide⟩ | exact zin_nI (by omega) (by decide) | exact zin_of (by omega) (by omega)
    refine j_ialdk hx (ias_ship.2.2 _ hz20_3.2) hz22_4 d_Mo_isReef_22 ?_
    refine j_iadd hx d_Mo_isReef_23 ?_
    refine j_bipush (v := 6) hx d_Mo_isReef_24 (by decide) ?_
    refine j_icmp_lt (tgt := 33) hx d_Mo_isReef_26 (by decide) (fun zc26 => ?_) (fun zc26 => ?_)
    · skip
      refine j_iconst (v := 0) hx d_Mo_isReef_33 (by decide) ?_
      exact j_iret hx hq rfl d_Mo_isReef_34 (by first | (first | exact (b2_t (p := mrP σ s c) ⟨i_nle zc6, i_nlt zc26⟩).symm | exact (b2_f (p := mrP σ s c) (fun z => i_lelt zc6 z.1)).symm | exact (b2_f (p := mrP σ s c) (fun z => i_lle zc26 z.2)).symm) | fail) (by first | (first | rfl | (simp only [zc6, zc26]; done) | (simp [zc6, zc26]; done)) | fail)
    · skip
      refine j_iconst (v := 1) hx d_Mo_isReef_29 (by decide) ?_
      refine j_goto (tgt := 34) hx d_Mo_isReef_30 (by decide) ?_
      exact j_iret hx hq rfl d_Mo_isReef_34 (by first | (first | exact (b2_t (p := mrP σ s c) ⟨i_nle zc6, i_nlt zc26⟩).symm | exact (b2_f (p := mrP σ s c) (fun z => i_lelt zc6 z.1)).symm | exact (b2_f (p := mrP σ s c) (fun z => i_lle zc26 z.2)).symm) | fail) (by first | (first | rfl | (simp only [zc6, zc26]; done) | (simp [zc6, zc26]; done)) | fail)

set_option maxRecDepth 20000 in
set_option maxHeartbeats 4000000 in
theorem c_Mo_tries {l : Launch} {G : Gz} (hG : zI G) {o : Nat} (ho_o : isArr o 31) (σ : St) (s : Nat) (hs : s < 6) (hw : mW σ) (hr : rW σ o) (ho1 : o ≠ 111) (ho2 : o ≠ 120) (ho3 : o ≠ 121) : MV l G y_Mo_tries prog_14_method_53_code 6 5 [.ref (G.1 111), .ref (G.1 o), .int (nI s)] σ (trF σ o s) := by
  refine MV.of hG (by decide) (Nat.le_of_ble_eq_true rfl) (fun X hx hq => ?_)
  show J l G X 6 σ 0 [(0, .ref (G.1 111)), (1, .ref (G.1 o)), (2, .int (nI s))] []
  have hb1 : ct (σ 115 1) ≤ 6 := hw.1.2.1
  have hb2 : ct (σ 115 2) ≤ 3 := hw.1.2.2.1
  have hb0 : ct (σ 115 0) ≤ 12 := hw.1.1
  have hb3 : ct (σ 115 3) ≤ 6 := hw.1.2.2.2.1
  have hb4 : ct (σ 115 4) ≤ 6 := hw.1.2.2.2.2
  refine j_aload_n hx d_Mo_tries_0 rfl 0 rfl ?_
  refine j_iconst (v := (-1)) hx d_Mo_tries_1 (by decide) ?_
  refine j_put hx ck_Mo 42 (by decide) t_1460 (by decide) (sh_111 _ _) rfl (Nat.le_of_ble_eq_true rfl) (sh_111 _ _) d_Mo_tries_2 ?_
  refine j_aload_n hx d_Mo_tries_5 rfl 0 rfl ?_
  refine j_iconst (v := 0) hx d_Mo_tries_6 (by decide) ?_
  refine j_put hx ck_Mo 43 (by decide) t_1461 (by decide) (sh_111 _ _) rfl (Nat.le_of_ble_eq_true rfl) (sh_111 _ _) d_Mo_tries_7 ?_
  refine j_aload_n hx d_Mo_tries_10 rfl 0 rfl ?_
  refine j_iconst (v := 0) hx d_Mo_tries_11 (by decide) ?_
  refine j_put hx ck_Mo 44 (by decide) t_1462 (by decide) (sh_111 _ _) rfl (Nat.le_of_ble_eq_true rfl) (sh_111 _ _) d_Mo_tries_12 ?_
  refine j_aload_n hx d_Mo_tries_15 rfl 0 rfl ?_
  refine j_iconst (v := (-1)) hx d_Mo_tries_16 (by decide) ?_
  refine j_put hx ck_Mo 45 (by decide) t_1463 (by decide) (sh_111 _ _) rfl (Nat.le_of_ble_eq_true rfl) (sh_111 _ _) d_Mo_tries_17 ?_
  obtain ⟨s9_1, eg_1⟩ : ∃ z : St, z = tr0 σ := ⟨_, rfl⟩
  refine J.to (σ' := s9_1) (by rw [eg_1]; first | done | rfl) rfl ?_
  refine j_iconst (v := 0) hx d_Mo_tries_20 (by decide) ?_
  refine j_istore_n hx [(3, .int 0), (0, .ref (G.1 111)), (1, .ref (G.1 o)), (2, .int (nI s))] d_Mo_tries_21 rfl (by decide) rfl ?_
  refine j_iconst (v := 0) hx d_Mo_tries_22 (by decide) ?_
  refine j_istore hx [(4, .int 0), (3, .int 0), (0, .ref (G.1 111)), (1, .ref (G.1 o)), (2, .int (nI s))] d_Mo_tries_23 (by decide) rfl ?_
  have hl25 : ∀ (N9 : Nat) (i : Nat) (la : Int32) (t : St), (i ≤ ct (σ 115 0)) → (trR o s (ct (σ 115 0) - i) i la t = trF σ o s) → (sq σ t) → (ct (σ 115 0)) - i = N9 → J l G X 6 t 25 [(0, .ref (G.1 111)), (1, .ref (G.1 o)), (2, .int (nI s)), (3, .int la), (4, .int (nI i))] [] := by
    intro N9
    induction N9 using Nat.strongRecOn with
    | _ N9 ih25 =>
      intro i la t hi_i hr9 hq9 hm25
      refine j_iload hx d_Mo_tries_25 4 rfl ?_
      refine j_aload_n hx d_Mo_tries_27 rfl 0 rfl ?_
      refine j_get hx ck_Mo 12 (by decide) t_1430 (by decide) (sh_111 _ _) rfl d_Mo_tries_28 ?_
      refine j_iconst (v := 0) hx d_Mo_tries_31 (by decide) ?_
      have hz32_1 : zin (0) 6 0 := by first | exact ⟨rfl, by decide⟩ | exact zin_nI (by omega) (by decide) | exact zin_of (by omega) (by omega)
      refine j_ialdk hx ia_115 hz32_1 d_Mo_tries_32 ?_
      refine j_icmp_ge (tgt := 172) hx d_Mo_tries_33 (by decide) (fun zc33 => ?_) (fun zc33 => ?_)
      · skip
        obtain rfl := ct_end' hi_i (by have q9 := zc33; rw [hq9.o (by decide) (by decide) (by decide)] at q9; exact q9)
        exact j_vret hx hq d_Mo_tries_172 (by first | (first | (exact trR_end.symm.trans hr9) | (exact (trR_stop zc41).symm.trans hr9)) | fail)
      · skip
        have hlt25 := ct_go hi_i (by have q9 := zc33; rw [hq9.o (by decide) (by decide) (by decide)] at q9; exact q9)
        refine j_aload_n hx d_Mo_tries_36 rfl 0 rfl ?_
        refine j_get hx ck_Mo 42 (by decide) t_1460 (by decide) (sh_111 _ _) rfl d_Mo_tries_37 ?_
        refine j_iconst (v := (-1)) hx d_Mo_tries_40 (by decide) ?_
        refine j_icmp_ne (tgt := 172) hx d_Mo_tries_41 (by decide) (fun zc41 => ?_) (fun zc41 => ?_)
        · skip
          exact j_vret hx hq d_Mo_tries_172 (by first | (first | (exact trR_end.symm.trans hr9) | (exact (trR_stop zc41).symm.trans hr9)) | fail)
        · skip
          refine j_aload_n hx d_Mo_tries_44 rfl 0 rfl ?_
          refine j_aload_n hx d_Mo_tries_45 rfl 1 rfl ?_
          refine j_iload hx d_Mo_tries_46 4 rfl ?_
          refine j_iload hx d_Mo_tries_48 4 rfl ?_
          refine j_callVi hx (c_Mo_seenBy hG ho_o t (nI i) (nI i) (by exact hq9.w hw) (by exact hq9.r ho1 ho2 ho3 hr)) mo_Mo_seenBy mv_Mo_seenBy t_1731 (by decide) rfl (by decide) (sh_111 _ _) rfl rfl (Nat.le_of_ble_eq_true rfl) d_Mo_tries_50 ?_
          refine j_istore hx [(5, .int (msb t o (nI i) (nI i))), (0, .ref (G.1 111)), (1, .ref (G.1 o)), (2, .int (nI s)), (3, .int la), (4, .int (nI i))] d_Mo_tries_53 (by decide) rfl ?_
          refine j_iload hx d_Mo_tries_55 0 rfl ?_
          refine j_if_le (tgt := 65) hx d_Mo_tries_57 (by decide) (fun zc57 => ?_) (fun zc57 => ?_)
          · skip
            refine j_iload_n hx d_Mo_tries_65 rfl 4 rfl ?_
            refine j_istore_n hx [(3, .int la), (5, .int (msb t o (nI i) (nI i))), (0, .ref (G.1 111)), (1, .ref (G.1 o)), (2, .int (nI s)), (4, .int (nI i))] d_Mo_tries_66 rfl (by decide) rfl ?_
            obtain ⟨w3, ew3⟩ : ∃ z : Int32, z = trL t o i la := ⟨_, rfl⟩
            refine J.to (ls' := [(3, .int w3), (5, .int (msb t o (nI i) (nI i))), (0, .ref (G.1 111)), (1, .ref (G.1 o)), (2, .int (nI s)), (4, .int (nI i))]) rfl (by rw [ew3]; unfold trL; first | (rw [if_pos zc57]; done) | (rw [if_neg zc57]; done)) ?_
            refine j_aload_n hx d_Mo_tries_67 rfl 2 rfl ?_
            refine j_iload hx d_Mo_tries_68 1 rfl ?_
            refine j_if_ne (tgt := 86) hx d_Mo_tries_70 (by decide) (fun zc70 => ?_) (fun zc70 => ?_)
            · skip
              refine j_aload_n hx d_Mo_tries_86 rfl 2 rfl ?_
              refine j_get hx ck_Mo 45 (by decide) t_1463 (by decide) (sh_111 _ _) rfl d_Mo_tries_87 ?_
              refine j_put hx ck_Mo 45 (by decide) t_1463 (by decide) (sh_111 _ _) rfl (Nat.le_of_ble_eq_true rfl) (sh_111 _ _) d_Mo_tries_90 ?_
              obtain ⟨s9_2, eg_2⟩ : ∃ z : St, z = tr1 t o i := ⟨_, rfl⟩
              refine J.to (σ' := s9_2) (by rw [eg_2]; unfold tr1; first | (rw [if_pos ⟨zc70, zc78⟩]; done) | (rw [if_neg (fun z => zc78 z.2)]; done) | (rw [if_neg (fun z => zc70 z.1)]; done)) rfl ?_
              refine j_aload_n hx d_Mo_tries_93 rfl 2 rfl ?_
              refine j_dup hx d_Mo_tries_94 rfl ?_
              refine j_get hx ck_Mo 44 (by decide) t_1462 (by decide) (sh_111 _ _) rfl d_Mo_tries_95 ?_
              refine j_iload hx d_Mo_tries_98 1 rfl ?_
              refine j_iadd hx d_Mo_tries_100 ?_
              refine j_put hx ck_Mo 44 (by decide) t_1462 (by decide) (sh_111 _ _) rfl (Nat.le_of_ble_eq_true rfl) (sh_111 _ _) d_Mo_tries_101 ?_
              obtain ⟨s9_3, eg_3⟩ : ∃ z : St, z = tr2 t o i := ⟨_, rfl⟩
              refine J.to (σ' := s9_3) (by rw [eg_3]; rw [eg_2]; rfl) rfl ?_
              refine j_aload_n hx d_Mo_tries_104 rfl 2 rfl ?_
              refine j_iload_n hx d_Mo_tries_105 rfl 4 rfl ?_
              refine j_iload hx d_Mo_tries_106 1 rfl ?_
              refine j_iload hx d_Mo_tries_108 5 rfl ?_
              refine j_iload_n hx d_Mo_tries_110 rfl 0 rfl ?_
              refine j_isub hx d_Mo_tries_111 ?_
              refine j_iload hx d_Mo_tries_112 5 rfl ?_
              refine j_iload hx d_Mo_tries_114 5 rfl ?_
              refine j_aload_n hx d_Mo_tries_116 rfl 3 rfl ?_
              refine j_bipush (v := 27) hx d_Mo_tries_117 (by decide) ?_
              have hz119_2 : zin (27) 31 27 := by first | exact ⟨rfl, by decide⟩ | exact zin_nI (by omega) (by decide) | exact zin_of (by omega) (by omega)
              refine j_ialdk hx ho_o hz119_2 d_Mo_tries_119 ?_
              refine j_aload_n hx d_Mo_tries_120 rfl 3 rfl ?_
              refine j_bipush (v := 28) hx d_Mo_tries_121 (by decide) ?_
              have hz123_3 : zin (28) 31 28 := by first | exact ⟨rfl, by decide⟩ | exact zin_nI (by omega) (by decide) | exact zin_of (by omega) (by omega)
              refine j_ialdk hx ho_o hz123_3 d_Mo_tries_123 ?_
              refine j_callVi hx (c_Mo_isIn hG s9_3 s (msb t o (nI i) (nI i)) ((nI i) - w3) (nI i) (nI i) (s9_3 o 27) (s9_3 o 28) (by exact hs) (by rw [eg_3]; unfold tr2 tr1; exact ((hq9.up1 (by decide)).up1 (by decide)).law hw.2.2.2.1)) mo_Mo_isIn mv_Mo_isIn t_1752 (by decide) rfl (by decide) (sh_111 _ _) rfl rfl (Nat.le_of_ble_eq_true rfl) d_Mo_tries_124 ?_
              refine j_if_ne (tgt := 133) hx d_Mo_tries_127 (by decide) (fun zc127 => ?_) (fun zc127 => ?_)
              · skip
                refine j_aload_n hx d_Mo_tries_133 rfl 2 rfl ?_
                refine j_dup hx d_Mo_tries_134 rfl ?_
                refine j_get hx ck_Mo 43 (by decide) t_1461 (by decide) (sh_111 _ _) rfl d_Mo_tries_135 ?_
                refine j_iconst (v := 1) hx d_Mo_tries_138 (by decide) ?_
                refine j_iload hx d_Mo_tries_139 5 rfl ?_
                refine j_ishl hx d_Mo_tries_141 ?_
                refine j_ior hx d_Mo_tries_142 ?_
                refine j_put hx ck_Mo 43 (by decide) t_1461 (by decide) (sh_111 _ _) rfl (Nat.le_of_ble_eq_true rfl) (sh_111 _ _) d_Mo_tries_143 ?_
                obtain ⟨s9_4, eg_4⟩ : ∃ z : St, z = tr4 t o s i la := ⟨_, rfl⟩
                refine J.to (σ' := s9_4) (by rw [eg_4]; rw [eg_3, ew3]; rfl) rfl ?_
                refine j_aload_n hx d_Mo_tries_146 rfl 2 rfl ?_
                refine j_aload_n hx d_Mo_tries_147 rfl 2 rfl ?_
                refine j_iload_n hx d_Mo_tries_148 rfl 4 rfl ?_
                refine j_iload hx d_Mo_tries_149 5 rfl ?_
                refine j_callVi hx (c_Mo_isReef hG s9_4 s i (by exact hs) (by omega)) mo_Mo_isReef mv_Mo_isReef t_1766 (by decide) rfl (by decide) (sh_111 _ _) rfl rfl (Nat.le_of_ble_eq_true rfl) d_Mo_tries_151 ?_
                refine j_if_eq (tgt := 162) hx d_Mo_tries_154 (by decide) (fun zc154 => ?_) (fun zc154 => ?_)
                · skip
                  refine j_iconst (v := (-1)) hx d_Mo_tries_162 (by decide) ?_
                  refine j_put hx ck_Mo 42 (by decide) t_1460 (by decide) (sh_111 _ _) rfl (Nat.le_of_ble_eq_true rfl) (sh_111 _ _) d_Mo_tries_163 ?_
                  obtain ⟨s9_5, eg_5⟩ : ∃ z : St, z = trS t o s i la := ⟨_, rfl⟩
                  refine J.to (σ' := s9_5) (by rw [eg_5]; unfold trS; first | (rw [eg_4] at zc154; rw [eg_3, ew3] at zc127; rw [eg_4, if_neg (show ¬ b2 (0 < mbV (tr3 t o s i la)) = 0 from zc127)]; first | (rw [if_pos zc154]; done) | (rw [if_neg zc154]; done)) | (rw [eg_3, ew3] at zc127; rw [eg_3, ew3]; exact (if_pos (show b2 (0 < mbV (tr3 t o s i la)) = 0 from zc127)).symm)) rfl ?_
                  refine j_iinc hx [(4, .int ((nI i) + 1)), (3, .int w3), (5, .int (msb t o (nI i) (nI i))), (0, .ref (G.1 111)), (1, .ref (G.1 o)), (2, .int (nI s))] d_Mo_tries_166 5 rfl rfl (by decide) rfl ?_
                  refine j_goto (tgt := 25) hx d_Mo_tries_169 (by decide) ?_
                  refine J.lsub (ls' := [(0, .ref (G.1 111)), (1, .ref (G.1 o)), (2, .int (nI s)), (3, .int w3), (4, .int ((nI i) + 1))]) [3, 4, 5, 1, 0] rfl ?_
                  refine J.to ?_ ?_ (ih25 _ ?_ (i + 1) w3 s9_5 hlt25 (by rw [eg_5, ew3]; exact (trR_go hlt25 zc41).symm.trans hr9) (by rw [eg_5]; exact hq9.tS) rfl)
                  · first | (rfl) | fail
                  · first | (simp only [nI_s]) | fail
                  · first | (omega) | fail
                · skip
                  refine j_iload hx d_Mo_tries_157 5 rfl ?_
                  refine j_goto (tgt := 163) hx d_Mo_tries_159 (by decide) ?_
                  refine j_put hx ck_Mo 42 (by decide) t_1460 (by decide) (sh_111 _ _) rfl (Nat.le_of_ble_eq_true rfl) (sh_111 _ _) d_Mo_tries_163 ?_
                  obtain ⟨s9_5, eg_5⟩ : ∃ z : St, z = trS t o s i la := ⟨_, rfl⟩
                  refine J.to (σ' := s9_5) (by rw [eg_5]; unfold trS; first | (rw [eg_4] at zc154; rw [eg_3, ew3] at zc127; rw [eg_4, if_neg (show ¬ b2 (0 < mbV (tr3 t o s i la)) = 0 from zc127)]; first | (rw [if_pos zc154]; done) | (rw [if_neg zc154]; done)) | (rw [eg_3, ew3] at zc127; rw [eg_3, ew3]; exact (if_pos (show b2 (0 < mbV (tr3 t o s i la)) = 0 from zc127)).symm)) rfl ?_
                  refine j_iinc hx [(4, .int ((nI i) + 1)), (3, .int w3), (5, .int (msb t o (nI i) (nI i))), (0, .ref (G.1 111)), (1, .ref (G.1 o)), (2, .int (nI s))] d_Mo_tries_166 5 rfl rfl (by decide) rfl ?_
                  refine j_goto (tgt := 25) hx d_Mo_tries_169 (by decide) ?_
                  refine J.lsub (ls' := [(0, .ref (G.1 111)), (1, .ref (G.1 o)), (2, .int (nI s)), (3, .int w3), (4, .int ((nI i) + 1))]) [3, 4, 5, 1, 0] rfl ?_
                  refine J.to ?_ ?_ (ih25 _ ?_ (i + 1) w3 s9_5 hlt25 (by rw [eg_5, ew3]; exact (trR_go hlt25 zc41).symm.trans hr9) (by rw [eg_5]; exact hq9.tS) rfl)
                  · first | (rfl) | fail
                  · first | (simp only [nI_s]) | fail
                  · first | (omega) | fail
              · skip
                refine j_goto (tgt := 166) hx d_Mo_tries_130 (by decide) ?_
                obtain ⟨s9_4, eg_4⟩ : ∃ z : St, z = trS t o s i la := ⟨_, rfl⟩
                refine J.to (σ' := s9_4) (by rw [eg_4]; unfold trS; first | (rw [eg_4] at zc154; rw [eg_3, ew3] at zc127; rw [eg_4, if_neg (show ¬ b2 (0 < mbV (tr3 t o s i la)) = 0 from zc127)]; first | (rw [if_pos zc154]; done) | (rw [if_neg zc154]; done)) | (rw [eg_3, ew3] at zc127; rw [eg_3, ew3]; exact (if_pos (show b2 (0 < mbV (tr3 t o s i la)) = 0 from zc127)).symm)) rfl ?_
                refine j_iinc hx [(4, .int ((nI i) + 1)), (3, .int w3), (5, .int (msb t o (nI i) (nI i))), (0, .ref (G.1 111)), (1, .ref (G.1 o)), (2, .int (nI s))] d_Mo_tries_166 5 rfl rfl (by decide) rfl ?_
                refine j_goto (tgt := 25) hx d_Mo_tries_169 (by decide) ?_
                refine J.lsub (ls' := [(0, .ref (G.1 111)), (1, .ref (G.1 o)), (2, .int (nI s)), (3, .int w3), (4, .int ((nI i) + 1))]) [3, 4, 5, 1, 0] rfl ?_
                refine J.to ?_ ?_ (ih25 _ ?_ (i + 1) w3 s9_4 hlt25 (by rw [eg_4, ew3]; exact (trR_go hlt25 zc41).symm.trans hr9) (by rw [eg_4]; exact hq9.tS) rfl)
                · first | (rfl) | fail
                · first | (simp only [nI_s]) | fail
                · first | (omega) | fail
            · skip
              refine j_aload_n hx d_Mo_tries_73 rfl 2 rfl ?_
              refine j_get hx ck_Mo 45 (by decide) t_1463 (by decide) (sh_111 _ _) rfl d_Mo_tries_74 ?_
              refine j_iconst (v := (-1)) hx d_Mo_tries_77 (by decide) ?_
              refine j_icmp_ne (tgt := 86) hx d_Mo_tries_78 (by decide) (fun zc78 => ?_) (fun zc78 => ?_)
              · skip
                refine j_aload_n hx d_Mo_tries_86 rfl 2 rfl ?_
                refine j_get hx ck_Mo 45 (by decide) t_1463 (by decide) (sh_111 _ _) rfl d_Mo_tries_87 ?_
                refine j_put hx ck_Mo 45 (by decide) t_1463 (by decide) (sh_111 _ _) rfl (Nat.le_of_ble_eq_true rfl) (sh_111 _ _) d_Mo_tries_90 ?_
                obtain ⟨s9_2, eg_2⟩ : ∃ z : St, z = tr1 t o i := ⟨_, rfl⟩
                refine J.to (σ' := s9_2) (by rw [eg_2]; unfold tr1; first | (rw [if_pos ⟨zc70, zc78⟩]; done) | (rw [if_neg (fun z => zc78 z.2)]; done) | (rw [if_neg (fun z => zc70 z.1)]; done)) rfl ?_
                refine j_aload_n hx d_Mo_tries_93 rfl 2 rfl ?_
                refine j_dup hx d_Mo_tries_94 rfl ?_
                refine j_get hx ck_Mo 44 (by decide) t_1462 (by decide) (sh_111 _ _) rfl d_Mo_tries_95 ?_
                refine j_iload hx d_Mo_tries_98 1 rfl ?_
                refine j_iadd hx d_Mo_tries_100 ?_
                refine j_put hx ck_Mo 44 (by decide) t_1462 (by decide) (sh_111 _ _) rfl (Nat.le_of_ble_eq_true rfl) (sh_111 _ _) d_Mo_tries_101 ?_
                obtain ⟨s9_3, eg_3⟩ : ∃ z : St, z = tr2 t o i := ⟨_, rfl⟩
                refine J.to (σ' := s9_3) (by rw [eg_3]; rw [eg_2]; rfl) rfl ?_
                refine j_aload_n hx d_Mo_tries_104 rfl 2 rfl ?_
                refine j_iload_n hx d_Mo_tries_105 rfl 4 rfl ?_
                refine j_iload hx d_Mo_tries_106 1 rfl ?_
                refine j_iload hx d_Mo_tries_108 5 rfl ?_
                refine j_iload_n hx d_Mo_tries_110 rfl 0 rfl ?_
                refine j_isub hx d_Mo_tries_111 ?_
                refine j_iload hx d_Mo_tries_112 5 rfl ?_
                refine j_iload hx d_Mo_tries_114 5 rfl ?_
                refine j_aload_n hx d_Mo_tries_116 rfl 3 rfl ?_
                refine j_bipush (v := 27) hx d_Mo_tries_117 (by decide) ?_
                have hz119_4 : zin (27) 31 27 := by first | exact ⟨rfl, by decide⟩ | exact zin_nI (by omega) (by decide) | exact zin_of (by omega) (by omega)
                refine j_ialdk hx ho_o hz119_4 d_Mo_tries_119 ?_
                refine j_aload_n hx d_Mo_tries_120 rfl 3 rfl ?_
                refine j_bipush (v := 28) hx d_Mo_tries_121 (by decide) ?_
                have hz123_5 : zin (28) 31 28 := by first | exact ⟨rfl, by decide⟩ | exact zin_nI (by omega) (by decide) | exact zin_of (by omega) (by omega)
                refine j_ialdk hx ho_o hz123_5 d_Mo_tries_123 ?_
                refine j_callVi hx (c_Mo_isIn hG s9_3 s (msb t o (nI i) (nI i)) ((nI i) - w3) (nI i) (nI i) (s9_3 o 27) (s9_3 o 28) (by exact hs) (by rw [eg_3]; unfold tr2 tr1; exact ((hq9.up1 (by decide)).up1 (by decide)).law hw.2.2.2.1)) mo_Mo_isIn mv_Mo_isIn t_1752 (by decide) rfl (by decide) (sh_111 _ _) rfl rfl (Nat.le_of_ble_eq_true rfl) d_Mo_tries_124 ?_
                refine j_if_ne (tgt := 133) hx d_Mo_tries_127 (by decide) (fun zc127 => ?_) (fun zc127 => ?_)
                · skip
                  refine j_aload_n hx d_Mo_tries_133 rfl 2 rfl ?_
                  refine j_dup hx d_Mo_tries_134 rfl ?_
                  refine j_get hx ck_Mo 43 (by decide) t_1461 (by decide) (sh_111 _ _) rfl d_Mo_tries_135 ?_
                  refine j_iconst (v := 1) hx d_Mo_tries_138 (by decide) ?_
                  refine j_iload hx d_Mo_tries_139 5 rfl ?_
                  refine j_ishl hx d_Mo_tries_141 ?_
                  refine j_ior hx d_Mo_tries_142 ?_
                  refine j_put hx ck_Mo 43 (by decide) t_1461 (by decide) (sh_111 _ _) rfl (Nat.le_of_ble_eq_true rfl) (sh_111 _ _) d_Mo_tries_143 ?_
                  obtain ⟨s9_4, eg_4⟩ : ∃ z : St, z = tr4 t o s i la := ⟨_, rfl⟩
                  refine J.to (σ' := s9_4) (by rw [eg_4]; rw [eg_3, ew3]; rfl) rfl ?_
                  refine j_aload_n hx d_Mo_tries_146 rfl 2 rfl ?_
                  refine j_aload_n hx d_Mo_tries_147 rfl 2 rfl ?_
                  refine j_iload_n hx d_Mo_tries_148 rfl 4 rfl ?_
                  refine j_iload hx d_Mo_tries_149 5 rfl ?_
                  refine j_callVi hx (c_Mo_isReef hG s9_4 s i (by exact hs) (by omega)) mo_Mo_isReef mv_Mo_isReef t_1766 (by decide) rfl (by decide) (sh_111 _ _) rfl rfl (Nat.le_of_ble_eq_true rfl) d_Mo_tries_151 ?_
                  refine j_if_eq (tgt := 162) hx d_Mo_tries_154 (by decide) (fun zc154 => ?_) (fun zc154 => ?_)
                  · skip
                    refine j_iconst (v := (-1)) hx d_Mo_tries_162 (by decide) ?_
                    refine j_put hx ck_Mo 42 (by decide) t_1460 (by decide) (sh_111 _ _) rfl (Nat.le_of_ble_eq_true rfl) (sh_111 _ _) d_Mo_tries_163 ?_
                    obtain ⟨s9_5, eg_5⟩ : ∃ z : St, z = trS t o s i la := ⟨_, rfl⟩
                    refine J.to (σ' := s9_5) (by rw [eg_5]; unfold trS; first | (rw [eg_4] at zc154; rw [eg_3, ew3] at zc127; rw [eg_4, if_neg (show ¬ b2 (0 < mbV (tr3 t o s i la)) = 0 from zc127)]; first | (rw [if_pos zc154]; done) | (rw [if_neg zc154]; done)) | (rw [eg_3, ew3] at zc127; rw [eg_3, ew3]; exact (if_pos (show b2 (0 < mbV (tr3 t o s i la)) = 0 from zc127)).symm)) rfl ?_
                    refine j_iinc hx [(4, .int ((nI i) + 1)), (3, .int w3), (5, .int (msb t o (nI i) (nI i))), (0, .ref (G.1 111)), (1, .ref (G.1 o)), (2, .int (nI s))] d_Mo_tries_166 5 rfl rfl (by decide) rfl ?_
                    refine j_goto (tgt := 25) hx d_Mo_tries_169 (by decide) ?_
                    refine J.lsub (ls' := [(0, .ref (G.1 111)), (1, .ref (G.1 o)), (2, .int (nI s)), (3, .int w3), (4, .int ((nI i) + 1))]) [3, 4, 5, 1, 0] rfl ?_
                    refine J.to ?_ ?_ (ih25 _ ?_ (i + 1) w3 s9_5 hlt25 (by rw [eg_5, ew3]; exact (trR_go hlt25 zc41).symm.trans hr9) (by rw [eg_5]; exact hq9.tS) rfl)
                    · first | (rfl) | fail
                    · first | (simp only [nI_s]) | fail
                    · first | (omega) | fail
                  · skip
                    refine j_iload hx d_Mo_tries_157 5 rfl ?_
                    refine j_goto (tgt := 163) hx d_Mo_tries_159 (by decide) ?_
                    refine j_put hx ck_Mo 42 (by decide) t_1460 (by decide) (sh_111 _ _) rfl (Nat.le_of_ble_eq_true rfl) (sh_111 _ _) d_Mo_tries_163 ?_
                    obtain ⟨s9_5, eg_5⟩ : ∃ z : St, z = trS t o s i la := ⟨_, rfl⟩
                    refine J.to (σ' := s9_5) (by rw [eg_5]; unfold trS; first | (rw [eg_4] at zc154; rw [eg_3, ew3] at zc127; rw [eg_4, if_neg (show ¬ b2 (0 < mbV (tr3 t o s i la)) = 0 from zc127)]; first | (rw [if_pos zc154]; done) | (rw [if_neg zc154]; done)) | (rw [eg_3, ew3] at zc127; rw [eg_3, ew3]; exact (if_pos (show b2 (0 < mbV (tr3 t o s i la)) = 0 from zc127)).symm)) rfl ?_
                    refine j_iinc hx [(4, .int ((nI i) + 1)), (3, .int w3), (5, .int (msb t o (nI i) (nI i))), (0, .ref (G.1 111)), (1, .ref (G.1 o)), (2, .int (nI s))] d_Mo_tries_166 5 rfl rfl (by decide) rfl ?_
                    refine j_goto (tgt := 25) hx d_Mo_tries_169 (by decide) ?_
                    refine J.lsub (ls' := [(0, .ref (G.1 111)), (1, .ref (G.1 o)), (2, .int (nI s)), (3, .int w3), (4, .int ((nI i) + 1))]) [3, 4, 5, 1, 0] rfl ?_
                    refine J.to ?_ ?_ (ih25 _ ?_ (i + 1) w3 s9_5 hlt25 (by rw [eg_5, ew3]; exact (trR_go hlt25 zc41).symm.trans hr9) (by rw [eg_5]; exact hq9.tS) rfl)
                    · first | (rfl) | fail
                    · first | (simp only [nI_s]) | fail
                    · first | (omega) | fail
                · skip
                  refine j_goto (tgt := 166) hx d_Mo_tries_130 (by decide) ?_
                  obtain ⟨s9_4, eg_4⟩ : ∃ z : St, z = trS t o s i la := ⟨_, rfl⟩
                  refine J.to (σ' := s9_4) (by rw [eg_4]; unfold trS; first | (rw [eg_4] at zc154; rw [eg_3, ew3] at zc127; rw [eg_4, if_neg (show ¬ b2 (0 < mbV (tr3 t o s i la)) = 0 from zc127)]; first | (rw [if_pos zc154]; done) | (rw [if_neg zc154]; done)) | (rw [eg_3, ew3] at zc127; rw [eg_3, ew3]; exact (if_pos (show b2 (0 < mbV (tr3 t o s i la)) = 0 from zc127)).symm)) rfl ?_
                  refine j_iinc hx [(4, .int ((nI i) + 1)), (3, .int w3), (5, .int (msb t o (nI i) (nI i))), (0, .ref (G.1 111)), (1, .ref (G.1 o)), (2, .int (nI s))] d_Mo_tries_166 5 rfl rfl (by decide) rfl ?_
                  refine j_goto (tgt := 25) hx d_Mo_tries_169 (by decide) ?_
                  refine J.lsub (ls' := [(0, .ref (G.1 111)), (1, .ref (G.1 o)), (2, .int (nI s)), (3, .int w3), (4, .int ((nI i) + 1))]) [3, 4, 5, 1, 0] rfl ?_
                  refine J.to ?_ ?_ (ih25 _ ?_ (i + 1) w3 s9_4 hlt25 (by rw [eg_4, ew3]; exact (trR_go hlt25 zc41).symm.trans hr9) (by rw [eg_4]; exact hq9.tS) rfl)
                  · first | (rfl) | fail
                  · first | (simp only [nI_s]) | fail
                  · first | (omega) | fail
              · skip
                refine j_iload hx d_Mo_tries_81 5 rfl ?_
                refine j_goto (tgt := 90) hx d_Mo_tries_83 (by decide) ?_
                refine j_put hx ck_Mo 45 (by decide) t_1463 (by decide) (sh_111 _ _) rfl (Nat.le_of_ble_eq_true rfl) (sh_111 _ _) d_Mo_tries_90 ?_
                obtain ⟨s9_2, eg_2⟩ : ∃ z : St, z = tr1 t o i := ⟨_, rfl⟩
                refine J.to (σ' := s9_2) (by rw [eg_2]; unfold tr1; first | (rw [if_pos ⟨zc70, zc78⟩]; done) | (rw [if_neg (fun z => zc78 z.2)]; done) | (rw [if_neg (fun z => zc70 z.1)]; done)) rfl ?_
                refine j_aload_n hx d_Mo_tries_93 rfl 2 rfl ?_
                refine j_dup hx d_Mo_tries_94 rfl ?_
                refine j_get hx ck_Mo 44 (by decide) t_1462 (by decide) (sh_111 _ _) rfl d_Mo_tries_95 ?_
                refine j_iload hx d_Mo_tries_98 1 rfl ?_
                refine j_iadd hx d_Mo_tries_100 ?_
                refine j_put hx ck_Mo 44 (by decide) t_1462 (by decide) (sh_111 _ _) rfl (Nat.le_of_ble_eq_true rfl) (sh_111 _ _) d_Mo_tries_101 ?_
                obtain ⟨s9_3, eg_3⟩ : ∃ z : St, z = tr2 t o i := ⟨_, rfl⟩
                refine J.to (σ' := s9_3) (by rw [eg_3]; rw [eg_2]; rfl) rfl ?_
                refine j_aload_n hx d_Mo_tries_104 rfl 2 rfl ?_
                refine j_iload_n hx d_Mo_tries_105 rfl 4 rfl ?_
                refine j_iload hx d_Mo_tries_106 1 rfl ?_
                refine j_iload hx d_Mo_tries_108 5 rfl ?_
                refine j_iload_n hx d_Mo_tries_110 rfl 0 rfl ?_
                refine j_isub hx d_Mo_tries_111 ?_
                refine j_iload hx d_Mo_tries_112 5 rfl ?_
                refine j_iload hx d_Mo_tries_114 5 rfl ?_
                refine j_aload_n hx d_Mo_tries_116 rfl 3 rfl ?_
                refine j_bipush (v := 27) hx d_Mo_tries_117 (by decide) ?_
                have hz119_6 : zin (27) 31 27 := by first | exact ⟨rfl, by decide⟩ | exact zin_nI (by omega) (by decide) | exact zin_of (by omega) (by omega)
                refine j_ialdk hx ho_o hz119_6 d_Mo_tries_119 ?_
                refine j_aload_n hx d_Mo_tries_120 rfl 3 rfl ?_
                refine j_bipush (v := 28) hx d_Mo_tries_121 (by decide) ?_
                have hz123_7 : zin (28) 31 28 := by first | exact ⟨rfl, by decide⟩ | exact zin_nI (by omega) (by decide) | exact zin_of (by omega) (by omega)
                refine j_ialdk hx ho_o hz123_7 d_Mo_tries_123 ?_
                refine j_callVi hx (c_Mo_isIn hG s9_3 s (msb t o (nI i) (nI i)) ((nI i) - w3) (nI i) (nI i) (s9_3 o 27) (s9_3 o 28) (by exact hs) (by rw [eg_3]; unfold tr2 tr1; exact ((hq9.up1 (by decide)).up1 (by decide)).law hw.2.2.2.1)) mo_Mo_isIn mv_Mo_isIn t_1752 (by decide) rfl (by decide) (sh_111 _ _) rfl rfl (Nat.le_of_ble_eq_true rfl) d_Mo_tries_124 ?_
                refine j_if_ne (tgt := 133) hx d_Mo_tries_127 (by decide) (fun zc127 => ?_) (fun zc127 => ?_)
                · skip
                  refine j_aload_n hx d_Mo_tries_133 rfl 2 rfl ?_
                  refine j_dup hx d_Mo_tries_134 rfl ?_
                  refine j_get hx ck_Mo 43 (by decide) t_1461 (by decide) (sh_111 _ _) rfl d_Mo_tries_135 ?_
                  refine j_iconst (v := 1) hx d_Mo_tries_138 (by decide) ?_
                  refine j_iload hx d_Mo_tries_139 5 rfl ?_
                  refine j_ishl hx d_Mo_tries_141 ?_
                  refine j_ior hx d_Mo_tries_142 ?_
                  refine j_put hx ck_Mo 43 (by decide) t_1461 (by decide) (sh_111 _ _) rfl (Nat.le_of_ble_eq_true rfl) (sh_111 _ _) d_Mo_tries_143 ?_
                  obtain ⟨s9_4, eg_4⟩ : ∃ z : St, z = tr4 t o s i la := ⟨_, rfl⟩
                  refine J.to (σ' := s9_4) (by rw [eg_4]; rw [eg_3, ew3]; rfl) rfl ?_
                  refine j_aload_n hx d_Mo_tries_146 rfl 2 rfl ?_
                  refine j_aload_n hx d_Mo_tries_147 rfl 2 rfl ?_
                  refine j_iload_n hx d_Mo_tries_148 rfl 4 rfl ?_
                  refine j_iload hx d_Mo_tries_149 5 rfl ?_
                  refine j_callVi hx (c_Mo_isReef hG s9_4 s i (by exact hs) (by omega)) mo_Mo_isReef mv_Mo_isReef t_1766 (by decide) rfl (by decide) (sh_111 _ _) rfl rfl (Nat.le_of_ble_eq_true rfl) d_Mo_tries_151 ?_
                  refine j_if_eq (tgt := 162) hx d_Mo_tries_154 (by decide) (fun zc154 => ?_) (fun zc154 => ?_)
                  · skip
                    refine j_iconst (v := (-1)) hx d_Mo_tries_162 (by decide) ?_
                    refine j_put hx ck_Mo 42 (by decide) t_1460 (by decide) (sh_111 _ _) rfl (Nat.le_of_ble_eq_true rfl) (sh_111 _ _) d_Mo_tries_163 ?_
                    obtain ⟨s9_5, eg_5⟩ : ∃ z : St, z = trS t o s i la := ⟨_, rfl⟩
                    refine J.to (σ' := s9_5) (by rw [eg_5]; unfold trS; first | (rw [eg_4] at zc154; rw [eg_3, ew3] at zc127; rw [eg_4, if_neg (show ¬ b2 (0 < mbV (tr3 t o s i la)) = 0 from zc127)]; first | (rw [if_pos zc154]; done) | (rw [if_neg zc154]; done)) | (rw [eg_3, ew3] at zc127; rw [eg_3, ew3]; exact (if_pos (show b2 (0 < mbV (tr3 t o s i la)) = 0 from zc127)).symm)) rfl ?_
                    refine j_iinc hx [(4, .int ((nI i) + 1)), (3, .int w3), (5, .int (msb t o (nI i) (nI i))), (0, .ref (G.1 111)), (1, .ref (G.1 o)), (2, .int (nI s))] d_Mo_tries_166 5 rfl rfl (by decide) rfl ?_
                    refine j_goto (tgt := 25) hx d_Mo_tries_169 (by decide) ?_
                    refine J.lsub (ls' := [(0, .ref (G.1 111)), (1, .ref (G.1 o)), (2, .int (nI s)), (3, .int w3), (4, .int ((nI i) + 1))]) [3, 4, 5, 1, 0] rfl ?_
                    refine J.to ?_ ?_ (ih25 _ ?_ (i + 1) w3 s9_5 hlt25 (by rw [eg_5, ew3]; exact (trR_go hlt25 zc41).symm.trans hr9) (by rw [eg_5]; exact hq9.tS) rfl)
                    · first | (rfl) | fail
                    · first | (simp only [nI_s]) | fail
                    · first | (omega) | fail
                  · skip
                    refine j_iload hx d_Mo_tries_157 5 rfl ?_
                    refine j_goto (tgt := 163) hx d_Mo_tries_159 (by decide) ?_
                    refine j_put hx ck_Mo 42 (by decide) t_1460 (by decide) (sh_111 _ _) rfl (Nat.le_of_ble_eq_true rfl) (sh_111 _ _) d_Mo_tries_163 ?_
                    obtain ⟨s9_5, eg_5⟩ : ∃ z : St, z = trS t o s i la := ⟨_, rfl⟩
                    refine J.to (σ' := s9_5) (by rw [eg_5]; unfold trS; first | (rw [eg_4] at zc154; rw [eg_3, ew3] at zc127; rw [eg_4, if_neg (show ¬ b2 (0 < mbV (tr3 t o s i la)) = 0 from zc127)]; first | (rw [if_pos zc154]; done) | (rw [if_neg zc154]; done)) | (rw [eg_3, ew3] at zc127; rw [eg_3, ew3]; exact (if_pos (show b2 (0 < mbV (tr3 t o s i la)) = 0 from zc127)).symm)) rfl ?_
                    refine j_iinc hx [(4, .int ((nI i) + 1)), (3, .int w3), (5, .int (msb t o (nI i) (nI i))), (0, .ref (G.1 111)), (1, .ref (G.1 o)), (2, .int (nI s))] d_Mo_tries_166 5 rfl rfl (by decide) rfl ?_
                    refine j_goto (tgt := 25) hx d_Mo_tries_169 (by decide) ?_
                    refine J.lsub (ls' := [(0, .ref (G.1 111)), (1, .ref (G.1 o)), (2, .int (nI s)), (3, .int w3), (4, .int ((nI i) + 1))]) [3, 4, 5, 1, 0] rfl ?_
                    refine J.to ?_ ?_ (ih25 _ ?_ (i + 1) w3 s9_5 hlt25 (by rw [eg_5, ew3]; exact (trR_go hlt25 zc41).symm.trans hr9) (by rw [eg_5]; exact hq9.tS) rfl)
                    · first | (rfl) | fail
                    · first | (simp only [nI_s]) | fail
                    · first | (omega) | fail
                · skip
                  refine j_goto (tgt := 166) hx d_Mo_tries_130 (by decide) ?_
                  obtain ⟨s9_4, eg_4⟩ : ∃ z : St, z = trS t o s i la := ⟨_, rfl⟩
                  refine J.to (σ' := s9_4) (by rw [eg_4]; unfold trS; first | (rw [eg_4] at zc154; rw [eg_3, ew3] at zc127; rw [eg_4, if_neg (show ¬ b2 (0 < mbV (tr3 t o s i la)) = 0 from zc127)]; first | (rw [if_pos zc154]; done) | (rw [if_neg zc154]; done)) | (rw [eg_3, ew3] at zc127; rw [eg_3, ew3]; exact (if_pos (show b2 (0 < mbV (tr3 t o s i la)) = 0 from zc127)).symm)) rfl ?_
                  refine j_iinc hx [(4, .int ((nI i) + 1)), (3, .int w3), (5, .int (msb t o (nI i) (nI i))), (0, .ref (G.1 111)), (1, .ref (G.1 o)), (2, .int (nI s))] d_Mo_tries_166 5 rfl rfl (by decide) rfl ?_
                  refine j_goto (tgt := 25) hx d_Mo_tries_169 (by decide) ?_
                  refine J.lsub (ls' := [(0, .ref (G.1 111)), (1, .ref (G.1 o)), (2, .int (nI s)), (3, .int w3), (4, .int ((nI i) + 1))]) [3, 4, 5, 1, 0] rfl ?_
                  refine J.to ?_ ?_ (ih25 _ ?_ (i + 1) w3 s9_4 hlt25 (by rw [eg_4, ew3]; exact (trR_go hlt25 zc41).symm.trans hr9) (by rw [eg_4]; exact hq9.tS) rfl)
                  · first | (rfl) | fail
                  · first | (simp only [nI_s]) | fail
                  · first | (omega) | fail
          · skip
            refine j_iload hx d_Mo_tries_60 5 rfl ?_
            refine j_goto (tgt := 66) hx d_Mo_tries_62 (by decide) ?_
            refine j_istore_n hx [(3, .int (nI i)), (5, .int (msb t o (nI i) (nI i))), (0, .ref (G.1 111)), (1, .ref (G.1 o)), (2, .int (nI s)), (4, .int (nI i))] d_Mo_tries_66 rfl (by decide) rfl ?_
            obtain ⟨w3, ew3⟩ : ∃ z : Int32, z = trL t o i la := ⟨_, rfl⟩
            refine J.to (ls' := [(3, .int w3), (5, .int (msb t o (nI i) (nI i))), (0, .ref (G.1 111)), (1, .ref (G.1 o)), (2, .int (nI s)), (4, .int (nI i))]) rfl (by rw [ew3]; unfold trL; first | (rw [if_pos zc57]; done) | (rw [if_neg zc57]; done)) ?_
            refine j_aload_n hx d_Mo_tries_67 rfl 2 rfl ?_
            refine j_iload hx d_Mo_tries_68 1 rfl ?_
            refine j_if_ne (tgt := 86) hx d_Mo_tries_70 (by decide) (fun zc70 => ?_) (fun zc70 => ?_)
            · skip
              refine j_aload_n hx d_Mo_tries_86 rfl 2 rfl ?_
              refine j_get hx ck_Mo 45 (by decide) t_1463 (by decide) (sh_111 _ _) rfl d_Mo_tries_87 ?_
              refine j_put hx ck_Mo 45 (by decide) t_1463 (by decide) (sh_111 _ _) rfl (Nat.le_of_ble_eq_true rfl) (sh_111 _ _) d_Mo_tries_90 ?_
              obtain ⟨s9_2, eg_2⟩ : ∃ z : St, z = tr1 t o i := ⟨_, rfl⟩
              refine J.to (σ' := s9_2) (by rw [eg_2]; unfold tr1; first | (rw [if_pos ⟨zc70, zc78⟩]; done) | (rw [if_neg (fun z => zc78 z.2)]; done) | (rw [if_neg (fun z => zc70 z.1)]; done)) rfl ?_
              refine j_aload_n hx d_Mo_tries_93 rfl 2 rfl ?_
              refine j_dup hx d_Mo_tries_94 rfl ?_
              refine j_get hx ck_Mo 44 (by decide) t_1462 (by decide) (sh_111 _ _) rfl d_Mo_tries_95 ?_
              refine j_iload hx d_Mo_tries_98 1 rfl ?_
              refine j_iadd hx d_Mo_tries_100 ?_
              refine j_put hx ck_Mo 44 (by decide) t_1462 (by decide) (sh_111 _ _) rfl (Nat.le_of_ble_eq_true rfl) (sh_111 _ _) d_Mo_tries_101 ?_
              obtain ⟨s9_3, eg_3⟩ : ∃ z : St, z = tr2 t o i := ⟨_, rfl⟩
              refine J.to (σ' := s9_3) (by rw [eg_3]; rw [eg_2]; rfl) rfl ?_
              refine j_aload_n hx d_Mo_tries_104 rfl 2 rfl ?_
              refine j_iload_n hx d_Mo_tries_105 rfl 4 rfl ?_
              refine j_iload hx d_Mo_tries_106 1 rfl ?_
              refine j_iload hx d_Mo_tries_108 5 rfl ?_
              refine j_iload_n hx d_Mo_tries_110 rfl 0 rfl ?_
              refine j_isub hx d_Mo_tries_111 ?_
              refine j_iload hx d_Mo_tries_112 5 rfl ?_
              refine j_iload hx d_Mo_tries_114 5 rfl ?_
              refine j_aload_n hx d_Mo_tries_116 rfl 3 rfl ?_
              refine j_bipush (v := 27) hx d_Mo_tries_117 (by decide) ?_
              have hz119_8 : zin (27) 31 27 := by first | exact ⟨rfl, by decide⟩ | exact zin_nI (by omega) (by decide) | exact zin_of (by omega) (by omega)
              refine j_ialdk hx ho_o hz119_8 d_Mo_tries_119 ?_
              refine j_aload_n hx d_Mo_tries_120 rfl 3 rfl ?_
              refine j_bipush (v := 28) hx d_Mo_tries_121 (by decide) ?_
              have hz123_9 : zin (28) 31 28 := by first | exact ⟨rfl, by decide⟩ | exact zin_nI (by omega) (by decide) | exact zin_of (by omega) (by omega)
              refine j_ialdk hx ho_o hz123_9 d_Mo_tries_123 ?_
              refine j_callVi hx (c_Mo_isIn hG s9_3 s (msb t o (nI i) (nI i)) ((nI i) - w3) (nI i) (nI i) (s9_3 o 27) (s9_3 o 28) (by exact hs) (by rw [eg_3]; unfold tr2 tr1; exact ((hq9.up1 (by decide)).up1 (by decide)).law hw.2.2.2.1)) mo_Mo_isIn mv_Mo_isIn t_1752 (by decide) rfl (by decide) (sh_111 _ _) rfl rfl (Nat.le_of_ble_eq_true rfl) d_Mo_tries_124 ?_
              refine j_if_ne (tgt := 133) hx d_Mo_tries_127 (by decide) (fun zc127 => ?_) (fun zc127 => ?_)
              · skip
                refine j_aload_n hx d_Mo_tries_133 rfl 2 rfl ?_
                refine j_dup hx d_Mo_tries_134 rfl ?_
                refine j_get hx ck_Mo 43 (by decide) t_1461 (by decide) (sh_111 _ _) rfl d_Mo_tries_135 ?_
                refine j_iconst (v := 1) hx d_Mo_tries_138 (by decide) ?_
                refine j_iload hx d_Mo_tries_139 5 rfl ?_
                refine j_ishl hx d_Mo_tries_141 ?_
                refine j_ior hx d_Mo_tries_142 ?_
                refine j_put hx ck_Mo 43 (by decide) t_1461 (by decide) (sh_111 _ _) rfl (Nat.le_of_ble_eq_true rfl) (sh_111 _ _) d_Mo_tries_143 ?_
                obtain ⟨s9_4, eg_4⟩ : ∃ z : St, z = tr4 t o s i la := ⟨_, rfl⟩
                refine J.to (σ' := s9_4) (by rw [eg_4]; rw [eg_3, ew3]; rfl) rfl ?_
                refine j_aload_n hx d_Mo_tries_146 rfl 2 rfl ?_
                refine j_aload_n hx d_Mo_tries_147 rfl 2 rfl ?_
                refine j_iload_n hx d_Mo_tries_148 rfl 4 rfl ?_
                refine j_iload hx d_Mo_tries_149 5 rfl ?_
                refine j_callVi hx (c_Mo_isReef hG s9_4 s i (by exact hs) (by omega)) mo_Mo_isReef mv_Mo_isReef t_1766 (by decide) rfl (by decide) (sh_111 _ _) rfl rfl (Nat.le_of_ble_eq_true rfl) d_Mo_tries_151 ?_
                refine j_if_eq (tgt := 162) hx d_Mo_tries_154 (by decide) (fun zc154 => ?_) (fun zc154 => ?_)
                · skip
                  refine j_iconst (v := (-1)) hx d_Mo_tries_162 (by decide) ?_
                  refine j_put hx ck_Mo 42 (by decide) t_1460 (by decide) (sh_111 _ _) rfl (Nat.le_of_ble_eq_true rfl) (sh_111 _ _) d_Mo_tries_163 ?_
                  obtain ⟨s9_5, eg_5⟩ : ∃ z : St, z = trS t o s i la := ⟨_, rfl⟩
                  refine J.to (σ' := s9_5) (by rw [eg_5]; unfold trS; first | (rw [eg_4] at zc154; rw [eg_3, ew3] at zc127; rw [eg_4, if_neg (show ¬ b2 (0 < mbV (tr3 t o s i la)) = 0 from zc127)]; first | (rw [if_pos zc154]; done) | (rw [if_neg zc154]; done)) | (rw [eg_3, ew3] at zc127; rw [eg_3, ew3]; exact (if_pos (show b2 (0 < mbV (tr3 t o s i la)) = 0 from zc127)).symm)) rfl ?_
                  refine j_iinc hx [(4, .int ((nI i) + 1)), (3, .int w3), (5, .int (msb t o (nI i) (nI i))), (0, .ref (G.1 111)), (1, .ref (G.1 o)), (2, .int (nI s))] d_Mo_tries_166 5 rfl rfl (by decide) rfl ?_
                  refine j_goto (tgt := 25) hx d_Mo_tries_169 (by decide) ?_
                  refine J.lsub (ls' := [(0, .ref (G.1 111)), (1, .ref (G.1 o)), (2, .int (nI s)), (3, .int w3), (4, .int ((nI i) + 1))]) [3, 4, 5, 1, 0] rfl ?_
                  refine J.to ?_ ?_ (ih25 _ ?_ (i + 1) w3 s9_5 hlt25 (by rw [eg_5, ew3]; exact (trR_go hlt25 zc41).symm.trans hr9) (by rw [eg_5]; exact hq9.tS) rfl)
                  · first | (rfl) | fail
                  · first | (simp only [nI_s]) | fail
                  · first | (omega) | fail
                · skip
                  refine j_iload hx d_Mo_tries_157 5 rfl ?_
                  refine j_goto (tgt := 163) hx d_Mo_tries_159 (by decide) ?_
                  refine j_put hx ck_Mo 42 (by decide) t_1460 (by decide) (sh_111 _ _) rfl (Nat.le_of_ble_eq_true rfl) (sh_111 _ _) d_Mo_tries_163 ?_
                  obtain ⟨s9_5, eg_5⟩ : ∃ z : St, z = trS t o s i la := ⟨_, rfl⟩
                  refine J.to (σ' := s9_5) (by rw [eg_5]; unfold trS; first | (rw [eg_4] at zc154; rw [eg_3, ew3] at zc127; rw [eg_4, if_neg (show ¬ b2 (0 < mbV (tr3 t o s i la)) = 0 from zc127)]; first | (rw [if_pos zc154]; done) | (rw [if_neg zc154]; done)) | (rw [eg_3, ew3] at zc127; rw [eg_3, ew3]; exact (if_pos (show b2 (0 < mbV (tr3 t o s i la)) = 0 from zc127)).symm)) rfl ?_
                  refine j_iinc hx [(4, .int ((nI i) + 1)), (3, .int w3), (5, .int (msb t o (nI i) (nI i))), (0, .ref (G.1 111)), (1, .ref (G.1 o)), (2, .int (nI s))] d_Mo_tries_166 5 rfl rfl (by decide) rfl ?_
                  refine j_goto (tgt := 25) hx d_Mo_tries_169 (by decide) ?_
                  refine J.lsub (ls' := [(0, .ref (G.1 111)), (1, .ref (G.1 o)), (2, .int (nI s)), (3, .int w3), (4, .int ((nI i) + 1))]) [3, 4, 5, 1, 0] rfl ?_
                  refine J.to ?_ ?_ (ih25 _ ?_ (i + 1) w3 s9_5 hlt25 (by rw [eg_5, ew3]; exact (trR_go hlt25 zc41).symm.trans hr9) (by rw [eg_5]; exact hq9.tS) rfl)
                  · first | (rfl) | fail
                  · first | (simp only [nI_s]) | fail
                  · first | (omega) | fail
              · skip
                refine j_goto (tgt := 166) hx d_Mo_tries_130 (by decide) ?_
                obtain ⟨s9_4, eg_4⟩ : ∃ z : St, z = trS t o s i la := ⟨_, rfl⟩
                refine J.to (σ' := s9_4) (by rw [eg_4]; unfold trS; first | (rw [eg_4] at zc154; rw [eg_3, ew3] at zc127; rw [eg_4, if_neg (show ¬ b2 (0 < mbV (tr3 t o s i la)) = 0 from zc127)]; first | (rw [if_pos zc154]; done) | (rw [if_neg zc154]; done)) | (rw [eg_3, ew3] at zc127; rw [eg_3, ew3]; exact (if_pos (show b2 (0 < mbV (tr3 t o s i la)) = 0 from zc127)).symm)) rfl ?_
                refine j_iinc hx [(4, .int ((nI i) + 1)), (3, .int w3), (5, .int (msb t o (nI i) (nI i))), (0, .ref (G.1 111)), (1, .ref (G.1 o)), (2, .int (nI s))] d_Mo_tries_166 5 rfl rfl (by decide) rfl ?_
                refine j_goto (tgt := 25) hx d_Mo_tries_169 (by decide) ?_
                refine J.lsub (ls' := [(0, .ref (G.1 111)), (1, .ref (G.1 o)), (2, .int (nI s)), (3, .int w3), (4, .int ((nI i) + 1))]) [3, 4, 5, 1, 0] rfl ?_
                refine J.to ?_ ?_ (ih25 _ ?_ (i + 1) w3 s9_4 hlt25 (by rw [eg_4, ew3]; exact (trR_go hlt25 zc41).symm.trans hr9) (by rw [eg_4]; exact hq9.tS) rfl)
                · first | (rfl) | fail
                · first | (simp only [nI_s]) | fail
                · first | (omega) | fail
            · skip
              refine j_aload_n hx d_Mo_tries_73 rfl 2 rfl ?_
              refine j_get hx ck_Mo 45 (by decide) t_1463 (by decide) (sh_111 _ _) rfl d_Mo_tries_74 ?_
              refine j_iconst (v := (-1)) hx d_Mo_tries_77 (by decide) ?_
              refine j_icmp_ne (tgt := 86) hx d_Mo_tries_78 (by decide) (fun zc78 => ?_) (fun zc78 => ?_)
              · skip
                refine j_aload_n hx d_Mo_tries_86 rfl 2 rfl ?_
                refine j_get hx ck_Mo 45 (by decide) t_1463 (by decide) (sh_111 _ _) rfl d_Mo_tries_87 ?_
                refine j_put hx ck_Mo 45 (by decide) t_1463 (by decide) (sh_111 _ _) rfl (Nat.le_of_ble_eq_true rfl) (sh_111 _ _) d_Mo_tries_90 ?_
                obtain ⟨s9_2, eg_2⟩ : ∃ z : St, z = tr1 t o i := ⟨_, rfl⟩
                refine J.to (σ' := s9_2) (by rw [eg_2]; unfold tr1; first | (rw [if_pos ⟨zc70, zc78⟩]; done) | (rw [if_neg (fun z => zc78 z.2)]; done) | (rw [if_neg (fun z => zc70 z.1)]; done)) rfl ?_
                refine j_aload_n hx d_Mo_tries_93 rfl 2 rfl ?_
                refine j_dup hx d_Mo_tries_94 rfl ?_
                refine j_get hx ck_Mo 44 (by decide) t_1462 (by decide) (sh_111 _ _) rfl d_Mo_tries_95 ?_
                refine j_iload hx d_Mo_tries_98 1 rfl ?_
                refine j_iadd hx d_Mo_tries_100 ?_
                refine j_put hx ck_Mo 44 (by decide) t_1462 (by decide) (sh_111 _ _) rfl (Nat.le_of_ble_eq_true rfl) (sh_111 _ _) d_Mo_tries_101 ?_
                obtain ⟨s9_3, eg_3⟩ : ∃ z : St, z = tr2 t o i := ⟨_, rfl⟩
                refine J.to (σ' := s9_3) (by rw [eg_3]; rw [eg_2]; rfl) rfl ?_
                refine j_aload_n hx d_Mo_tries_104 rfl 2 rfl ?_
                refine j_iload_n hx d_Mo_tries_105 rfl 4 rfl ?_
                refine j_iload hx d_Mo_tries_106 1 rfl ?_
                refine j_iload hx d_Mo_tries_108 5 rfl ?_
                refine j_iload_n hx d_Mo_tries_110 rfl 0 rfl ?_
                refine j_isub hx d_Mo_tries_111 ?_
                refine j_iload hx d_Mo_tries_112 5 rfl ?_
                refine j_iload hx d_Mo_tries_114 5 rfl ?_
                refine j_aload_n hx d_Mo_tries_116 rfl 3 rfl ?_
                refine j_bipush (v := 27) hx d_Mo_tries_117 (by decide) ?_
                have hz119_10 : zin (27) 31 27 := by first | exact ⟨rfl, by decide⟩ | exact zin_nI (by omega) (by decide) | exact zin_of (by omega) (by omega)
                refine j_ialdk hx ho_o hz119_10 d_Mo_tries_119 ?_
                refine j_aload_n hx d_Mo_tries_120 rfl 3 rfl ?_
                refine j_bipush (v := 28) hx d_Mo_tries_121 (by decide) ?_
                have hz123_11 : zin (28) 31 28 := by first | exact ⟨rfl, by decide⟩ | exact zin_nI (by omega) (by decide) | exact zin_of (by omega) (by omega)
                refine j_ialdk hx ho_o hz123_11 d_Mo_tries_123 ?_
                refine j_callVi hx (c_Mo_isIn hG s9_3 s (msb t o (nI i) (nI i)) ((nI i) - w3) (nI i) (nI i) (s9_3 o 27) (s9_3 o 28) (by exact hs) (by rw [eg_3]; unfold tr2 tr1; exact ((hq9.up1 (by decide)).up1 (by decide)).law hw.2.2.2.1)) mo_Mo_isIn mv_Mo_isIn t_1752 (by decide) rfl (by decide) (sh_111 _ _) rfl rfl (Nat.le_of_ble_eq_true rfl) d_Mo_tries_124 ?_
                refine j_if_ne (tgt := 133) hx d_Mo_tries_127 (by decide) (fun zc127 => ?_) (fun zc127 => ?_)
                · skip
                  refine j_aload_n hx d_Mo_tries_133 rfl 2 rfl ?_
                  refine j_dup hx d_Mo_tries_134 rfl ?_
                  refine j_get hx ck_Mo 43 (by decide) t_1461 (by decide) (sh_111 _ _) rfl d_Mo_tries_135 ?_
                  refine j_iconst (v := 1) hx d_Mo_tries_138 (by decide) ?_
                  refine j_iload hx d_Mo_tries_139 5 rfl ?_
                  refine j_ishl hx d_Mo_tries_141 ?_
                  refine j_ior hx d_Mo_tries_142 ?_
                  refine j_put hx ck_Mo 43 (by decide) t_1461 (by decide) (sh_111 _ _) rfl (Nat.le_of_ble_eq_true rfl) (sh_111 _ _) d_Mo_tries_143 ?_
                  obtain ⟨s9_4, eg_4⟩ : ∃ z : St, z = tr4 t o s i la := ⟨_, rfl⟩
                  refine J.to (σ' := s9_4) (by rw [eg_4]; rw [eg_3, ew3]; rfl) rfl ?_
                  refine j_aload_n hx d_Mo_tries_146 rfl 2 rfl ?_
                  refine j_aload_n hx d_Mo_tries_147 rfl 2 rfl ?_
                  refine j_iload_n hx d_Mo_tries_148 rfl 4 rfl ?_
                  refine j_iload hx d_Mo_tries_149 5 rfl ?_
                  refine j_callVi hx (c_Mo_isReef hG s9_4 s i (by exact hs) (by omega)) mo_Mo_isReef mv_Mo_isReef t_1766 (by decide) rfl (by decide) (sh_111 _ _) rfl rfl (Nat.le_of_ble_eq_true rfl) d_Mo_tries_151 ?_
                  refine j_if_eq (tgt := 162) hx d_Mo_tries_154 (by decide) (fun zc154 => ?_) (fun zc154 => ?_)
                  · skip
                    refine j_iconst (v := (-1)) hx d_Mo_tries_162 (by decide) ?_
                    refine j_put hx ck_Mo 42 (by decide) t_1460 (by decide) (sh_111 _ _) rfl (Nat.le_of_ble_eq_true rfl) (sh_111 _ _) d_Mo_tries_163 ?_
                    obtain ⟨s9_5, eg_5⟩ : ∃ z : St, z = trS t o s i la := ⟨_, rfl⟩
                    refine J.to (σ' := s9_5) (by rw [eg_5]; unfold trS; first | (rw [eg_4] at zc154; rw [eg_3, ew3] at zc127; rw [eg_4, if_neg (show ¬ b2 (0 < mbV (tr3 t o s i la)) = 0 from zc127)]; first | (rw [if_pos zc154]; done) | (rw [if_neg zc154]; done)) | (rw [eg_3, ew3] at zc127; rw [eg_3, ew3]; exact (if_pos (show b2 (0 < mbV (tr3 t o s i la)) = 0 from zc127)).symm)) rfl ?_
                    refine j_iinc hx [(4, .int ((nI i) + 1)), (3, .int w3), (5, .int (msb t o (nI i) (nI i))), (0, .ref (G.1 111)), (1, .ref (G.1 o)), (2, .int (nI s))] d_Mo_tries_166 5 rfl rfl (by decide) rfl ?_
                    refine j_goto (tgt := 25) hx d_Mo_tries_169 (by decide) ?_
                    refine J.lsub (ls' := [(0, .ref (G.1 111)), (1, .ref (G.1 o)), (2, .int (nI s)), (3, .int w3), (4, .int ((nI i) + 1))]) [3, 4, 5, 1, 0] rfl ?_
                    refine J.to ?_ ?_ (ih25 _ ?_ (i + 1) w3 s9_5 hlt25 (by rw [eg_5, ew3]; exact (trR_go hlt25 zc41).symm.trans hr9) (by rw [eg_5]; exact hq9.tS) rfl)
                    · first | (rfl) | fail
                    · first | (simp only [nI_s]) | fail
                    · first | (omega) | fail
                  · skip
                    refine j_iload hx d_Mo_tries_157 5 rfl ?_
                    refine j_goto (tgt := 163) hx d_Mo_tries_159 (by decide) ?_
                    refine j_put hx ck_Mo 42 (by decide) t_1460 (by decide) (sh_111 _ _) rfl (Nat.le_of_ble_eq_true rfl) (sh_111 _ _) d_Mo_tries_163 ?_
                    obtain ⟨s9_5, eg_5⟩ : ∃ z : St, z = trS t o s i la := ⟨_, rfl⟩
                    refine J.to (σ' := s9_5) (by rw [eg_5]; unfold trS; first | (rw [eg_4] at zc154; rw [eg_3, ew3] at zc127; rw [eg_4, if_neg (show ¬ b2 (0 < mbV (tr3 t o s i la)) = 0 from zc127)]; first | (rw [if_pos zc154]; done) | (rw [if_neg zc154]; done)) | (rw [eg_3, ew3] at zc127; rw [eg_3, ew3]; exact (if_pos (show b2 (0 < mbV (tr3 t o s i la)) = 0 from zc127)).symm)) rfl ?_
                    refine j_iinc hx [(4, .int ((nI i) + 1)), (3, .int w3), (5, .int (msb t o (nI i) (nI i))), (0, .ref (G.1 111)), (1, .ref (G.1 o)), (2, .int (nI s))] d_Mo_tries_166 5 rfl rfl (by decide) rfl ?_
                    refine j_goto (tgt := 25) hx d_Mo_tries_169 (by decide) ?_
                    refine J.lsub (ls' := [(0, .ref (G.1 111)), (1, .ref (G.1 o)), (2, .int (nI s)), (3, .int w3), (4, .int ((nI i) + 1))]) [3, 4, 5, 1, 0] rfl ?_
                    refine J.to ?_ ?_ (ih25 _ ?_ (i + 1) w3 s9_5 hlt25 (by rw [eg_5, ew3]; exact (trR_go hlt25 zc41).symm.trans hr9) (by rw [eg_5]; exact hq9.tS) rfl)
                    · first | (rfl) | fail
                    · first | (simp only [nI_s]) | fail
                    · first | (omega) | fail
                · skip
                  refine j_goto (tgt := 166) hx d_Mo_tries_130 (by decide) ?_
                  obtain ⟨s9_4, eg_4⟩ : ∃ z : St, z = trS t o s i la := ⟨_, rfl⟩
                  refine J.to (σ' := s9_4) (by rw [eg_4]; unfold trS; first | (rw [eg_4] at zc154; rw [eg_3, ew3] at zc127; rw [eg_4, if_neg (show ¬ b2 (0 < mbV (tr3 t o s i la)) = 0 from zc127)]; first | (rw [if_pos zc154]; done) | (rw [if_neg zc154]; done)) | (rw [eg_3, ew3] at zc127; rw [eg_3, ew3]; exact (if_pos (show b2 (0 < mbV (tr3 t o s i la)) = 0 from zc127)).symm)) rfl ?_
                  refine j_iinc hx [(4, .int ((nI i) + 1)), (3, .int w3), (5, .int (msb t o (nI i) (nI i))), (0, .ref (G.1 111)), (1, .ref (G.1 o)), (2, .int (nI s))] d_Mo_tries_166 5 rfl rfl (by decide) rfl ?_
                  refine j_goto (tgt := 25) hx d_Mo_tries_169 (by decide) ?_
                  refine J.lsub (ls' := [(0, .ref (G.1 111)), (1, .ref (G.1 o)), (2, .int (nI s)), (3, .int w3), (4, .int ((nI i) + 1))]) [3, 4, 5, 1, 0] rfl ?_
                  refine J.to ?_ ?_ (ih25 _ ?_ (i + 1) w3 s9_4 hlt25 (by rw [eg_4, ew3]; exact (trR_go hlt25 zc41).symm.trans hr9) (by rw [eg_4]; exact hq9.tS) rfl)
                  · first | (rfl) | fail
                  · first | (simp only [nI_s]) | fail
                  · first | (omega) | fail
              · skip
                refine j_iload hx d_Mo_tries_81 5 rfl ?_
                refine j_goto (tgt := 90) hx d_Mo_tries_83 (by decide) ?_
                refine j_put hx ck_Mo 45 (by decide) t_1463 (by decide) (sh_111 _ _) rfl (Nat.le_of_ble_eq_true rfl) (sh_111 _ _) d_Mo_tries_90 ?_
                obtain ⟨s9_2, eg_2⟩ : ∃ z : St, z = tr1 t o i := ⟨_, rfl⟩
                refine J.to (σ' := s9_2) (by rw [eg_2]; unfold tr1; first | (rw [if_pos ⟨zc70, zc78⟩]; done) | (rw [if_neg (fun z => zc78 z.2)]; done) | (rw [if_neg (fun z => zc70 z.1)]; done)) rfl ?_
                refine j_aload_n hx d_Mo_tries_93 rfl 2 rfl ?_
                refine j_dup hx d_Mo_tries_94 rfl ?_
                refine j_get hx ck_Mo 44 (by decide) t_1462 (by decide) (sh_111 _ _) rfl d_Mo_tries_95 ?_
                refine j_iload hx d_Mo_tries_98 1 rfl ?_
                refine j_iadd hx d_Mo_tries_100 ?_
                refine j_put hx ck_Mo 44 (by decide) t_1462 (by decide) (sh_111 _ _) rfl (Nat.le_of_ble_eq_true rfl) (sh_111 _ _) d_Mo_tries_101 ?_
                obtain ⟨s9_3, eg_3⟩ : ∃ z : St, z = tr2 t o i := ⟨_, rfl⟩
                refine J.to (σ' := s9_3) (by rw [eg_3]; rw [eg_2]; rfl) rfl ?_
                refine j_aload_n hx d_Mo_tries_104 rfl 2 rfl ?_
                refine j_iload_n hx d_Mo_tries_105 rfl 4 rfl ?_
                refine j_iload hx d_Mo_tries_106 1 rfl ?_
                refine j_iload hx d_Mo_tries_108 5 rfl ?_
                refine j_iload_n hx d_Mo_tries_110 rfl 0 rfl ?_
                refine j_isub hx d_Mo_tries_111 ?_
                refine j_iload hx d_Mo_tries_112 5 rfl ?_
                refine j_iload hx d_Mo_tries_114 5 rfl ?_
                refine j_aload_n hx d_Mo_tries_116 rfl 3 rfl ?_
                refine j_bipush (v := 27) hx d_Mo_tries_117 (by decide) ?_
                have hz119_12 : zin (27) 31 27 := by first | exact ⟨rfl, by decide⟩ | exact zin_nI (by omega) (by decide) | exact zin_of (by omega) (by omega)
                refine j_ialdk hx ho_o hz119_12 d_Mo_tries_119 ?_
                refine j_aload_n hx d_Mo_tries_120 rfl 3 rfl ?_
                refine j_bipush (v := 28) hx d_Mo_tries_121 (by decide) ?_
                have hz123_13 : zin (28) 31 28 := by first | exact ⟨rfl, by decide⟩ | exact zin_nI (by omega) (by decide) | exact zin_of (by omega) (by omega)
                refine j_ialdk hx ho_o hz123_13 d_Mo_tries_123 ?_
                refine j_callVi hx (c_Mo_isIn hG s9_3 s (msb t o (nI i) (nI i)) ((nI i) - w3) (nI i) (nI i) (s9_3 o 27) (s9_3 o 28) (by exact hs) (by rw [eg_3]; unfold tr2 tr1; exact ((hq9.up1 (by decide)).up1 (by decide)).law hw.2.2.2.1)) mo_Mo_isIn mv_Mo_isIn t_1752 (by decide) rfl (by decide) (sh_111 _ _) rfl rfl (Nat.le_of_ble_eq_true rfl) d_Mo_tries_124 ?_
                refine j_if_ne (tgt := 133) hx d_Mo_tries_127 (by decide) (fun zc127 => ?_) (fun zc127 => ?_)
                · skip
                  refine j_aload_n hx d_Mo_tries_133 rfl 2 rfl ?_
                  refine j_dup hx d_Mo_tries_134 rfl ?_
                  refine j_get hx ck_Mo 43 (by decide) t_1461 (by decide) (sh_111 _ _) rfl d_Mo_tries_135 ?_
                  refine j_iconst (v := 1) hx d_Mo_tries_138 (by decide) ?_
                  refine j_iload hx d_Mo_tries_139 5 rfl ?_
                  refine j_ishl hx d_Mo_tries_141 ?_
                  refine j_ior hx d_Mo_tries_142 ?_
                  refine j_put hx ck_Mo 43 (by decide) t_1461 (by decide) (sh_111 _ _) rfl (Nat.le_of_ble_eq_true rfl) (sh_111 _ _) d_Mo_tries_143 ?_
                  obtain ⟨s9_4, eg_4⟩ : ∃ z : St, z = tr4 t o s i la := ⟨_, rfl⟩
                  refine J.to (σ' := s9_4) (by rw [eg_4]; rw [eg_3, ew3]; rfl) rfl ?_
                  refine j_aload_n hx d_Mo_tries_146 rfl 2 rfl ?_
                  refine j_aload_n hx d_Mo_tries_147 rfl 2 rfl ?_
                  refine j_iload_n hx d_Mo_tries_148 rfl 4 rfl ?_
                  refine j_iload hx d_Mo_tries_149 5 rfl ?_
                  refine j_callVi hx (c_Mo_isReef hG s9_4 s i (by exact hs) (by omega)) mo_Mo_isReef mv_Mo_isReef t_1766 (by decide) rfl (by decide) (sh_111 _ _) rfl rfl (Nat.le_of_ble_eq_true rfl) d_Mo_tries_151 ?_
                  refine j_if_eq (tgt := 162) hx d_Mo_tries_154 (by decide) (fun zc154 => ?_) (fun zc154 => ?_)
                  · skip
                    refine j_iconst (v := (-1)) hx d_Mo_tries_162 (by decide) ?_
                    refine j_put hx ck_Mo 42 (by decide) t_1460 (by decide) (sh_111 _ _) rfl (Nat.le_of_ble_eq_true rfl) (sh_111 _ _) d_Mo_tries_163 ?_
                    obtain ⟨s9_5, eg_5⟩ : ∃ z : St, z = trS t o s i la := ⟨_, rfl⟩
                    refine J.to (σ' := s9_5) (by rw [eg_5]; unfold trS; first | (rw [eg_4] at zc154; rw [eg_3, ew3] at zc127; rw [eg_4, if_neg (show ¬ b2 (0 < mbV (tr3 t o s i la)) = 0 from zc127)]; first | (rw [if_pos zc154]; done) | (rw [if_neg zc154]; done)) | (rw [eg_3, ew3] at zc127; rw [eg_3, ew3]; exact (if_pos (show b2 (0 < mbV (tr3 t o s i la)) = 0 from zc127)).symm)) rfl ?_
                    refine j_iinc hx [(4, .int ((nI i) + 1)), (3, .int w3), (5, .int (msb t o (nI i) (nI i))), (0, .ref (G.1 111)), (1, .ref (G.1 o)), (2, .int (nI s))] d_Mo_tries_166 5 rfl rfl (by decide) rfl ?_
                    refine j_goto (tgt := 25) hx d_Mo_tries_169 (by decide) ?_
                    refine J.lsub (ls' := [(0, .ref (G.1 111)), (1, .ref (G.1 o)), (2, .int (nI s)), (3, .int w3), (4, .int ((nI i) + 1))]) [3, 4, 5, 1, 0] rfl ?_
                    refine J.to ?_ ?_ (ih25 _ ?_ (i + 1) w3 s9_5 hlt25 (by rw [eg_5, ew3]; exact (trR_go hlt25 zc41).symm.trans hr9) (by rw [eg_5]; exact hq9.tS) rfl)
                    · first | (rfl) | fail
                    · first | (simp only [nI_s]) | fail
                    · first | (omega) | fail
                  · skip
                    refine j_iload hx d_Mo_tries_157 5 rfl ?_
                    refine j_goto (tgt := 163) hx d_Mo_tries_159 (by decide) ?_
                    refine j_put hx ck_Mo 42 (by decide) t_1460 (by decide) (sh_111 _ _) rfl (Nat.le_of_ble_eq_true rfl) (sh_111 _ _) d_Mo_tries_163 ?_
                    obtain ⟨s9_5, eg_5⟩ : ∃ z : St, z = trS t o s i la := ⟨_, rfl⟩
                    refine J.to (σ' := s9_5) (by rw [eg_5]; unfold trS; first | (rw [eg_4] at zc154; rw [eg_3, ew3] at zc127; rw [eg_4, if_neg (show ¬ b2 (0 < mbV (tr3 t o s i la)) = 0 from zc127)]; first | (rw [if_pos zc154]; done) | (rw [if_neg zc154]; done)) | (rw [eg_3, ew3] at zc127; rw [eg_3, ew3]; exact (if_pos (show b2 (0 < mbV (tr3 t o s i la)) = 0 from zc127)).symm)) rfl ?_
                    refine j_iinc hx [(4, .int ((nI i) + 1)), (3, .int w3), (5, .int (msb t o (nI i) (nI i))), (0, .ref (G.1 111)), (1, .ref (G.1 o)), (2, .int (nI s))] d_Mo_tries_166 5 rfl rfl (by decide) rfl ?_
                    refine j_goto (tgt := 25) hx d_Mo_tries_169 (by decide) ?_
                    refine J.lsub (ls' := [(0, .ref (G.1 111)), (1, .ref (G.1 o)), (2, .int (nI s)), (3, .int w3), (4, .int ((nI i) + 1))]) [3, 4, 5, 1, 0] rfl ?_
                    refine J.to ?_ ?_ (ih25 _ ?_ (i + 1) w3 s9_5 hlt25 (by rw [eg_5, ew3]; exact (trR_go hlt25 zc41).symm.trans hr9) (by rw [eg_5]; exact hq9.tS) rfl)
                    · first | (rfl) | fail
                    · first | (simp only [nI_s]) | fail
                    · first | (omega) | fail
                · skip
                  refine j_goto (tgt := 166) hx d_Mo_tries_130 (by decide) ?_
                  obtain ⟨s9_4, eg_4⟩ : ∃ z : St, z = trS t o s i la := ⟨_, rfl⟩
                  refine J.to (σ' := s9_4) (by rw [eg_4]; unfold trS; first | (rw [eg_4] at zc154; rw [eg_3, ew3] at zc127; rw [eg_4, if_neg (show ¬ b2 (0 < mbV (tr3 t o s i la)) = 0 from zc127)]; first | (rw [if_pos zc154]; done) | (rw [if_neg zc154]; done)) | (rw [eg_3, ew3] at zc127; rw [eg_3, ew3]; exact (if_pos (show b2 (0 < mbV (tr3 t o s i la)) = 0 from zc127)).symm)) rfl ?_
                  refine j_iinc hx [(4, .int ((nI i) + 1)), (3, .int w3), (5, .int (msb t o (nI i) (nI i))), (0, .ref (G.1 111)), (1, .ref (G.1 o)), (2, .int (nI s))] d_Mo_tries_166 5 rfl rfl (by decide) rfl ?_
                  refine j_goto (tgt := 25) hx d_Mo_tries_169 (by decide) ?_
                  refine J.lsub (ls' := [(0, .ref (G.1 111)), (1, .ref (G.1 o)), (2, .int (nI s)), (3, .int w3), (4, .int ((nI i) + 1))]) [3, 4, 5, 1, 0] rfl ?_
                  refine J.to ?_ ?_ (ih25 _ ?_ (i + 1) w3 s9_4 hlt25 (by rw [eg_4, ew3]; exact (trR_go hlt25 zc41).symm.trans hr9) (by rw [eg_4]; exact hq9.tS) rfl)
                  · first | (rfl) | fail
                  · first | (simp only [nI_s]) | fail
                  · first | (omega) | fail
  refine J.lsub (ls' := [(0, .ref (G.1 111)), (1, .ref (G.1 o)), (2, .int (nI s)), (3, .int 0), (4, .int 0)]) [2, 3, 4, 1, 0] rfl ?_
  refine J.to ?_ ?_ (hl25 _ 0 0 s9_1 (Nat.zero_le _) (by rw [eg_1]; rfl) (by rw [eg_1]; exact sq.rf.t0) rfl)
  · first | (rfl) | fail
  · first | (rfl) | fail

set_option maxRecDepth 20000 in
set_option maxHeartbeats 4000000 in
theorem c_Mo_aliveOf {l : Launch} {G : Gz} (hG : zI G) (σ : St) (s : Nat) (hs : s < 6) (hsa : saW σ) : MI l G y_Mo_aliveOf prog_14_method_54_code 2 .int 2 [.ref (G.1 111), .int (nI s)] σ (mal σ s) σ := by
  refine MI.of hG (by decide) (Nat.le_of_ble_eq_true rfl) (fun X hx hq => ?_)
  show J l G X 2 σ 0 [(0, .ref (G.1 111)), (1, .int (nI s))] []
  refine j_aload_n hx d_Mo_aliveOf_0 rfl 0 rfl ?_
  refine j_get hx ck_Mo 42 (by decide) t_1460 (by decide) (sh_111 _ _) rfl d_Mo_aliveOf_1 ?_
  refine j_iconst (v := (-1)) hx d_Mo_aliveOf_4 (by decide) ?_
  refine j_icmp_ne (tgt := 19) hx d_Mo_aliveOf_5 (by decide) (fun zc5 => ?_) (fun zc5 => ?_)
  · skip
    refine j_iconst (v := 0) hx d_Mo_aliveOf_19 (by decide) ?_
    refine j_aload_n hx d_Mo_aliveOf_20 rfl 0 rfl ?_
    refine j_get hx ck_Mo 22 (by decide) t_1440 (by decide) (sh_111 _ _) rfl d_Mo_aliveOf_21 ?_
    refine j_iload_n hx d_Mo_aliveOf_24 rfl 1 rfl ?_
    have hz25_1 : zin (nI s) 6 s := by first | exact ⟨rfl, by decide⟩ | exact zin_nI (by omega) (by decide) | exact zin_of (by omega) (by omega)
    refine j_aaldk hx ias_ship.1.1 (ias_ship.2.1 _ _) hz25_1 d_Mo_aliveOf_25 ?_
    refine j_iconst (v := 1) hx d_Mo_aliveOf_26 (by decide) ?_
    have hz27_2 : zin (1) 4 1 := by first | exact ⟨rfl, by decide⟩ | exact zin_nI (by omega) (by decide) | exact zin_of (by omega) (by omega)
    refine j_ialdk hx (ias_ship.2.2 _ hz25_1.2) hz27_2 d_Mo_aliveOf_27 ?_
    refine j_aload_n hx d_Mo_aliveOf_28 rfl 0 rfl ?_
    refine j_get hx ck_Mo 14 (by decide) t_1432 (by decide) (sh_111 _ _) rfl d_Mo_aliveOf_29 ?_
    refine j_aload_n hx d_Mo_aliveOf_32 rfl 0 rfl ?_
    refine j_get hx ck_Mo 42 (by decide) t_1460 (by decide) (sh_111 _ _) rfl d_Mo_aliveOf_33 ?_
    have hz36_3 : zin (σ 111 42) 12 ((σ 111 42).toInt.toNat) := by exact zin_of (hsa.resolve_left zc5).1 (hsa.resolve_left zc5).2
    refine j_ialdk hx ia_117 hz36_3 d_Mo_aliveOf_36 ?_
    refine j_isub hx d_Mo_aliveOf_37 ?_
    refine j_callSi hx (c_Mo_more hG σ 0 ((σ (161 + s) 1) - (σ 117 ((σ 111 42).toInt.toNat)))) mo_Mo_more t_1764 t_1763 (by decide) rfl rfl (Nat.le_of_ble_eq_true rfl) d_Mo_aliveOf_38 ?_
    exact j_iret hx hq rfl d_Mo_aliveOf_41 (by first | (unfold mal; first | exact (if_pos zc5).symm | exact (if_neg zc5).symm) | fail) (by first | (first | rfl | (simp only [zc5]; done) | (simp [zc5]; done)) | fail)
  · skip
    refine j_aload_n hx d_Mo_aliveOf_8 rfl 0 rfl ?_
    refine j_get hx ck_Mo 22 (by decide) t_1440 (by decide) (sh_111 _ _) rfl d_Mo_aliveOf_9 ?_
    refine j_iload_n hx d_Mo_aliveOf_12 rfl 1 rfl ?_
    have hz13_4 : zin (nI s) 6 s := by first | exact ⟨rfl, by decide⟩ | exact zin_nI (by omega) (by decide) | exact zin_of (by omega) (by omega)
    refine j_aaldk hx ias_ship.1.1 (ias_ship.2.1 _ _) hz13_4 d_Mo_aliveOf_13 ?_
    refine j_iconst (v := 1) hx d_Mo_aliveOf_14 (by decide) ?_
    have hz15_5 : zin (1) 4 1 := by first | exact ⟨rfl, by decide⟩ | exact zin_nI (by omega) (by decide) | exact zin_of (by omega) (by omega)
    refine j_ialdk hx (ias_ship.2.2 _ hz13_4.2) hz15_5 d_Mo_aliveOf_15 ?_
    refine j_goto (tgt := 41) hx d_Mo_aliveOf_16 (by decide) ?_
    exact j_iret hx hq rfl d_Mo_aliveOf_41 (by first | (unfold mal; first | exact (if_pos zc5).symm | exact (if_neg zc5).symm) | fail) (by first | (first | rfl | (simp only [zc5]; done) | (simp [zc5]; done)) | fail)

set_option maxRecDepth 20000 in
set_option maxHeartbeats 4000000 in
theorem c_Mo_parishBy {l : Launch} {G : Gz} (hG : zI G) (σ : St) (s : Nat) (hs : s < 6) (hsa : saW σ) : MI l G y_Mo_parishBy prog_14_method_55_code 2 .int 3 [.ref (G.1 111), .int (nI s)] σ (mpa σ s) σ := by
  refine MI.of hG (by decide) (Nat.le_of_ble_eq_true rfl) (fun X hx hq => ?_)
  show J l G X 2 σ 0 [(0, .ref (G.1 111)), (1, .int (nI s))] []
  refine j_aload_n hx d_Mo_parishBy_0 rfl 0 rfl ?_
  refine j_get hx ck_Mo 42 (by decide) t_1460 (by decide) (sh_111 _ _) rfl d_Mo_parishBy_1 ?_
  refine j_iconst (v := (-1)) hx d_Mo_parishBy_4 (by decide) ?_
  refine j_icmp_eq (tgt := 27) hx d_Mo_parishBy_5 (by decide) (fun zc5 => ?_) (fun zc5 => ?_)
  · skip
    refine j_iconst (v := 0) hx d_Mo_parishBy_27 (by decide) ?_
    exact j_iret hx hq rfl d_Mo_parishBy_28 (by first | (unfold mpa; first | exact (if_neg (c := ¬ σ 111 42 = -1 ∧ mal σ s = 0) (fun z => z.1 zc5)).symm | exact (if_pos (c := ¬ σ 111 42 = -1 ∧ mal σ s = 0) ⟨zc5, zc13⟩).symm | exact (if_neg (c := ¬ σ 111 42 = -1 ∧ mal σ s = 0) (fun z => zc13 z.2)).symm) | fail) (by first | (first | rfl | (simp only [zc5]; done) | (simp [zc5]; done)) | fail)
  · skip
    refine j_aload_n hx d_Mo_parishBy_8 rfl 0 rfl ?_
    refine j_iload_n hx d_Mo_parishBy_9 rfl 1 rfl ?_
    refine j_callVi hx (c_Mo_aliveOf hG σ s (by first | assumption | omega) (by first | assumption | omega)) mo_Mo_aliveOf mv_Mo_aliveOf t_1770 (by decide) rfl (by decide) (sh_111 _ _) rfl rfl (Nat.le_of_ble_eq_true rfl) d_Mo_parishBy_10 ?_
    refine j_if_ne (tgt := 27) hx d_Mo_parishBy_13 (by decide) (fun zc13 => ?_) (fun zc13 => ?_)
    · skip
      refine j_iconst (v := 0) hx d_Mo_parishBy_27 (by decide) ?_
      exact j_iret hx hq rfl d_Mo_parishBy_28 (by first | (unfold mpa; first | exact (if_neg (c := ¬ σ 111 42 = -1 ∧ mal σ s = 0) (fun z => z.1 zc5)).symm | exact (if_pos (c := ¬ σ 111 42 = -1 ∧ mal σ s = 0) ⟨zc5, zc13⟩).symm | exact (if_neg (c := ¬ σ 111 42 = -1 ∧ mal σ s = 0) (fun z => zc13 z.2)).symm) | fail) (by first | (first | rfl | (simp only [zc5, zc13]; done) | (simp [zc5, zc13]; done)) | fail)
    · skip
      refine j_aload_n hx d_Mo_parishBy_16 rfl 0 rfl ?_
      refine j_get hx ck_Mo 22 (by decide) t_1440 (by decide) (sh_111 _ _) rfl d_Mo_parishBy_17 ?_
      refine j_iload_n hx d_Mo_parishBy_20 rfl 1 rfl ?_
      have hz21_1 : zin (nI s) 6 s := by first | exact ⟨rfl, by decide⟩ | exact zin_nI (by omega) (by decide) | exact zin_of (by omega) (by omega)
      refine j_aaldk hx ias_ship.1.1 (ias_ship.2.1 _ _) hz21_1 d_Mo_parishBy_21 ?_
      refine j_iconst (v := 0) hx d_Mo_parishBy_22 (by decide) ?_
      have hz23_2 : zin (0) 4 0 := by first | exact ⟨rfl, by decide⟩ | exact zin_nI (by omega) (by decide) | exact zin_of (by omega) (by omega)
      refine j_ialdk hx (ias_ship.2.2 _ hz21_1.2) hz23_2 d_Mo_parishBy_23 ?_
      refine j_goto (tgt := 28) hx d_Mo_parishBy_24 (by decide) ?_
      exact j_iret hx hq rfl d_Mo_parishBy_28 (by first | (unfold mpa; first | exact (if_neg (c := ¬ σ 111 42 = -1 ∧ mal σ s = 0) (fun z => z.1 zc5)).symm | exact (if_pos (c := ¬ σ 111 42 = -1 ∧ mal σ s = 0) ⟨zc5, zc13⟩).symm | exact (if_neg (c := ¬ σ 111 42 = -1 ∧ mal σ s = 0) (fun z => zc13 z.2)).symm) | fail) (by first | (first | rfl | (simp only [zc5, zc13]; done) | (simp [zc5, zc13]; done)) | fail)

