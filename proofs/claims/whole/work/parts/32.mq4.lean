theorem nI_bk {x : Int32} (h : 0 ≤ x.toInt) : nI x.toInt.toNat = x := by
  have := i_hi x
  rw [i_eq, i_nI (by omega)]; omega
/-- the first n of the rows from qb on are those from qa on -/
def lay (σ : St) (qa qb w n : Nat) : St := fun o k => if (qb ≤ o ∧ o < qb + n) ∧ k < w then σ (qa + (o - qb)) k else σ o k
theorem lay_0 {σ : St} {qa qb w : Nat} : lay σ qa qb w 0 = σ := by
  funext o k; unfold lay; rw [if_neg (by omega)]
theorem lay_o {σ : St} {qa qb w n o : Nat} (h : o < qb ∨ qb + n ≤ o) : lay σ qa qb w n o = σ o := by
  funext k; unfold lay; rw [if_neg (by omega)]
theorem lay_s {σ : St} {qa qb w n : Nat} (hd : qa + n < qb ∨ qb + n < qa) : fl (lay σ qa qb w n) (qb + n) w (σ (qa + n)) = lay σ qa qb w (n + 1) := by
  funext o k
  unfold fl lay
  by_cases h : o = qb + n
  · subst h
    rw [if_pos rfl, if_neg (show ¬ ((qb ≤ qb + n ∧ qb + n < qb + n) ∧ k < w) by omega)]
    by_cases hk : k < w
    · rw [if_pos hk, if_pos (by omega), show qb + n - qb = n by omega]
    · rw [if_neg hk, if_neg (by omega)]
  · rw [if_neg h]
    by_cases h2 : (qb ≤ o ∧ o < qb + n) ∧ k < w
    · rw [if_pos h2, if_pos (by omega)]
    · rw [if_neg h2, if_neg (by omega)]
def mtn (σ : St) : St := up (fl σ 114 5 (fun _ => 0)) 114 5 2
/-! a new coast -/
def ba1 (σ : St) : St := fl σ 115 6 (σ 114)
def ba2 (s : St) : St := fl s 117 (ct (s 115 0)) (s 116)
def ba3 (s : St) : St := fl s 119 (ct (s 115 4)) (s 118)
def ba4 (s : St) : St := lay s 137 143 2 (ct (s 115 1))
def ba5 (s : St) : St := lay s 149 152 2 (ct (s 115 2))
def ba6 (s : St) : St := lay s 155 161 4 (ct (s 115 3))
def ba7 (s : St) : St := fl s 122 31 (fun _ => 0)
def ba8 (s : St) : St := up s 122 0 ((1 <<< (s 115 1 &&& 31)) - 1)
def ba9 (s : St) (n : Nat) : St := it (fun d u => up u 122 (1 + d) (u (152 + d) 0)) s n
def ba10 (s : St) : St := up s 122 29 (-1)
def ba11 (s : St) : St := up (up (up (up (up s 111 23 0) 111 37 0) 111 38 0) 111 39 0) 111 40 0
theorem ba9_o {s : St} {n o : Nat} (h : o ≠ 122) : ba9 s n o = s o := by
  induction n with
  | zero => rfl
  | succ n ih => show up (ba9 s n) 122 (1 + n) _ o = _; rw [up_o h, ih]
def ba6s (σ : St) : St := ba6 (ba5 (ba4 (ba3 (ba2 (ba1 σ)))))
def ba8s (σ : St) : St := ba8 (ba7 (ba6s σ))
def baS (σ : St) : St := ba11 (ba10 (ba9 (ba8s σ) (ct (ba8s σ 115 2))))
abbrev rtB (σ : St) : Prop := ct (σ 114 0) ≤ 12 ∧ ct (σ 114 1) ≤ 6 ∧ ct (σ 114 2) ≤ 3 ∧ ct (σ 114 3) ≤ 6 ∧ ct (σ 114 4) ≤ 6
theorem ba1_115 {σ : St} {k : Nat} (h : k < 6) : ba1 σ 115 k = σ 114 k := by
  unfold ba1 fl; rw [if_pos rfl, if_pos h]
theorem ba2_o {s : St} {o : Nat} (h : o ≠ 117) : ba2 s o = s o := by unfold ba2; exact fl_o h
theorem ba3_o {s : St} {o : Nat} (h : o ≠ 119) : ba3 s o = s o := by unfold ba3; exact fl_o h
theorem ba4_115 {s : St} : ba4 s 115 = s 115 := by unfold ba4; exact lay_o (Or.inl (by decide))
theorem ba5_115 {s : St} : ba5 s 115 = s 115 := by unfold ba5; exact lay_o (Or.inl (by decide))
theorem ba6_115 {s : St} : ba6 s 115 = s 115 := by unfold ba6; exact lay_o (Or.inl (by decide))
theorem ba6s_115 {σ : St} : ba6s σ 115 = ba1 σ 115 := by
  unfold ba6s; rw [ba6_115, ba5_115, ba4_115, ba3_o (by decide), ba2_o (by decide)]
theorem ba8s_115 {σ : St} : ba8s σ 115 = ba1 σ 115 := by
  unfold ba8s ba8 ba7; rw [up_o (by decide), fl_o (by decide), ba6s_115]
/-! a step -/
abbrev mdK (σ : St) (e : Nat) : Nat := (σ e 1).toInt.toNat
def mdV (σ : St) (o e : Nat) : Int32 := if σ e 0 = 0 then (if b2 (hB (σ o 0) (nI (mdK σ e))) = 0 then 0 else 1) else if σ e 0 = 1 then (if b2 (hB (σ o 0) (nI (mdK σ e))) = 1 then 0 else 1) else if σ e 0 = 2 then (if σ o (1 + mdK σ e) = σ e 2 then 0 else 1) else if σ e 0 = 3 then (if σ 115 0 = 0 ∨ ¬ b2 (hB (σ o 4) (nI (mdK σ e))) = 0 then 0 else 1) else if σ e 0 = 4 then (if σ o 28 = 1 then 0 else 1) else (if σ o 27 < 500 then 1 else 0)
def mdF (σ : St) (o e : Nat) : St := up σ o 0 (σ o 0 ^^^ (1 <<< (nI (mdK σ e) &&& 31)))
def mdS (σ : St) (o e : Nat) : St := if σ e 0 = 0 then (if b2 (hB (σ o 0) (nI (mdK σ e))) = 0 then σ else mdF σ o e) else if σ e 0 = 1 then (if b2 (hB (σ o 0) (nI (mdK σ e))) = 1 then σ else mdF σ o e) else if σ e 0 = 2 then (if σ o (1 + mdK σ e) = σ e 2 then σ else up σ o (1 + mdK σ e) (σ e 2)) else if σ e 0 = 3 then (if σ 115 0 = 0 ∨ ¬ b2 (hB (σ o 4) (nI (mdK σ e))) = 0 then σ else mpS σ o (mdK σ e)) else if σ e 0 = 4 then (if σ o 28 = 1 then σ else up σ o 28 1) else (if σ o 27 < 500 then mne σ o else σ)
/-! steps -/
/-- t is σ but for what WORK changes -/
def gq (σ t : St) : Prop := (∀ o, o ≠ 111 → o ≠ 120 → o ≠ 121 → o ≠ 122 → t o = σ o) ∧ (∀ f, f < 41 → f ≠ 39 → t 111 f = σ 111 f) ∧ (rW σ 122 → rW t 122)
theorem gq.rf {σ : St} : gq σ σ := ⟨fun _ _ _ _ _ => rfl, fun _ _ _ => rfl, id⟩
theorem gq.tr {σ t u : St} (h : gq σ t) (h2 : gq t u) : gq σ u := ⟨fun o a b c d => (h2.1 o a b c d).trans (h.1 o a b c d), fun f hf h9 => (h2.2.1 f hf h9).trans (h.2.1 f hf h9), fun z => h2.2.2 (h.2.2 z)⟩
theorem sq.g {σ t : St} (h : sq σ t) : gq σ t := ⟨fun o a b c _ => h.1 o a b c, fun f hf _ => h.2 f hf, fun z => h.r (by decide) (by decide) (by decide) z⟩
theorem gq.w {σ t : St} (h : gq σ t) (hw : mW σ) : mW t := mW_eq (h.1 115 (by decide) (by decide) (by decide) (by decide)) (fun o h1 h2 => h.1 o (by omega) (by omega) (by omega) (by omega)) (h.2.1 23 (by decide) (by decide)) (h.2.1 37 (by decide) (by decide)) hw
theorem gq.up1 {σ t : St} (h : gq σ t) {k : Nat} {v : Int32} (hk : 41 ≤ k ∨ k = 39) : gq σ (up t 111 k v) := ⟨fun o a b c d => by rw [up_o a]; exact h.1 o a b c d, fun f hf h9 => by rw [up_k (by omega)]; exact h.2.1 f hf h9, fun z => by unfold rW; rw [up_o (by decide)]; exact h.2.2 z⟩
theorem gq.row {σ t : St} (h : gq σ t) {k : Nat} {v : Int32} (hk : k < 28) : gq σ (up t 122 k v) := ⟨fun o a b c d => by rw [up_o d]; exact h.1 o a b c d, fun f hf h9 => by rw [up_o (by decide)]; exact h.2.1 f hf h9, fun z => by unfold rW; rw [up_k (by omega), up_k (by omega), up_k (by omega)]; exact h.2.2 z⟩
theorem gq.fog {σ t : St} (h : gq σ t) {v : Int32} (hv : ¬ 1 + v = 0) : gq σ (up t 122 28 v) := ⟨fun o a b c d => by rw [up_o d]; exact h.1 o a b c d, fun f hf h9 => by rw [up_o (by decide)]; exact h.2.1 f hf h9, fun z => by have := h.2.2 z; unfold rW at *; rw [up_rd, up_k (by decide), up_k (by decide)]; exact ⟨hv, this.2⟩⟩
theorem gq.pS {σ t : St} (h : gq σ t) {s : Nat} (hs : s < 6) (h0 : tl t 0 ≤ 12) : gq σ (mpS t 122 s) := by
  have h1 : gq σ (mp1 t 122 s) := by unfold mp1; exact (h.tr sq.rf.tF.g).row (by decide)
  have hsa : saW (mp1 t 122 s) := by unfold mp1; exact saW_up (by decide) (trF_sa h0)
  unfold mpS
  split
  · exact h1
  · rename_i hst
    have hc := hsa.resolve_left hst
    have h2 : gq σ (mp2 (mp1 t 122 s) 122 s) := by unfold mp2; exact h1.row (by omega)
    have e2 : (mp2 (mp1 t 122 s) 122 s) 111 42 = (mp1 t 122 s) 111 42 := by unfold mp2; rw [up_o (by decide)]
    have h3 : gq σ (mp3 (mp2 (mp1 t 122 s) 122 s) 122) := by unfold mp3; exact h2.row (by rw [e2]; omega)
    have h5 : gq σ (mp5 (mp4 (mp3 (mp2 (mp1 t 122 s) 122 s) 122) 122) 122 s) := by unfold mp5 mp4; exact (h3.row (by decide)).row (by decide)
    unfold mp6
    split
    · exact h5.row (by decide)
    · exact h5.row (by decide)
theorem gq.ne {σ t : St} (h : gq σ t) : gq σ (mne t 122) := by unfold mne; exact ((h.row (by decide)).fog (by decide)).row (by decide)
def gst (σ : St) (s : Nat) : Prop := 0 ≤ (σ (511 + s) 1).toInt ∧ (σ (511 + s) 0 = 2 → (σ (511 + s) 1).toInt < 3) ∧ (σ (511 + s) 0 = 3 → (σ (511 + s) 1).toInt < 6) ∧ 0 ≤ (σ (511 + s) 3).toInt
abbrev mgE (σ : St) (s : Nat) : Nat := (σ (511 + s) 3).toInt.toNat
abbrev mgC (σ : St) (s : Nat) : Nat := ct (σ (511 + s) 1)
/-- the steps from a to b stand well, agains in d others at most -/
def gok (σ : St) : Nat → Nat → Nat → Prop
  | 0, a, b => ∀ s, a ≤ s → s < b → gst σ s ∧ (s < mgE σ s ∧ mgE σ s ≤ b) ∧ ¬ σ (511 + s) 0 = 6
  | d + 1, a, b => ∀ s, a ≤ s → s < b → gst σ s ∧ (s < mgE σ s ∧ mgE σ s ≤ b) ∧ (σ (511 + s) 0 = 6 → gok σ d (s + 1) (mgE σ s))
theorem gok_1 {σ : St} {d a b s : Nat} (h : gok σ d a b) (h1 : a ≤ s) (h2 : s < b) : gst σ s ∧ s < mgE σ s ∧ mgE σ s ≤ b := by
  cases d with
  | zero => exact ⟨(h s h1 h2).1, (h s h1 h2).2.1⟩
  | succ d => exact ⟨(h s h1 h2).1, (h s h1 h2).2.1⟩
theorem gok_2 {σ : St} {d a b s : Nat} (h : gok σ d a b) (h1 : a ≤ s) (h2 : s < b) (h3 : σ (511 + s) 0 = 6) : d ≠ 0 ∧ gok σ (d - 1) (s + 1) (mgE σ s) := by
  cases d with
  | zero => exact absurd h3 (h s h1 h2).2.2
  | succ d => exact ⟨by omega, (h s h1 h2).2.2 h3⟩
theorem gok_eq {σ t : St} : ∀ (d a b : Nat), b ≤ 80 → (∀ s, s < 80 → t (511 + s) = σ (511 + s)) → gok σ d a b → gok t d a b := by
  intro d
  induction d with
  | zero =>
    intro a b hb he h s h1 h2
    have e1 := he s (by omega)
    have := h s h1 h2
    unfold gst mgE at *
    rw [e1]; exact this
  | succ d ih =>
    intro a b hb he h s h1 h2
    have e1 := he s (by omega)
    have h9 := h s h1 h2
    refine ⟨by have := h9.1; unfold gst at *; rw [e1]; exact this, by have := h9.2.1; unfold mgE at *; rw [e1]; exact this, fun h6 => ?_⟩
    rw [e1] at h6
    have := ih (s + 1) (mgE σ s) (by have := h9.2.1.2; omega) he (h9.2.2 h6)
    unfold mgE at *; rw [e1]; exact this
theorem gq.ok {σ t : St} (h : gq σ t) {d a b : Nat} (hb : b ≤ 80) (hg : gok σ d a b) : gok t d a b := gok_eq d a b hb (fun s hs => h.1 (511 + s) (by omega) (by omega) (by omega) (by omega)) hg
theorem gq.st {σ t : St} (h : gq σ t) {s : Nat} : t (511 + s) = σ (511 + s) := h.1 (511 + s) (by omega) (by omega) (by omega) (by omega)
theorem gq.dS {σ t : St} (h : gq σ t) {s : Nat} (h0 : tl t 0 ≤ 12) (hg : gst t s) : gq σ (mdS t 122 (511 + s)) := by
  unfold mdS mdF
  split
  · split
    · exact h
    · exact h.row (by decide)
  · split
    · split
      · exact h
      · exact h.row (by decide)
    · split
      · rename_i hk
        split
        · exact h
        · exact h.row (by have := hg.2.1 hk; have := hg.1; unfold mdK; omega)
      · split
        · rename_i hk
          split
          · exact h
          · exact h.pS (by have := hg.2.2.1 hk; have := hg.1; unfold mdK; omega) h0
        · split
          · split
            · exact h
            · exact h.fog (by decide)
          · split
            · exact h.ne
            · exact h
def mg1 (t : St) : St := up t 111 46 (t 111 46 + 1)
def mgI (rec : Nat → Nat → St → St) (a b : Nat) (t : St) (n : Nat) : St := it (fun _ u => if u 111 46 < 200 then rec a b u else u) t n
def mgD1 (t : St) (s : Nat) : St := up (mdS t 122 (511 + s)) 111 47 (mdS t 122 (511 + s) 111 47 + (if mdV t 122 (511 + s) = 0 then 0 else 1))
def mgD (t : St) (s : Nat) : St := up (mgD1 t s) 111 39 (mgD1 t s 111 39 + (if mdV t 122 (511 + s) = 0 then 1 else 0))
def mgB (rec : Nat → Nat → St → St) (t : St) (s : Nat) : St := if mg1 t (511 + s) 0 = 6 then mgI rec (s + 1) (mgE (mg1 t) s) (mg1 t) (mgC (mg1 t) s) else mgD (mg1 t) s
def mgR (rec : Nat → Nat → St → St) (b : Nat) : Nat → Nat → St → St
  | 0, _, t => t
  | n + 1, s, t => if s < b ∧ t 111 46 < 200 then mgR rec b n (mgE t s) (mgB rec t s) else t
def mgF (rec : Nat → Nat → St → St) (a b : Nat) (t : St) : St := mgR rec b (b - a) a t
theorem mgR_stop {rec : Nat → Nat → St → St} {b n s : Nat} {t : St} (h : ¬ (s < b ∧ t 111 46 < 200)) : mgR rec b n s t = t := by
  cases n with
  | zero => rfl
  | succ n => rw [mgR, if_neg h]
theorem mgR_go {rec : Nat → Nat → St → St} {b n s : Nat} {t : St} (hn : b - s ≤ n) (h : s < b) (h1 : t 111 46 < 200) : mgR rec b n s t = mgR rec b (n - 1) (mgE t s) (mgB rec t s) := by
  cases n with
  | zero => omega
  | succ n => rw [mgR, if_pos ⟨h, h1⟩]; rfl
theorem mgI_s {rec : Nat → Nat → St → St} {a b n : Nat} {t : St} : mgI rec a b t (n + 1) = if mgI rec a b t n 111 46 < 200 then rec a b (mgI rec a b t n) else mgI rec a b t n := rfl
theorem mgI_stop {rec : Nat → Nat → St → St} {a b i n : Nat} {t : St} (hi : i ≤ n) (h : ¬ mgI rec a b t i 111 46 < 200) : mgI rec a b t i = mgI rec a b t n := by
  induction n with
  | zero => rw [show i = 0 by omega]
  | succ n ih =>
    by_cases hq : i = n + 1
    · rw [hq]
    · have := ih (by omega)
      rw [mgI_s, ← this, if_neg h]
def mgN : Nat → Nat → Nat → St → St
  | 0 => mgF (fun _ _ t => t)
  | d + 1 => mgF (mgN d)
/-- what a recursion must keep -/
def gfr (rec : Nat → Nat → St → St) (d : Nat) : Prop := ∀ (a b : Nat) (t : St), b ≤ 80 → gok t d a b → tl t 0 ≤ 12 → gq t (rec a b t)
theorem gq.I {rec : Nat → Nat → St → St} {d a b n : Nat} {t : St} (hr : gfr rec d) (hb : b ≤ 80) (hg : gok t d a b) (h0 : tl t 0 ≤ 12) : gq t (mgI rec a b t n) := by
  induction n with
  | zero => exact gq.rf
  | succ n ih =>
    rw [mgI_s]
    split
    · exact ih.tr (hr a b _ hb (ih.ok hb hg) (by unfold tl; rw [ih.1 115 (by decide) (by decide) (by decide) (by decide)]; exact h0))
    · exact ih
theorem gq.D {t : St} {s : Nat} (h0 : tl t 0 ≤ 12) (hg : gst t s) : gq t (mgD t s) := by
  unfold mgD mgD1
  exact ((gq.rf.dS h0 hg).up1 (Or.inl (by decide))).up1 (Or.inr rfl)
theorem gst_eq {σ t : St} {s : Nat} (h : t (511 + s) = σ (511 + s)) (hg : gst σ s) : gst t s := by unfold gst at *; rw [h]; exact hg
theorem gq.B {rec : Nat → Nat → St → St} {d a b s : Nat} {t : St} (hr : d ≠ 0 → gfr rec (d - 1)) (hb : b ≤ 80) (hg : gok t d a b) (h1 : a ≤ s) (h2 : s < b) (h0 : tl t 0 ≤ 12) : gq t (mgB rec t s) := by
  have q1 : gq t (mg1 t) := by unfold mg1; exact gq.rf.up1 (Or.inl (by decide))
  have h9 := gok_1 hg h1 h2
  have e1 : (mg1 t) (511 + s) = t (511 + s) := q1.st
  have q0 : tl (mg1 t) 0 ≤ 12 := by unfold tl; rw [q1.1 115 (by decide) (by decide) (by decide) (by decide)]; exact h0
  unfold mgB
  split
  · rename_i h6
    rw [e1] at h6
    have hx := gok_2 hg h1 h2 h6
    have e2 : mgE (mg1 t) s = mgE t s := by unfold mgE; rw [e1]
    rw [e2]
    exact q1.tr (gq.I (hr hx.1) (by have := h9.2.2; omega) (q1.ok (by have := h9.2.2; omega) hx.2) q0)
  · exact q1.tr (gq.D q0 (gst_eq e1 h9.1))
theorem gq.R {rec : Nat → Nat → St → St} {d a b : Nat} (hr : d ≠ 0 → gfr rec (d - 1)) (hb : b ≤ 80) : ∀ (n s : Nat) (t : St), gok t d a b → a ≤ s → tl t 0 ≤ 12 → gq t (mgR rec b n s t) := by
  intro n
  induction n with
  | zero => intro s t _ _ _; exact gq.rf
  | succ n ih =>
    intro s t hg h1 h0
    rw [mgR]
    split
    · rename_i h
      have q := gq.B hr hb hg h1 h.1 h0
      exact q.tr (ih _ _ (q.ok hb hg) (by have := (gok_1 hg h1 h.1).2.1; omega) (by unfold tl; rw [q.1 115 (by decide) (by decide) (by decide) (by decide)]; exact h0))
    · exact gq.rf
theorem gfr_F {rec : Nat → Nat → St → St} {d : Nat} (hr : d ≠ 0 → gfr rec (d - 1)) : gfr (mgF rec) d := fun a b t hb hg h0 => gq.R hr hb _ _ _ hg (Nat.le_refl _) h0
theorem gfr_N (d : Nat) : gfr (mgN d) d := by
  induction d with
  | zero => exact gfr_F (fun h => absurd rfl h)
  | succ d ih => exact gfr_F (fun _ => ih)
/-! images: one long row -/
def pu1 (σ : St) (o : Nat) (v : Int32) (back : Int32) : St := up (if back = 0 then up σ o (σ 111 41).toInt.toNat v else σ) 111 41 (σ 111 41 + 1)
def puV (σ : St) (o : Nat) (v back : Int32) : Int32 := if back = 0 then v else σ o (σ 111 41).toInt.toNat
theorem goes_b1 {rec : Nat → Nat → St → St} {t : St} {s : Nat} (h : mg1 t (511 + s) 0 = 6) : mgI rec (s + 1) (mgE (mg1 t) s) (mg1 t) (mgC (mg1 t) s) = mgB rec t s := (if_pos h).symm
theorem goes_b2 {rec : Nat → Nat → St → St} {t : St} {s : Nat} (h : ¬ mg1 t (511 + s) 0 = 6) : mgD (mg1 t) s = mgB rec t s := (if_neg h).symm

set_option maxRecDepth 20000 in
set_option maxHeartbeats 4000000 in
theorem c_Mo_copies {l : Launch} {G : Gz} (hG : zI G) {a : Nat} (ho_a : isArr a 31) {b : Nat} (ho_b : isArr b 31) (σ : St) (hab : a ≠ b) : MV l G y_Mo_copies prog_14_method_30_code 3 1 [.ref (G.1 a), .ref (G.1 b)] σ (fl σ b 31 (σ a)) := by
  refine MV.of hG (by decide) (Nat.le_of_ble_eq_true rfl) (fun X hx hq => ?_)
  show J l G X 3 σ 0 [(0, .ref (G.1 a)), (1, .ref (G.1 b))] []
  refine j_iconst (v := 0) hx d_Mo_copies_0 (by decide) ?_
  refine j_istore_n hx [(2, .int 0), (0, .ref (G.1 a)), (1, .ref (G.1 b))] d_Mo_copies_1 rfl (by decide) rfl ?_
  have hl2 : ∀ (N9 : Nat) (i : Nat), (i ≤ 31) → 31 - i = N9 → J l G X 3 (fl σ b i (σ a)) 2 [(0, .ref (G.1 a)), (1, .ref (G.1 b)), (2, .int (nI i))] [] := by
    intro N9
    induction N9 using Nat.strongRecOn with
    | _ N9 ih2 =>
      intro i hi_i hm2
      refine j_iload_n hx d_Mo_copies_2 rfl 2 rfl ?_
      refine j_bipush (v := 31) hx d_Mo_copies_3 (by decide) ?_
      refine j_icmp_ge (tgt := 20) hx d_Mo_copies_5 (by decide) (fun zc5 => ?_) (fun zc5 => ?_)
      · skip
        obtain rfl := nt_end (n := 31) hi_i (by decide) zc5
        exact j_vret hx hq d_Mo_copies_20 (by first | (first | rfl | (simp only [zc5]; done) | (simp [zc5]; done)) | fail)
      · skip
        have hlt2 := nt_go (n := 31) hi_i (by decide) zc5
        refine j_aload_n hx d_Mo_copies_8 rfl 1 rfl ?_
        refine j_iload_n hx d_Mo_copies_9 rfl 2 rfl ?_
        refine j_aload_n hx d_Mo_copies_10 rfl 0 rfl ?_
        refine j_iload_n hx d_Mo_copies_11 rfl 2 rfl ?_
        have hz12_1 : zin (nI i) 31 i := by first | exact ⟨rfl, by decide⟩ | exact zin_nI (by omega) (by first | decide | omega) | exact zin_of (by omega) (by omega)
        refine j_ialdk hx ho_a hz12_1 d_Mo_copies_12 ?_
        have hz13_2 : zin (nI i) 31 i := by first | exact ⟨rfl, by decide⟩ | exact zin_nI (by omega) (by first | decide | omega) | exact zin_of (by omega) (by omega)
        refine j_iastk hx ho_b hz13_2 d_Mo_copies_13 ?_
        refine j_iinc hx [(2, .int ((nI i) + 1)), (0, .ref (G.1 a)), (1, .ref (G.1 b))] d_Mo_copies_14 2 rfl rfl (by decide) rfl ?_
        refine j_goto (tgt := 2) hx d_Mo_copies_17 (by decide) ?_
        refine J.lsub (ls' := [(0, .ref (G.1 a)), (1, .ref (G.1 b)), (2, .int ((nI i) + 1))]) [1, 2, 0] rfl ?_
        refine J.to ?_ ?_ (ih2 _ ?_ (i + 1) hlt2 rfl)
        · first | (rw [fl_o hab]; exact fl_s) | fail
        · first | (simp only [nI_s]) | fail
        · first | (omega) | fail
  refine J.lsub (ls' := [(0, .ref (G.1 a)), (1, .ref (G.1 b)), (2, .int 0)]) [1, 2, 0] rfl ?_
  refine J.to ?_ ?_ (hl2 _ 0 (Nat.zero_le _) rfl)
  · first | (exact fl_0.symm) | fail
  · first | (first | rfl | (simp only [nI_s]; done) | (simp only [nI_s, it_s]; done) | (simp [nI_s, it_s, ]; done)) | fail

set_option maxRecDepth 20000 in
set_option maxHeartbeats 4000000 in
theorem c_Mo_lays {l : Launch} {G : Gz} (hG : zI G) {fr frK frQ frW : Nat} (ho_fr : isArs fr frK frQ frW) {tw twK twQ twW : Nat} (ho_tw : isArs tw twK twQ twW) (σ : St) (many : Int32) (h1 : ct many ≤ frK) (h2 : ct many ≤ twK) (hw9 : frW = twW) (hd : frQ + frK ≤ twQ ∨ twQ + twK ≤ frQ) : MV l G y_Mo_lays prog_14_method_29_code 5 1 [.ref (G.1 fr), .ref (G.1 tw), .int many] σ (lay σ frQ twQ twW (ct many)) := by
  refine MV.of hG (by decide) (Nat.le_of_ble_eq_true rfl) (fun X hx hq => ?_)
  show J l G X 5 σ 0 [(0, .ref (G.1 fr)), (1, .ref (G.1 tw)), (2, .int many)] []
  have hk2 := ho_tw.1.2.1
  have hk1 := ho_fr.1.2.1
  have hk3 := ho_tw.1.2.2
  refine j_iconst (v := 0) hx d_Mo_lays_0 (by decide) ?_
  refine j_istore_n hx [(3, .int 0), (0, .ref (G.1 fr)), (1, .ref (G.1 tw)), (2, .int many)] d_Mo_lays_1 rfl (by decide) rfl ?_
  have hl2 : ∀ (N9 : Nat) (i : Nat), (i ≤ (ct many)) → (ct many) - i = N9 → J l G X 5 (lay σ frQ twQ twW i) 2 [(0, .ref (G.1 fr)), (1, .ref (G.1 tw)), (2, .int many), (3, .int (nI i))] [] := by
    intro N9
    induction N9 using Nat.strongRecOn with
    | _ N9 ih2 =>
      intro i hi_i hm2
      refine j_iload_n hx d_Mo_lays_2 rfl 3 rfl ?_
      refine j_iload_n hx d_Mo_lays_3 rfl 2 rfl ?_
      refine j_icmp_ge (tgt := 43) hx d_Mo_lays_4 (by decide) (fun zc4 => ?_) (fun zc4 => ?_)
      · skip
        obtain rfl := ct_end' hi_i zc4
        exact j_vret hx hq d_Mo_lays_43 (by first | (first | rfl | (simp only [zc4]; done) | (simp [zc4]; done)) | fail)
      · skip
        have hlt2 := ct_go hi_i zc4
        refine j_iconst (v := 0) hx d_Mo_lays_7 (by decide) ?_
        refine j_istore hx [(4, .int 0), (0, .ref (G.1 fr)), (1, .ref (G.1 tw)), (2, .int many), (3, .int (nI i))] d_Mo_lays_8 (by decide) rfl ?_
        have hl10 : ∀ (N9 : Nat) (j : Nat), (j ≤ twW) → twW - j = N9 → J l G X 5 (fl (lay σ frQ twQ twW i) (twQ + i) j (σ (frQ + i))) 10 [(0, .ref (G.1 fr)), (1, .ref (G.1 tw)), (2, .int many), (3, .int (nI i)), (4, .int (nI j))] [] := by
          intro N9
          induction N9 using Nat.strongRecOn with
          | _ N9 ih10 =>
            intro j hi_j hm10
            refine j_iload hx d_Mo_lays_10 4 rfl ?_
            refine j_aload_n hx d_Mo_lays_12 rfl 1 rfl ?_
            refine j_iload_n hx d_Mo_lays_13 rfl 3 rfl ?_
            have hz14_1 : zin (nI i) twK i := by first | exact ⟨rfl, by decide⟩ | exact zin_nI (by omega) (by first | decide | omega) | exact zin_of (by omega) (by omega)
            refine j_aaldk hx ho_tw.1.1 (ho_tw.2.1 _ _) hz14_1 d_Mo_lays_14 ?_
            refine j_alen hx (ho_tw.2.2 _ hz14_1.2).1.1 ((ho_tw.2.2 _ hz14_1.2).2 _ _) rfl d_Mo_lays_15 ?_
            refine j_icmp_ge (tgt := 37) hx d_Mo_lays_16 (by decide) (fun zc16 => ?_) (fun zc16 => ?_)
            · skip
              obtain rfl := nt_end (n := twW) hi_j (by omega) zc16
              refine j_iinc hx [(3, .int ((nI i) + 1)), (0, .ref (G.1 fr)), (1, .ref (G.1 tw)), (2, .int many), (4, .int (nI twW))] d_Mo_lays_37 3 rfl rfl (by decide) rfl ?_
              refine j_goto (tgt := 2) hx d_Mo_lays_40 (by decide) ?_
              refine J.lsub (ls' := [(0, .ref (G.1 fr)), (1, .ref (G.1 tw)), (2, .int many), (3, .int ((nI i) + 1))]) [1, 2, 3, 0] rfl ?_
              refine J.to ?_ ?_ (ih2 _ ?_ (i + 1) hlt2 rfl)
              · first | (exact lay_s (by omega)) | fail
              · first | (first | rfl | (simp only [nI_s]; done) | (simp only [nI_s, it_s]; done) | (simp [nI_s, it_s, zc4, zc16]; done)) | fail
              · first | (omega) | fail
            · skip
              have hlt10 := nt_go (n := twW) hi_j (by omega) zc16
              refine j_aload_n hx d_Mo_lays_19 rfl 1 rfl ?_
              refine j_iload_n hx d_Mo_lays_20 rfl 3 rfl ?_
              have hz21_2 : zin (nI i) twK i := by first | exact ⟨rfl, by decide⟩ | exact zin_nI (by omega) (by first | decide | omega) | exact zin_of (by omega) (by omega)
              refine j_aaldk hx ho_tw.1.1 (ho_tw.2.1 _ _) hz21_2 d_Mo_lays_21 ?_
              refine j_iload hx d_Mo_lays_22 4 rfl ?_
              refine j_aload_n hx d_Mo_lays_24 rfl 0 rfl ?_
              refine j_iload_n hx d_Mo_lays_25 rfl 3 rfl ?_
              have hz26_3 : zin (nI i) frK i := by first | exact ⟨rfl, by decide⟩ | exact zin_nI (by omega) (by first | decide | omega) | exact zin_of (by omega) (by omega)
              refine j_aaldk hx ho_fr.1.1 (ho_fr.2.1 _ _) hz26_3 d_Mo_lays_26 ?_
              refine j_iload hx d_Mo_lays_27 4 rfl ?_
              have hz29_4 : zin (nI j) frW j := by first | exact ⟨rfl, by decide⟩ | exact zin_nI (by omega) (by first | decide | omega) | exact zin_of (by omega) (by omega)
              refine j_ialdk hx (ho_fr.2.2 _ hz26_3.2) hz29_4 d_Mo_lays_29 ?_
              have hz30_5 : zin (nI j) twW j := by first | exact ⟨rfl, by decide⟩ | exact zin_nI (by omega) (by first | decide | omega) | exact zin_of (by omega) (by omega)
              refine j_iastk hx (ho_tw.2.2 _ hz21_2.2) hz30_5 d_Mo_lays_30 ?_
              refine j_iinc hx [(4, .int ((nI j) + 1)), (0, .ref (G.1 fr)), (1, .ref (G.1 tw)), (2, .int many), (3, .int (nI i))] d_Mo_lays_31 4 rfl rfl (by decide) rfl ?_
              refine j_goto (tgt := 10) hx d_Mo_lays_34 (by decide) ?_
              refine J.lsub (ls' := [(0, .ref (G.1 fr)), (1, .ref (G.1 tw)), (2, .int many), (3, .int (nI i)), (4, .int ((nI j) + 1))]) [1, 2, 3, 4, 0] rfl ?_
              refine J.to ?_ ?_ (ih10 _ ?_ (j + 1) hlt10 rfl)
              · first | (rw [fl_o (show frQ + i ≠ twQ + i by omega), lay_o (show frQ + i < twQ ∨ twQ + i ≤ frQ + i by omega)]; exact fl_s) | fail
              · first | (simp only [nI_s]) | fail
              · first | (omega) | fail
        refine J.lsub (ls' := [(0, .ref (G.1 fr)), (1, .ref (G.1 tw)), (2, .int many), (3, .int (nI i)), (4, .int 0)]) [1, 2, 3, 4, 0] rfl ?_
        refine J.to ?_ ?_ (hl10 _ 0 (Nat.zero_le _) rfl)
        · first | (exact fl_0.symm) | fail
        · first | (first | rfl | (simp only [nI_s]; done) | (simp only [nI_s, it_s]; done) | (simp [nI_s, it_s, zc4]; done)) | fail
  refine J.lsub (ls' := [(0, .ref (G.1 fr)), (1, .ref (G.1 tw)), (2, .int many), (3, .int 0)]) [1, 2, 3, 0] rfl ?_
  refine J.to ?_ ?_ (hl2 _ 0 (Nat.zero_le _) rfl)
  · first | (exact lay_0.symm) | fail
  · first | (first | rfl | (simp only [nI_s]; done) | (simp only [nI_s, it_s]; done) | (simp [nI_s, it_s, ]; done)) | fail

set_option maxRecDepth 20000 in
set_option maxHeartbeats 4000000 in
theorem c_Mo_tellsNothing {l : Launch} {G : Gz} (hG : zI G) (σ : St) : MV l G y_Mo_tellsNothing prog_14_method_2_code 2 1 [.ref (G.1 111)] σ (mtn σ) := by
  refine MV.of hG (by decide) (Nat.le_of_ble_eq_true rfl) (fun X hx hq => ?_)
  show J l G X 2 σ 0 [(0, .ref (G.1 111))] []
  refine j_iconst (v := 0) hx d_Mo_tellsNothing_0 (by decide) ?_
  refine j_istore_n hx [(1, .int 0), (0, .ref (G.1 111))] d_Mo_tellsNothing_1 rfl (by decide) rfl ?_
  have hl2 : ∀ (N9 : Nat) (i : Nat), (i ≤ 5) → 5 - i = N9 → J l G X 2 (fl σ 114 i (fun _ => 0)) 2 [(0, .ref (G.1 111)), (1, .int (nI i))] [] := by
    intro N9
    induction N9 using Nat.strongRecOn with
    | _ N9 ih2 =>
      intro i hi_i hm2
      refine j_iload_n hx d_Mo_tellsNothing_2 rfl 1 rfl ?_
      refine j_iconst (v := 5) hx d_Mo_tellsNothing_3 (by decide) ?_
      refine j_icmp_ge (tgt := 20) hx d_Mo_tellsNothing_4 (by decide) (fun zc4 => ?_) (fun zc4 => ?_)
      · skip
        obtain rfl := nt_end (n := 5) hi_i (by decide) zc4
        refine j_aload_n hx d_Mo_tellsNothing_20 rfl 0 rfl ?_
        refine j_get hx ck_Mo 11 (by decide) t_1429 (by decide) (sh_111 _ _) rfl d_Mo_tellsNothing_21 ?_
        refine j_iconst (v := 5) hx d_Mo_tellsNothing_24 (by decide) ?_
        refine j_iconst (v := 2) hx d_Mo_tellsNothing_25 (by decide) ?_
        have hz26_1 : zin (5) 6 5 := by first | exact ⟨rfl, by decide⟩ | exact zin_nI (by omega) (by first | decide | omega) | exact zin_of (by omega) (by omega)
        refine j_iastk hx ia_114 hz26_1 d_Mo_tellsNothing_26 ?_
        exact j_vret hx hq d_Mo_tellsNothing_27 (by first | (rfl) | fail)
      · skip
        have hlt2 := nt_go (n := 5) hi_i (by decide) zc4
        refine j_aload_n hx d_Mo_tellsNothing_7 rfl 0 rfl ?_
        refine j_get hx ck_Mo 11 (by decide) t_1429 (by decide) (sh_111 _ _) rfl d_Mo_tellsNothing_8 ?_
        refine j_iload_n hx d_Mo_tellsNothing_11 rfl 1 rfl ?_
        refine j_iconst (v := 0) hx d_Mo_tellsNothing_12 (by decide) ?_
        have hz13_2 : zin (nI i) 6 i := by first | exact ⟨rfl, by decide⟩ | exact zin_nI (by omega) (by first | decide | omega) | exact zin_of (by omega) (by omega)
        refine j_iastk hx ia_114 hz13_2 d_Mo_tellsNothing_13 ?_
        refine j_iinc hx [(1, .int ((nI i) + 1)), (0, .ref (G.1 111))] d_Mo_tellsNothing_14 1 rfl rfl (by decide) rfl ?_
        refine j_goto (tgt := 2) hx d_Mo_tellsNothing_17 (by decide) ?_
        refine J.lsub (ls' := [(0, .ref (G.1 111)), (1, .int ((nI i) + 1))]) [1, 0] rfl ?_
        refine J.to ?_ ?_ (ih2 _ ?_ (i + 1) hlt2 rfl)
        · first | (exact fl_s (f := fun _ => 0)) | fail
        · first | (simp only [nI_s]) | fail
        · first | (omega) | fail
  refine J.lsub (ls' := [(0, .ref (G.1 111)), (1, .int 0)]) [1, 0] rfl ?_
  refine J.to ?_ ?_ (hl2 _ 0 (Nat.zero_le _) rfl)
  · first | (exact fl_0.symm) | fail
  · first | (first | rfl | (simp only [nI_s]; done) | (simp only [nI_s, it_s]; done) | (simp [nI_s, it_s, ]; done)) | fail

set_option maxRecDepth 20000 in
set_option maxHeartbeats 4000000 in
theorem c_Mo_beginsAnew {l : Launch} {G : Gz} (hG : zI G) (σ : St) (hb : rtB σ) : MV l G y_Mo_beginsAnew prog_14_method_31_code 2 2 [.ref (G.1 111)] σ (baS σ) := by
  refine MV.of hG (by decide) (Nat.le_of_ble_eq_true rfl) (fun X hx hq => ?_)
  show J l G X 2 σ 0 [(0, .ref (G.1 111))] []
  have hb0 : ct (σ 114 0) ≤ 12 := hb.1
  have hb1 : ct (σ 114 1) ≤ 6 := hb.2.1
  have hb2 : ct (σ 114 2) ≤ 3 := hb.2.2.1
  have hb3 : ct (σ 114 3) ≤ 6 := hb.2.2.2.1
  have hb4 : ct (σ 114 4) ≤ 6 := hb.2.2.2.2
  refine j_iconst (v := 0) hx d_Mo_beginsAnew_0 (by decide) ?_
  refine j_istore_n hx [(1, .int 0), (0, .ref (G.1 111))] d_Mo_beginsAnew_1 rfl (by decide) rfl ?_
  have hl2 : ∀ (N9 : Nat) (i : Nat), (i ≤ 6) → 6 - i = N9 → J l G X 2 (fl σ 115 i (σ 114)) 2 [(0, .ref (G.1 111)), (1, .int (nI i))] [] := by
    intro N9
    induction N9 using Nat.strongRecOn with
    | _ N9 ih2 =>
      intro i hi_i hm2
      refine j_iload_n hx d_Mo_beginsAnew_2 rfl 1 rfl ?_
      refine j_bipush (v := 6) hx d_Mo_beginsAnew_3 (by decide) ?_
      refine j_icmp_ge (tgt := 26) hx d_Mo_beginsAnew_5 (by decide) (fun zc5 => ?_) (fun zc5 => ?_)
      · skip
        obtain rfl := nt_end (n := 6) hi_i (by decide) zc5
        refine j_iconst (v := 0) hx d_Mo_beginsAnew_26 (by decide) ?_
        obtain ⟨s9_1, eg_1⟩ : ∃ z : St, z = ba1 σ := ⟨_, rfl⟩
        refine J.to (σ' := s9_1) (by rw [eg_1]; rfl) rfl ?_
        refine j_istore_n hx [(1, .int 0), (0, .ref (G.1 111))] d_Mo_beginsAnew_27 rfl (by decide) rfl ?_
        have hl28 : ∀ (N9 : Nat) (i : Nat), (i ≤ (ct (s9_1 115 0))) → (ct (s9_1 115 0)) - i = N9 → J l G X 2 (fl s9_1 117 i (s9_1 116)) 28 [(0, .ref (G.1 111)), (1, .int (nI i))] [] := by
          intro N9
          induction N9 using Nat.strongRecOn with
          | _ N9 ih28 =>
            intro i hi_i hm28
            have c0 : ct (s9_1 115 0) ≤ 12 := by rw [eg_1, ba1_115 (by decide)]; exact hb0
            refine j_iload_n hx d_Mo_beginsAnew_28 rfl 1 rfl ?_
            refine j_aload_n hx d_Mo_beginsAnew_29 rfl 0 rfl ?_
            refine j_get hx ck_Mo 12 (by decide) t_1430 (by decide) (sh_111 _ _) rfl d_Mo_beginsAnew_30 ?_
            refine j_iconst (v := 0) hx d_Mo_beginsAnew_33 (by decide) ?_
            have hz34_1 : zin (0) 6 0 := by first | exact ⟨rfl, by decide⟩ | exact zin_nI (by omega) (by first | decide | omega) | exact zin_of (by omega) (by omega)
            refine j_ialdk hx ia_115 hz34_1 d_Mo_beginsAnew_34 ?_
            refine j_icmp_ge (tgt := 56) hx d_Mo_beginsAnew_35 (by decide) (fun zc35 => ?_) (fun zc35 => ?_)
            · skip
              obtain rfl := ct_end' hi_i (by have q9 := zc35; rw [fl_o (by decide)] at q9; exact q9)
              refine j_iconst (v := 0) hx d_Mo_beginsAnew_56 (by decide) ?_
              obtain ⟨s9_2, eg_2⟩ : ∃ z : St, z = ba2 s9_1 := ⟨_, rfl⟩
              refine J.to (σ' := s9_2) (by rw [eg_2]; rfl) rfl ?_
              refine j_istore_n hx [(1, .int 0), (0, .ref (G.1 111))] d_Mo_beginsAnew_57 rfl (by decide) rfl ?_
              have hl58 : ∀ (N9 : Nat) (i : Nat), (i ≤ (ct (s9_2 115 4))) → (ct (s9_2 115 4)) - i = N9 → J l G X 2 (fl s9_2 119 i (s9_2 118)) 58 [(0, .ref (G.1 111)), (1, .int (nI i))] [] := by
                intro N9
                induction N9 using Nat.strongRecOn with
                | _ N9 ih58 =>
                  intro i hi_i hm58
                  have c4 : ct (s9_2 115 4) ≤ 6 := by rw [eg_2, ba2_o (by decide), eg_1, ba1_115 (by decide)]; exact hb4
                  refine j_iload_n hx d_Mo_beginsAnew_58 rfl 1 rfl ?_
                  refine j_aload_n hx d_Mo_beginsAnew_59 rfl 0 rfl ?_
                  refine j_get hx ck_Mo 12 (by decide) t_1430 (by decide) (sh_111 _ _) rfl d_Mo_beginsAnew_60 ?_
                  refine j_iconst (v := 4) hx d_Mo_beginsAnew_63 (by decide) ?_
                  have hz64_2 : zin (4) 6 4 := by first | exact ⟨rfl, by decide⟩ | exact zin_nI (by omega) (by first | decide | omega) | exact zin_of (by omega) (by omega)
                  refine j_ialdk hx ia_115 hz64_2 d_Mo_beginsAnew_64 ?_
                  refine j_icmp_ge (tgt := 86) hx d_Mo_beginsAnew_65 (by decide) (fun zc65 => ?_) (fun zc65 => ?_)
                  · skip
                    obtain rfl := ct_end' hi_i (by have q9 := zc65; rw [fl_o (by decide)] at q9; exact q9)
                    refine j_aload_n hx d_Mo_beginsAnew_86 rfl 0 rfl ?_
                    obtain ⟨s9_3, eg_3⟩ : ∃ z : St, z = ba3 s9_2 := ⟨_, rfl⟩
                    refine J.to (σ' := s9_3) (by rw [eg_3]; rfl) rfl ?_
                    refine j_get hx ck_Mo 17 (by decide) t_1435 (by decide) (sh_111 _ _) rfl d_Mo_beginsAnew_87 ?_
                    refine j_aload_n hx d_Mo_beginsAnew_90 rfl 0 rfl ?_
                    refine j_get hx ck_Mo 18 (by decide) t_1436 (by decide) (sh_111 _ _) rfl d_Mo_beginsAnew_91 ?_
                    refine j_aload_n hx d_Mo_beginsAnew_94 rfl 0 rfl ?_
                    refine j_get hx ck_Mo 12 (by decide) t_1430 (by decide) (sh_111 _ _) rfl d_Mo_beginsAnew_95 ?_
                    refine j_iconst (v := 1) hx d_Mo_beginsAnew_98 (by decide) ?_
                    have hz99_3 : zin (1) 6 1 := by first | exact ⟨rfl, by decide⟩ | exact zin_nI (by omega) (by first | decide | omega) | exact zin_of (by omega) (by omega)
                    refine j_ialdk hx ia_115 hz99_3 d_Mo_beginsAnew_99 ?_
                    refine j_callSv hx (c_Mo_lays hG ias_readLight ias_light s9_3 (s9_3 115 1) (by rw [eg_3, ba3_o (by decide), eg_2, ba2_o (by decide), eg_1, ba1_115 (by decide)]; exact hb1) (by rw [eg_3, ba3_o (by decide), eg_2, ba2_o (by decide), eg_1, ba1_115 (by decide)]; exact hb1) (by rfl) (by decide)) mo_Mo_lays t_1416 t_1415 (by decide) rfl rfl (Nat.le_of_ble_eq_true rfl) d_Mo_beginsAnew_100 ?_
                    obtain ⟨s9_4, eg_4⟩ : ∃ z : St, z = ba4 s9_3 := ⟨_, rfl⟩
                    refine J.to (σ' := s9_4) (by rw [eg_4]; rfl) rfl ?_
                    refine j_aload_n hx d_Mo_beginsAnew_103 rfl 0 rfl ?_
                    refine j_get hx ck_Mo 19 (by decide) t_1437 (by decide) (sh_111 _ _) rfl d_Mo_beginsAnew_104 ?_
                    refine j_aload_n hx d_Mo_beginsAnew_107 rfl 0 rfl ?_
                    refine j_get hx ck_Mo 20 (by decide) t_1438 (by decide) (sh_111 _ _) rfl d_Mo_beginsAnew_108 ?_
                    refine j_aload_n hx d_Mo_beginsAnew_111 rfl 0 rfl ?_
                    refine j_get hx ck_Mo 12 (by decide) t_1430 (by decide) (sh_111 _ _) rfl d_Mo_beginsAnew_112 ?_
                    refine j_iconst (v := 2) hx d_Mo_beginsAnew_115 (by decide) ?_
                    have hz116_4 : zin (2) 6 2 := by first | exact ⟨rfl, by decide⟩ | exact zin_nI (by omega) (by first | decide | omega) | exact zin_of (by omega) (by omega)
                    refine j_ialdk hx ia_115 hz116_4 d_Mo_beginsAnew_116 ?_
                    refine j_callSv hx (c_Mo_lays hG ias_readDonkey ias_donkey s9_4 (s9_4 115 2) (by rw [eg_4, ba4_115, eg_3, ba3_o (by decide), eg_2, ba2_o (by decide), eg_1, ba1_115 (by decide)]; exact hb2) (by rw [eg_4, ba4_115, eg_3, ba3_o (by decide), eg_2, ba2_o (by decide), eg_1, ba1_115 (by decide)]; exact hb2) (by rfl) (by decide)) mo_Mo_lays t_1416 t_1415 (by decide) rfl rfl (Nat.le_of_ble_eq_true rfl) d_Mo_beginsAnew_117 ?_
                    obtain ⟨s9_5, eg_5⟩ : ∃ z : St, z = ba5 s9_4 := ⟨_, rfl⟩
                    refine J.to (σ' := s9_5) (by rw [eg_5]; rfl) rfl ?_
                    refine j_aload_n hx d_Mo_beginsAnew_120 rfl 0 rfl ?_
                    refine j_get hx ck_Mo 21 (by decide) t_1439 (by decide) (sh_111 _ _) rfl d_Mo_beginsAnew_121 ?_
                    refine j_aload_n hx d_Mo_beginsAnew_124 rfl 0 rfl ?_
                    refine j_get hx ck_Mo 22 (by decide) t_1440 (by decide) (sh_111 _ _) rfl d_Mo_beginsAnew_125 ?_
                    refine j_aload_n hx d_Mo_beginsAnew_128 rfl 0 rfl ?_
                    refine j_get hx ck_Mo 12 (by decide) t_1430 (by decide) (sh_111 _ _) rfl d_Mo_beginsAnew_129 ?_
                    refine j_iconst (v := 3) hx d_Mo_beginsAnew_132 (by decide) ?_
                    have hz133_5 : zin (3) 6 3 := by first | exact ⟨rfl, by decide⟩ | exact zin_nI (by omega) (by first | decide | omega) | exact zin_of (by omega) (by omega)
                    refine j_ialdk hx ia_115 hz133_5 d_Mo_beginsAnew_133 ?_
                    refine j_callSv hx (c_Mo_lays hG ias_readShip ias_ship s9_5 (s9_5 115 3) (by rw [eg_5, ba5_115, eg_4, ba4_115, eg_3, ba3_o (by decide), eg_2, ba2_o (by decide), eg_1, ba1_115 (by decide)]; exact hb3) (by rw [eg_5, ba5_115, eg_4, ba4_115, eg_3, ba3_o (by decide), eg_2, ba2_o (by decide), eg_1, ba1_115 (by decide)]; exact hb3) (by rfl) (by decide)) mo_Mo_lays t_1416 t_1415 (by decide) rfl rfl (Nat.le_of_ble_eq_true rfl) d_Mo_beginsAnew_134 ?_
                    obtain ⟨s9_6, eg_6⟩ : ∃ z : St, z = ba6 s9_5 := ⟨_, rfl⟩
                    refine J.to (σ' := s9_6) (by rw [eg_6]; rfl) rfl ?_
                    refine j_iconst (v := 0) hx d_Mo_beginsAnew_137 (by decide) ?_
                    refine j_istore_n hx [(1, .int 0), (0, .ref (G.1 111))] d_Mo_beginsAnew_138 rfl (by decide) rfl ?_
                    have hl139 : ∀ (N9 : Nat) (i : Nat), (i ≤ 31) → 31 - i = N9 → J l G X 2 (fl s9_6 122 i (fun _ => 0)) 139 [(0, .ref (G.1 111)), (1, .int (nI i))] [] := by
                      intro N9
                      induction N9 using Nat.strongRecOn with
                      | _ N9 ih139 =>
                        intro i hi_i hm139
                        refine j_iload_n hx d_Mo_beginsAnew_139 rfl 1 rfl ?_
                        refine j_bipush (v := 31) hx d_Mo_beginsAnew_140 (by decide) ?_
                        refine j_icmp_ge (tgt := 158) hx d_Mo_beginsAnew_142 (by decide) (fun zc142 => ?_) (fun zc142 => ?_)
                        · skip
                          obtain rfl := nt_end (n := 31) hi_i (by decide) zc142
                          obtain ⟨s9_7, eg_7⟩ : ∃ z : St, z = ba7 s9_6 := ⟨_, rfl⟩
                          refine J.to (σ' := s9_7) (by rw [eg_7]; rfl) rfl ?_
                          refine j_aload_n hx d_Mo_beginsAnew_158 rfl 0 rfl ?_
                          refine j_get hx ck_Mo 33 (by decide) t_1451 (by decide) (sh_111 _ _) rfl d_Mo_beginsAnew_159 ?_
                          refine j_iconst (v := 0) hx d_Mo_beginsAnew_162 (by decide) ?_
                          refine j_iconst (v := 1) hx d_Mo_beginsAnew_163 (by decide) ?_
                          refine j_aload_n hx d_Mo_beginsAnew_164 rfl 0 rfl ?_
                          refine j_get hx ck_Mo 12 (by decide) t_1430 (by decide) (sh_111 _ _) rfl d_Mo_beginsAnew_165 ?_
                          refine j_iconst (v := 1) hx d_Mo_beginsAnew_168 (by decide) ?_
                          have hz169_6 : zin (1) 6 1 := by first | exact ⟨rfl, by decide⟩ | exact zin_nI (by omega) (by first | decide | omega) | exact zin_of (by omega) (by omega)
                          refine j_ialdk hx ia_115 hz169_6 d_Mo_beginsAnew_169 ?_
                          refine j_ishl hx d_Mo_beginsAnew_170 ?_
                          refine j_iconst (v := 1) hx d_Mo_beginsAnew_171 (by decide) ?_
                          refine j_isub hx d_Mo_beginsAnew_172 ?_
                          have hz173_7 : zin (0) 31 0 := by first | exact ⟨rfl, by decide⟩ | exact zin_nI (by omega) (by first | decide | omega) | exact zin_of (by omega) (by omega)
                          refine j_iastk hx ia_122 hz173_7 d_Mo_beginsAnew_173 ?_
                          obtain ⟨s9_8, eg_8⟩ : ∃ z : St, z = ba8 s9_7 := ⟨_, rfl⟩
                          refine J.to (σ' := s9_8) (by rw [eg_8]; rfl) rfl ?_
                          refine j_iconst (v := 0) hx d_Mo_beginsAnew_174 (by decide) ?_
                          refine j_istore_n hx [(1, .int 0), (0, .ref (G.1 111))] d_Mo_beginsAnew_175 rfl (by decide) rfl ?_
                          have hl176 : ∀ (N9 : Nat) (i : Nat), (i ≤ (ct (s9_8 115 2))) → (ct (s9_8 115 2)) - i = N9 → J l G X 2 (ba9 s9_8 i) 176 [(0, .ref (G.1 111)), (1, .int (nI i))] [] := by
                            intro N9
                            induction N9 using Nat.strongRecOn with
                            | _ N9 ih176 =>
                              intro i hi_i hm176
                              have c2 : ct (s9_8 115 2) ≤ 3 := by rw [eg_8]; unfold ba8; rw [up_o (by decide), eg_7]; unfold ba7; rw [fl_o (by decide), eg_6, ba6_115, eg_5, ba5_115, eg_4, ba4_115, eg_3, ba3_o (by decide), eg_2, ba2_o (by decide), eg_1, ba1_115 (by decide)]; exact hb2
                              refine j_iload_n hx d_Mo_beginsAnew_176 rfl 1 rfl ?_
                              refine j_aload_n hx d_Mo_beginsAnew_177 rfl 0 rfl ?_
                              refine j_get hx ck_Mo 12 (by decide) t_1430 (by decide) (sh_111 _ _) rfl d_Mo_beginsAnew_178 ?_
                              refine j_iconst (v := 2) hx d_Mo_beginsAnew_181 (by decide) ?_
                              have hz182_8 : zin (2) 6 2 := by first | exact ⟨rfl, by decide⟩ | exact zin_nI (by omega) (by first | decide | omega) | exact zin_of (by omega) (by omega)
                              refine j_ialdk hx ia_115 hz182_8 d_Mo_beginsAnew_182 ?_
                              refine j_icmp_ge (tgt := 208) hx d_Mo_beginsAnew_183 (by decide) (fun zc183 => ?_) (fun zc183 => ?_)
                              · skip
                                obtain rfl := ct_end' hi_i (by have q9 := zc183; rw [ba9_o (by decide)] at q9; exact q9)
                                obtain ⟨s9_9, eg_9⟩ : ∃ z : St, z = ba9 s9_8 (ct (s9_8 115 2)) := ⟨_, rfl⟩
                                refine J.to (σ' := s9_9) (by rw [eg_9]; first | done | rfl) rfl ?_
                                refine j_aload_n hx d_Mo_beginsAnew_208 rfl 0 rfl ?_
                                refine j_get hx ck_Mo 33 (by decide) t_1451 (by decide) (sh_111 _ _) rfl d_Mo_beginsAnew_209 ?_
                                refine j_bipush (v := 29) hx d_Mo_beginsAnew_212 (by decide) ?_
                                refine j_iconst (v := (-1)) hx d_Mo_beginsAnew_214 (by decide) ?_
                                have hz215_9 : zin (29) 31 29 := by first | exact ⟨rfl, by decide⟩ | exact zin_nI (by omega) (by first | decide | omega) | exact zin_of (by omega) (by omega)
                                refine j_iastk hx ia_122 hz215_9 d_Mo_beginsAnew_215 ?_
                                obtain ⟨s9_10, eg_10⟩ : ∃ z : St, z = ba10 s9_9 := ⟨_, rfl⟩
                                refine J.to (σ' := s9_10) (by rw [eg_10]; rfl) rfl ?_
                                refine j_aload_n hx d_Mo_beginsAnew_216 rfl 0 rfl ?_
                                refine j_iconst (v := 0) hx d_Mo_beginsAnew_217 (by decide) ?_
                                refine j_put hx ck_Mo 23 (by decide) t_1441 (by decide) (sh_111 _ _) rfl (Nat.le_of_ble_eq_true rfl) (sh_111 _ _) d_Mo_beginsAnew_218 ?_
                                refine j_aload_n hx d_Mo_beginsAnew_221 rfl 0 rfl ?_
                                refine j_iconst (v := 0) hx d_Mo_beginsAnew_222 (by decide) ?_
                                refine j_put hx ck_Mo 37 (by decide) t_1455 (by decide) (sh_111 _ _) rfl (Nat.le_of_ble_eq_true rfl) (sh_111 _ _) d_Mo_beginsAnew_223 ?_
                                refine j_aload_n hx d_Mo_beginsAnew_226 rfl 0 rfl ?_
                                refine j_iconst (v := 0) hx d_Mo_beginsAnew_227 (by decide) ?_
                                refine j_put hx ck_Mo 38 (by decide) t_1456 (by decide) (sh_111 _ _) rfl (Nat.le_of_ble_eq_true rfl) (sh_111 _ _) d_Mo_beginsAnew_228 ?_
                                refine j_aload_n hx d_Mo_beginsAnew_231 rfl 0 rfl ?_
                                refine j_iconst (v := 0) hx d_Mo_beginsAnew_232 (by decide) ?_
                                refine j_put hx ck_Mo 39 (by decide) t_1457 (by decide) (sh_111 _ _) rfl (Nat.le_of_ble_eq_true rfl) (sh_111 _ _) d_Mo_beginsAnew_233 ?_
                                refine j_aload_n hx d_Mo_beginsAnew_236 rfl 0 rfl ?_
                                refine j_iconst (v := 0) hx d_Mo_beginsAnew_237 (by decide) ?_
                                refine j_put hx ck_Mo 40 (by decide) t_1458 (by decide) (sh_111 _ _) rfl (Nat.le_of_ble_eq_true rfl) (sh_111 _ _) d_Mo_beginsAnew_238 ?_
                                exact j_vret hx hq d_Mo_beginsAnew_241 (by first | (rw [eg_10, eg_9, eg_8, eg_7, eg_6, eg_5, eg_4, eg_3, eg_2, eg_1]; rfl) | fail)
                              · skip
                                have hlt176 := ct_go hi_i (by have q9 := zc183; rw [ba9_o (by decide)] at q9; exact q9)
                                refine j_aload_n hx d_Mo_beginsAnew_186 rfl 0 rfl ?_
                                refine j_get hx ck_Mo 33 (by decide) t_1451 (by decide) (sh_111 _ _) rfl d_Mo_beginsAnew_187 ?_
                                refine j_iconst (v := 1) hx d_Mo_beginsAnew_190 (by decide) ?_
                                refine j_iload_n hx d_Mo_beginsAnew_191 rfl 1 rfl ?_
                                refine j_iadd hx d_Mo_beginsAnew_192 ?_
                                refine j_aload_n hx d_Mo_beginsAnew_193 rfl 0 rfl ?_
                                refine j_get hx ck_Mo 20 (by decide) t_1438 (by decide) (sh_111 _ _) rfl d_Mo_beginsAnew_194 ?_
                                refine j_iload_n hx d_Mo_beginsAnew_197 rfl 1 rfl ?_
                                have hz198_10 : zin (nI i) 3 i := by first | exact ⟨rfl, by decide⟩ | exact zin_nI (by omega) (by first | decide | omega) | exact zin_of (by omega) (by omega)
                                refine j_aaldk hx ias_donkey.1.1 (ias_donkey.2.1 _ _) hz198_10 d_Mo_beginsAnew_198 ?_
                                refine j_iconst (v := 0) hx d_Mo_beginsAnew_199 (by decide) ?_
                                have hz200_11 : zin (0) 2 0 := by first | exact ⟨rfl, by decide⟩ | exact zin_nI (by omega) (by first | decide | omega) | exact zin_of (by omega) (by omega)
                                refine j_ialdk hx (ias_donkey.2.2 _ hz198_10.2) hz200_11 d_Mo_beginsAnew_200 ?_
                                have hz201_12 : zin (1 + (nI i)) 31 ((1 + i)) := by first | exact ⟨rfl, by decide⟩ | exact zin_nI (by omega) (by first | decide | omega) | exact zin_add (c := 1) (by omega) (by decide) | exact zin_of (by omega) (by omega)
                                refine j_iastk hx ia_122 hz201_12 d_Mo_beginsAnew_201 ?_
                                refine j_iinc hx [(1, .int ((nI i) + 1)), (0, .ref (G.1 111))] d_Mo_beginsAnew_202 1 rfl rfl (by decide) rfl ?_
                                refine j_goto (tgt := 176) hx d_Mo_beginsAnew_205 (by decide) ?_
                                refine J.lsub (ls' := [(0, .ref (G.1 111)), (1, .int ((nI i) + 1))]) [1, 0] rfl ?_
                                refine J.to ?_ ?_ (ih176 _ ?_ (i + 1) hlt176 rfl)
                                · first | (rfl) | fail
                                · first | (simp only [nI_s]) | fail
                                · first | (omega) | fail
                          refine J.lsub (ls' := [(0, .ref (G.1 111)), (1, .int 0)]) [1, 0] rfl ?_
                          refine J.to ?_ ?_ (hl176 _ 0 (Nat.zero_le _) rfl)
                          · first | (rfl) | fail
                          · first | (first | rfl | (simp only [nI_s]; done) | (simp only [nI_s, it_s]; done) | (simp [nI_s, it_s, zc5, zc35, zc65, zc142]; done)) | fail
                        · skip
                          have hlt139 := nt_go (n := 31) hi_i (by decide) zc142
                          refine j_aload_n hx d_Mo_beginsAnew_145 rfl 0 rfl ?_
                          refine j_get hx ck_Mo 33 (by decide) t_1451 (by decide) (sh_111 _ _) rfl d_Mo_beginsAnew_146 ?_
                          refine j_iload_n hx d_Mo_beginsAnew_149 rfl 1 rfl ?_
                          refine j_iconst (v := 0) hx d_Mo_beginsAnew_150 (by decide) ?_
                          have hz151_13 : zin (nI i) 31 i := by first | exact ⟨rfl, by decide⟩ | exact zin_nI (by omega) (by first | decide | omega) | exact zin_of (by omega) (by omega)
                          refine j_iastk hx ia_122 hz151_13 d_Mo_beginsAnew_151 ?_
                          refine j_iinc hx [(1, .int ((nI i) + 1)), (0, .ref (G.1 111))] d_Mo_beginsAnew_152 1 rfl rfl (by decide) rfl ?_
                          refine j_goto (tgt := 139) hx d_Mo_beginsAnew_155 (by decide) ?_
                          refine J.lsub (ls' := [(0, .ref (G.1 111)), (1, .int ((nI i) + 1))]) [1, 0] rfl ?_
                          refine J.to ?_ ?_ (ih139 _ ?_ (i + 1) hlt139 rfl)
                          · first | (exact fl_s (f := fun _ => 0)) | fail
                          · first | (simp only [nI_s]) | fail
                          · first | (omega) | fail
                    refine J.lsub (ls' := [(0, .ref (G.1 111)), (1, .int 0)]) [1, 0] rfl ?_
                    refine J.to ?_ ?_ (hl139 _ 0 (Nat.zero_le _) rfl)
                    · first | (exact fl_0.symm) | fail
                    · first | (first | rfl | (simp only [nI_s]; done) | (simp only [nI_s, it_s]; done) | (simp [nI_s, it_s, zc5, zc35, zc65]; done)) | fail
                  · skip
                    have hlt58 := ct_go hi_i (by have q9 := zc65; rw [fl_o (by decide)] at q9; exact q9)
                    refine j_aload_n hx d_Mo_beginsAnew_68 rfl 0 rfl ?_
                    refine j_get hx ck_Mo 16 (by decide) t_1434 (by decide) (sh_111 _ _) rfl d_Mo_beginsAnew_69 ?_
                    refine j_iload_n hx d_Mo_beginsAnew_72 rfl 1 rfl ?_
                    refine j_aload_n hx d_Mo_beginsAnew_73 rfl 0 rfl ?_
                    refine j_get hx ck_Mo 15 (by decide) t_1433 (by decide) (sh_111 _ _) rfl d_Mo_beginsAnew_74 ?_
                    refine j_iload_n hx d_Mo_beginsAnew_77 rfl 1 rfl ?_
                    have hz78_14 : zin (nI i) 6 i := by first | exact ⟨rfl, by decide⟩ | exact zin_nI (by omega) (by first | decide | omega) | exact zin_of (by omega) (by omega)
                    refine j_ialdk hx ia_118 hz78_14 d_Mo_beginsAnew_78 ?_
                    have hz79_15 : zin (nI i) 6 i := by first | exact ⟨rfl, by decide⟩ | exact zin_nI (by omega) (by first | decide | omega) | exact zin_of (by omega) (by omega)
                    refine j_iastk hx ia_119 hz79_15 d_Mo_beginsAnew_79 ?_
                    refine j_iinc hx [(1, .int ((nI i) + 1)), (0, .ref (G.1 111))] d_Mo_beginsAnew_80 1 rfl rfl (by decide) rfl ?_
                    refine j_goto (tgt := 58) hx d_Mo_beginsAnew_83 (by decide) ?_
                    refine J.lsub (ls' := [(0, .ref (G.1 111)), (1, .int ((nI i) + 1))]) [1, 0] rfl ?_
                    refine J.to ?_ ?_ (ih58 _ ?_ (i + 1) hlt58 rfl)
                    · first | (rw [fl_o (by decide)]; exact fl_s) | fail
                    · first | (simp only [nI_s]) | fail
                    · first | (omega) | fail
              refine J.lsub (ls' := [(0, .ref (G.1 111)), (1, .int 0)]) [1, 0] rfl ?_
              refine J.to ?_ ?_ (hl58 _ 0 (Nat.zero_le _) rfl)
              · first | (exact fl_0.symm) | fail
              · first | (first | rfl | (simp only [nI_s]; done) | (simp only [nI_s, it_s]; done) | (simp [nI_s, it_s, zc5, zc35]; done)) | fail
            · skip
              have hlt28 := ct_go hi_i (by have q9 := zc35; rw [fl_o (by decide)] at q9; exact q9)
              refine j_aload_n hx d_Mo_beginsAnew_38 rfl 0 rfl ?_
              refine j_get hx ck_Mo 14 (by decide) t_1432 (by decide) (sh_111 _ _) rfl d_Mo_beginsAnew_39 ?_
              refine j_iload_n hx d_Mo_beginsAnew_42 rfl 1 rfl ?_
              refine j_aload_n hx d_Mo_beginsAnew_43 rfl 0 rfl ?_
              refine j_get hx ck_Mo 13 (by decide) t_1431 (by decide) (sh_111 _ _) rfl d_Mo_beginsAnew_44 ?_
              refine j_iload_n hx d_Mo_beginsAnew_47 rfl 1 rfl ?_
              have hz48_16 : zin (nI i) 12 i := by first | exact ⟨rfl, by decide⟩ | exact zin_nI (by omega) (by first | decide | omega) | exact zin_of (by omega) (by omega)
              refine j_ialdk hx ia_116 hz48_16 d_Mo_beginsAnew_48 ?_
              have hz49_17 : zin (nI i) 12 i := by first | exact ⟨rfl, by decide⟩ | exact zin_nI (by omega) (by first | decide | omega) | exact zin_of (by omega) (by omega)
              refine j_iastk hx ia_117 hz49_17 d_Mo_beginsAnew_49 ?_
              refine j_iinc hx [(1, .int ((nI i) + 1)), (0, .ref (G.1 111))] d_Mo_beginsAnew_50 1 rfl rfl (by decide) rfl ?_
              refine j_goto (tgt := 28) hx d_Mo_beginsAnew_53 (by decide) ?_
              refine J.lsub (ls' := [(0, .ref (G.1 111)), (1, .int ((nI i) + 1))]) [1, 0] rfl ?_
              refine J.to ?_ ?_ (ih28 _ ?_ (i + 1) hlt28 rfl)
              · first | (rw [fl_o (by decide)]; exact fl_s) | fail
              · first | (simp only [nI_s]) | fail
              · first | (omega) | fail
        refine J.lsub (ls' := [(0, .ref (G.1 111)), (1, .int 0)]) [1, 0] rfl ?_
        refine J.to ?_ ?_ (hl28 _ 0 (Nat.zero_le _) rfl)
        · first | (exact fl_0.symm) | fail
        · first | (first | rfl | (simp only [nI_s]; done) | (simp only [nI_s, it_s]; done) | (simp [nI_s, it_s, zc5]; done)) | fail
      · skip
        have hlt2 := nt_go (n := 6) hi_i (by decide) zc5
        refine j_aload_n hx d_Mo_beginsAnew_8 rfl 0 rfl ?_
        refine j_get hx ck_Mo 12 (by decide) t_1430 (by decide) (sh_111 _ _) rfl d_Mo_beginsAnew_9 ?_
        refine j_iload_n hx d_Mo_beginsAnew_12 rfl 1 rfl ?_
        refine j_aload_n hx d_Mo_beginsAnew_13 rfl 0 rfl ?_
        refine j_get hx ck_Mo 11 (by decide) t_1429 (by decide) (sh_111 _ _) rfl d_Mo_beginsAnew_14 ?_
        refine j_iload_n hx d_Mo_beginsAnew_17 rfl 1 rfl ?_
        have hz18_18 : zin (nI i) 6 i := by first | exact ⟨rfl, by decide⟩ | exact zin_nI (by omega) (by first | decide | omega) | exact zin_of (by omega) (by omega)
        refine j_ialdk hx ia_114 hz18_18 d_Mo_beginsAnew_18 ?_
        have hz19_19 : zin (nI i) 6 i := by first | exact ⟨rfl, by decide⟩ | exact zin_nI (by omega) (by first | decide | omega) | exact zin_of (by omega) (by omega)
        refine j_iastk hx ia_115 hz19_19 d_Mo_beginsAnew_19 ?_
        refine j_iinc hx [(1, .int ((nI i) + 1)), (0, .ref (G.1 111))] d_Mo_beginsAnew_20 1 rfl rfl (by decide) rfl ?_
        refine j_goto (tgt := 2) hx d_Mo_beginsAnew_23 (by decide) ?_
        refine J.lsub (ls' := [(0, .ref (G.1 111)), (1, .int ((nI i) + 1))]) [1, 0] rfl ?_
        refine J.to ?_ ?_ (ih2 _ ?_ (i + 1) hlt2 rfl)
        · first | (rw [fl_o (by decide)]; exact fl_s) | fail
        · first | (simp only [nI_s]) | fail
        · first | (omega) | fail
  refine J.lsub (ls' := [(0, .ref (G.1 111)), (1, .int 0)]) [1, 0] rfl ?_
  refine J.to ?_ ?_ (hl2 _ 0 (Nat.zero_le _) rfl)
  · first | (exact fl_0.symm) | fail
  · first | (first | rfl | (simp only [nI_s]; done) | (simp only [nI_s, it_s]; done) | (simp [nI_s, it_s, ]; done)) | fail

set_option maxRecDepth 20000 in
set_option maxHeartbeats 4000000 in
theorem c_Mo_does {l : Launch} {G : Gz} (hG : zI G) {o : Nat} (ho_o : isArr o 31) {e : Nat} (ho_e : isArr e 4) (σ : St) (hk0 : 0 ≤ (σ e 1).toInt) (hk2 : σ e 0 = 2 → (σ e 1).toInt < 3) (hk3 : σ e 0 = 3 → (σ e 1).toInt < 6) (hw : mW σ) (hr : rW σ o) (ho1 : o ≠ 111) (ho2 : o ≠ 120) (ho3 : o ≠ 121) : MI l G y_Mo_does prog_14_method_58_code 4 .boolean 7 [.ref (G.1 111), .ref (G.1 o), .ref (G.1 e)] σ (mdV σ o e) (mdS σ o e) := by
  refine MI.of hG (by decide) (Nat.le_of_ble_eq_true rfl) (fun X hx hq => ?_)
  show J l G X 4 σ 0 [(0, .ref (G.1 111)), (1, .ref (G.1 o)), (2, .ref (G.1 e))] []
  refine j_aload_n hx d_Mo_does_0 rfl 2 rfl ?_
  refine j_iconst (v := 1) hx d_Mo_does_1 (by decide) ?_
  have hz2_1 : zin (1) 4 1 := by first | exact ⟨rfl, by decide⟩ | exact zin_nI (by omega) (by first | decide | omega) | exact zin_of (by omega) (by omega)
  refine j_ialdk hx ho_e hz2_1 d_Mo_does_2 ?_
  refine j_istore_n hx [(3, .int (σ e 1)), (0, .ref (G.1 111)), (1, .ref (G.1 o)), (2, .ref (G.1 e))] d_Mo_does_3 rfl (by decide) rfl ?_
  refine J.to (ls' := [(3, .int (nI ((σ e 1).toInt.toNat))), (0, .ref (G.1 111)), (1, .ref (G.1 o)), (2, .ref (G.1 e))]) rfl (by rw [nI_bk hk0]) ?_
  refine j_aload_n hx d_Mo_does_4 rfl 3 rfl ?_
  refine j_iconst (v := 0) hx d_Mo_does_5 (by decide) ?_
  have hz6_2 : zin (0) 4 0 := by first | exact ⟨rfl, by decide⟩ | exact zin_nI (by omega) (by first | decide | omega) | exact zin_of (by omega) (by omega)
  refine j_ialdk hx ho_e hz6_2 d_Mo_does_6 ?_
  refine J.sw (x := σ e 0) 0 (fun zc7_0 => ?_) (fun zc7_0 => ?_)
  · skip
    refine j_tableIn (x := σ e 0) (tgt := 40) (off := 33) hx d_Mo_does_7 (by rw [zc7_0]; decide) (by rw [zc7_0]; decide) (by rw [zc7_0]; decide) (by decide) ?_
    refine j_aload_n hx d_Mo_does_40 rfl 2 rfl ?_
    refine j_iconst (v := 0) hx d_Mo_does_41 (by decide) ?_
    have hz42_3 : zin (0) 31 0 := by first | exact ⟨rfl, by decide⟩ | exact zin_nI (by omega) (by first | decide | omega) | exact zin_of (by omega) (by omega)
    refine j_ialdk hx ho_o hz42_3 d_Mo_does_42 ?_
    refine j_iload_n hx d_Mo_does_43 rfl 0 rfl ?_
    refine j_callSi hx (c_Mo_has hG σ (σ o 0) (nI ((σ e 1).toInt.toNat))) mo_Mo_has t_1721 t_1720 (by decide) rfl rfl (Nat.le_of_ble_eq_true rfl) d_Mo_does_44 ?_
    refine j_aload_n hx d_Mo_does_47 rfl 3 rfl ?_
    refine j_iconst (v := 0) hx d_Mo_does_48 (by decide) ?_
    have hz49_4 : zin (0) 4 0 := by first | exact ⟨rfl, by decide⟩ | exact zin_nI (by omega) (by first | decide | omega) | exact zin_of (by omega) (by omega)
    refine j_ialdk hx ho_e hz49_4 d_Mo_does_49 ?_
    refine j_iconst (v := 1) hx d_Mo_does_50 (by decide) ?_
    refine j_icmp_ne (tgt := 58) hx d_Mo_does_51 (by decide) (fun zc51 => ?_) (fun zc51 => ?_)
    · skip
      refine j_iconst (v := 0) hx d_Mo_does_58 (by decide) ?_
      refine j_icmp_ne (tgt := 64) hx d_Mo_does_59 (by decide) (fun zc59 => ?_) (fun zc59 => ?_)
      · skip
        refine j_aload_n hx d_Mo_does_64 rfl 2 rfl ?_
        refine j_iconst (v := 0) hx d_Mo_does_65 (by decide) ?_
        refine j_dup2_11 hx d_Mo_does_66 rfl rfl ?_
        have hz67_5 : zin (0) 31 0 := by first | exact ⟨rfl, by decide⟩ | exact zin_nI (by omega) (by first | decide | omega) | exact zin_of (by omega) (by omega)
        refine j_ialdk hx ho_o hz67_5 d_Mo_does_67 ?_
        refine j_iconst (v := 1) hx d_Mo_does_68 (by decide) ?_
        refine j_iload_n hx d_Mo_does_69 rfl 0 rfl ?_
        refine j_ishl hx d_Mo_does_70 ?_
        refine j_ixor hx d_Mo_does_71 ?_
        have hz72_6 : zin (0) 31 0 := by first | exact ⟨rfl, by decide⟩ | exact zin_nI (by omega) (by first | decide | omega) | exact zin_of (by omega) (by omega)
        refine j_iastk hx ho_o hz72_6 d_Mo_does_72 ?_
        refine j_iconst (v := 1) hx d_Mo_does_73 (by decide) ?_
        exact j_iret hx hq rfl d_Mo_does_74 (by first | (unfold mdV; first | exact absurd (zc7_0.symm.trans zc51) (by decide) | exact absurd zc7_1 zc51 | (rw [if_pos zc7_0]; exact (if_neg zc59).symm) | (rw [if_neg zc7_0, if_pos zc7_1]; exact (if_neg zc59).symm)) | fail) (by first | (unfold mdS; first | exact absurd (zc7_0.symm.trans zc51) (by decide) | exact absurd zc7_1 zc51 | (rw [if_pos zc7_0]; exact (if_neg zc59).symm) | (rw [if_neg zc7_0, if_pos zc7_1]; exact (if_neg zc59).symm)) | fail)
      · skip
        refine j_iconst (v := 0) hx d_Mo_does_62 (by decide) ?_
        exact j_iret hx hq rfl d_Mo_does_63 (by first | (unfold mdV; first | exact absurd (zc7_0.symm.trans zc51) (by decide) | exact absurd zc7_1 zc51 | (rw [if_pos zc7_0]; first | exact (if_pos zc59).symm | exact (if_pos (Decidable.not_not.mp zc59)).symm) | (rw [if_neg zc7_0, if_pos zc7_1]; first | exact (if_pos zc59).symm | exact (if_pos (Decidable.not_not.mp zc59)).symm)) | fail) (by first | (unfold mdS; first | exact absurd (zc7_0.symm.trans zc51) (by decide) | exact absurd zc7_1 zc51 | (rw [if_pos zc7_0]; first | exact (if_pos zc59).symm | exact (if_pos (Decidable.not_not.mp zc59)).symm) | (rw [if_neg zc7_0, if_pos zc7_1]; first | exact (if_pos zc59).symm | exact (if_pos (Decidable.not_not.mp zc59)).symm)) | fail)
    · skip
      refine j_iconst (v := 1) hx d_Mo_does_54 (by decide) ?_
      refine j_goto (tgt := 59) hx d_Mo_does_55 (by decide) ?_
      refine j_icmp_ne (tgt := 64) hx d_Mo_does_59 (by decide) (fun zc59 => ?_) (fun zc59 => ?_)
      · skip
        refine j_aload_n hx d_Mo_does_64 rfl 2 rfl ?_
        refine j_iconst (v := 0) hx d_Mo_does_65 (by decide) ?_
        refine j_dup2_11 hx d_Mo_does_66 rfl rfl ?_
        have hz67_7 : zin (0) 31 0 := by first | exact ⟨rfl, by decide⟩ | exact zin_nI (by omega) (by first | decide | omega) | exact zin_of (by omega) (by omega)
        refine j_ialdk hx ho_o hz67_7 d_Mo_does_67 ?_
        refine j_iconst (v := 1) hx d_Mo_does_68 (by decide) ?_
        refine j_iload_n hx d_Mo_does_69 rfl 0 rfl ?_
        refine j_ishl hx d_Mo_does_70 ?_
        refine j_ixor hx d_Mo_does_71 ?_
        have hz72_8 : zin (0) 31 0 := by first | exact ⟨rfl, by decide⟩ | exact zin_nI (by omega) (by first | decide | omega) | exact zin_of (by omega) (by omega)
        refine j_iastk hx ho_o hz72_8 d_Mo_does_72 ?_
        refine j_iconst (v := 1) hx d_Mo_does_73 (by decide) ?_
        exact j_iret hx hq rfl d_Mo_does_74 (by first | (unfold mdV; first | exact absurd (zc7_0.symm.trans zc51) (by decide) | exact absurd zc7_1 zc51 | (rw [if_pos zc7_0]; exact (if_neg zc59).symm) | (rw [if_neg zc7_0, if_pos zc7_1]; exact (if_neg zc59).symm)) | fail) (by first | (unfold mdS; first | exact absurd (zc7_0.symm.trans zc51) (by decide) | exact absurd zc7_1 zc51 | (rw [if_pos zc7_0]; exact (if_neg zc59).symm) | (rw [if_neg zc7_0, if_pos zc7_1]; exact (if_neg zc59).symm)) | fail)
      · skip
        refine j_iconst (v := 0) hx d_Mo_does_62 (by decide) ?_
        exact j_iret hx hq rfl d_Mo_does_63 (by first | (unfold mdV; first | exact absurd (zc7_0.symm.trans zc51) (by decide) | exact absurd zc7_1 zc51 | (rw [if_pos zc7_0]; first | exact (if_pos zc59).symm | exact (if_pos (Decidable.not_not.mp zc59)).symm) | (rw [if_neg zc7_0, if_pos zc7_1]; first | exact (if_pos zc59).symm | exact (if_pos (Decidable.not_not.mp zc59)).symm)) | fail) (by first | (unfold mdS; first | exact absurd (zc7_0.symm.trans zc51) (by decide) | exact absurd zc7_1 zc51 | (rw [if_pos zc7_0]; first | exact (if_pos zc59).symm | exact (if_pos (Decidable.not_not.mp zc59)).symm) | (rw [if_neg zc7_0, if_pos zc7_1]; first | exact (if_pos zc59).symm | exact (if_pos (Decidable.not_not.mp zc59)).symm)) | fail)
  refine J.sw (x := σ e 0) 1 (fun zc7_1 => ?_) (fun zc7_1 => ?_)
  · skip
    refine j_tableIn (x := σ e 0) (tgt := 40) (off := 33) hx d_Mo_does_7 (by rw [zc7_1]; decide) (by rw [zc7_1]; decide) (by rw [zc7_1]; decide) (by decide) ?_
    refine j_aload_n hx d_Mo_does_40 rfl 2 rfl ?_
    refine j_iconst (v := 0) hx d_Mo_does_41 (by decide) ?_
    have hz42_9 : zin (0) 31 0 := by first | exact ⟨rfl, by decide⟩ | exact zin_nI (by omega) (by first | decide | omega) | exact zin_of (by omega) (by omega)
    refine j_ialdk hx ho_o hz42_9 d_Mo_does_42 ?_
    refine j_iload_n hx d_Mo_does_43 rfl 0 rfl ?_
    refine j_callSi hx (c_Mo_has hG σ (σ o 0) (nI ((σ e 1).toInt.toNat))) mo_Mo_has t_1721 t_1720 (by decide) rfl rfl (Nat.le_of_ble_eq_true rfl) d_Mo_does_44 ?_
    refine j_aload_n hx d_Mo_does_47 rfl 3 rfl ?_
    refine j_iconst (v := 0) hx d_Mo_does_48 (by decide) ?_
    have hz49_10 : zin (0) 4 0 := by first | exact ⟨rfl, by decide⟩ | exact zin_nI (by omega) (by first | decide | omega) | exact zin_of (by omega) (by omega)
    refine j_ialdk hx ho_e hz49_10 d_Mo_does_49 ?_
    refine j_iconst (v := 1) hx d_Mo_does_50 (by decide) ?_
    refine j_icmp_ne (tgt := 58) hx d_Mo_does_51 (by decide) (fun zc51 => ?_) (fun zc51 => ?_)
    · skip
      refine j_iconst (v := 0) hx d_Mo_does_58 (by decide) ?_
      refine j_icmp_ne (tgt := 64) hx d_Mo_does_59 (by decide) (fun zc59 => ?_) (fun zc59 => ?_)
      · skip
        refine j_aload_n hx d_Mo_does_64 rfl 2 rfl ?_
        refine j_iconst (v := 0) hx d_Mo_does_65 (by decide) ?_
        refine j_dup2_11 hx d_Mo_does_66 rfl rfl ?_
        have hz67_11 : zin (0) 31 0 := by first | exact ⟨rfl, by decide⟩ | exact zin_nI (by omega) (by first | decide | omega) | exact zin_of (by omega) (by omega)
        refine j_ialdk hx ho_o hz67_11 d_Mo_does_67 ?_
        refine j_iconst (v := 1) hx d_Mo_does_68 (by decide) ?_
        refine j_iload_n hx d_Mo_does_69 rfl 0 rfl ?_
        refine j_ishl hx d_Mo_does_70 ?_
        refine j_ixor hx d_Mo_does_71 ?_
        have hz72_12 : zin (0) 31 0 := by first | exact ⟨rfl, by decide⟩ | exact zin_nI (by omega) (by first | decide | omega) | exact zin_of (by omega) (by omega)
        refine j_iastk hx ho_o hz72_12 d_Mo_does_72 ?_
        refine j_iconst (v := 1) hx d_Mo_does_73 (by decide) ?_
        exact j_iret hx hq rfl d_Mo_does_74 (by first | (unfold mdV; first | exact absurd (zc7_0.symm.trans zc51) (by decide) | exact absurd zc7_1 zc51 | (rw [if_pos zc7_0]; exact (if_neg zc59).symm) | (rw [if_neg zc7_0, if_pos zc7_1]; exact (if_neg zc59).symm)) | fail) (by first | (unfold mdS; first | exact absurd (zc7_0.symm.trans zc51) (by decide) | exact absurd zc7_1 zc51 | (rw [if_pos zc7_0]; exact (if_neg zc59).symm) | (rw [if_neg zc7_0, if_pos zc7_1]; exact (if_neg zc59).symm)) | fail)
      · skip
        refine j_iconst (v := 0) hx d_Mo_does_62 (by decide) ?_
        exact j_iret hx hq rfl d_Mo_does_63 (by first | (unfold mdV; first | exact absurd (zc7_0.symm.trans zc51) (by decide) | exact absurd zc7_1 zc51 | (rw [if_pos zc7_0]; first | exact (if_pos zc59).symm | exact (if_pos (Decidable.not_not.mp zc59)).symm) | (rw [if_neg zc7_0, if_pos zc7_1]; first | exact (if_pos zc59).symm | exact (if_pos (Decidable.not_not.mp zc59)).symm)) | fail) (by first | (unfold mdS; first | exact absurd (zc7_0.symm.trans zc51) (by decide) | exact absurd zc7_1 zc51 | (rw [if_pos zc7_0]; first | exact (if_pos zc59).symm | exact (if_pos (Decidable.not_not.mp zc59)).symm) | (rw [if_neg zc7_0, if_pos zc7_1]; first | exact (if_pos zc59).symm | exact (if_pos (Decidable.not_not.mp zc59)).symm)) | fail)
    · skip
      refine j_iconst (v := 1) hx d_Mo_does_54 (by decide) ?_
      refine j_goto (tgt := 59) hx d_Mo_does_55 (by decide) ?_
      refine j_icmp_ne (tgt := 64) hx d_Mo_does_59 (by decide) (fun zc59 => ?_) (fun zc59 => ?_)
      · skip
        refine j_aload_n hx d_Mo_does_64 rfl 2 rfl ?_
        refine j_iconst (v := 0) hx d_Mo_does_65 (by decide) ?_
        refine j_dup2_11 hx d_Mo_does_66 rfl rfl ?_
        have hz67_13 : zin (0) 31 0 := by first | exact ⟨rfl, by decide⟩ | exact zin_nI (by omega) (by first | decide | omega) | exact zin_of (by omega) (by omega)
        refine j_ialdk hx ho_o hz67_13 d_Mo_does_67 ?_
        refine j_iconst (v := 1) hx d_Mo_does_68 (by decide) ?_
        refine j_iload_n hx d_Mo_does_69 rfl 0 rfl ?_
        refine j_ishl hx d_Mo_does_70 ?_
        refine j_ixor hx d_Mo_does_71 ?_
        have hz72_14 : zin (0) 31 0 := by first | exact ⟨rfl, by decide⟩ | exact zin_nI (by omega) (by first | decide | omega) | exact zin_of (by omega) (by omega)
        refine j_iastk hx ho_o hz72_14 d_Mo_does_72 ?_
        refine j_iconst (v := 1) hx d_Mo_does_73 (by decide) ?_
        exact j_iret hx hq rfl d_Mo_does_74 (by first | (unfold mdV; first | exact absurd (zc7_0.symm.trans zc51) (by decide) | exact absurd zc7_1 zc51 | (rw [if_pos zc7_0]; exact (if_neg zc59).symm) | (rw [if_neg zc7_0, if_pos zc7_1]; exact (if_neg zc59).symm)) | fail) (by first | (unfold mdS; first | exact absurd (zc7_0.symm.trans zc51) (by decide) | exact absurd zc7_1 zc51 | (rw [if_pos zc7_0]; exact (if_neg zc59).symm) | (rw [if_neg zc7_0, if_pos zc7_1]; exact (if_neg zc59).symm)) | fail)
      · skip
        refine j_iconst (v := 0) hx d_Mo_does_62 (by decide) ?_
        exact j_iret hx hq rfl d_Mo_does_63 (by first | (unfold mdV; first | exact absurd (zc7_0.symm.trans zc51) (by decide) | exact absurd zc7_1 zc51 | (rw [if_pos zc7_0]; first | exact (if_pos zc59).symm | exact (if_pos (Decidable.not_not.mp zc59)).symm) | (rw [if_neg zc7_0, if_pos zc7_1]; first | exact (if_pos zc59).symm | exact (if_pos (Decidable.not_not.mp zc59)).symm)) | fail) (by first | (unfold mdS; first | exact absurd (zc7_0.symm.trans zc51) (by decide) | exact absurd zc7_1 zc51 | (rw [if_pos zc7_0]; first | exact (if_pos zc59).symm | exact (if_pos (Decidable.not_not.mp zc59)).symm) | (rw [if_neg zc7_0, if_pos zc7_1]; first | exact (if_pos zc59).symm | exact (if_pos (Decidable.not_not.mp zc59)).symm)) | fail)
  refine J.sw (x := σ e 0) 2 (fun zc7_2 => ?_) (fun zc7_2 => ?_)
  · skip
    refine j_tableIn (x := σ e 0) (tgt := 75) (off := 68) hx d_Mo_does_7 (by rw [zc7_2]; decide) (by rw [zc7_2]; decide) (by rw [zc7_2]; decide) (by decide) ?_
    have hk9 := hk2 zc7_2
    refine j_aload_n hx d_Mo_does_75 rfl 2 rfl ?_
    refine j_iconst (v := 1) hx d_Mo_does_76 (by decide) ?_
    refine j_iload_n hx d_Mo_does_77 rfl 0 rfl ?_
    refine j_iadd hx d_Mo_does_78 ?_
    have hz79_15 : zin (1 + (nI ((σ e 1).toInt.toNat))) 31 ((1 + ((σ e 1).toInt.toNat))) := by first | exact ⟨rfl, by decide⟩ | exact zin_nI (by omega) (by first | decide | omega) | exact zin_add (c := 1) (by omega) (by decide) | exact zin_of (by omega) (by omega)
    refine j_ialdk hx ho_o hz79_15 d_Mo_does_79 ?_
    refine j_aload_n hx d_Mo_does_80 rfl 3 rfl ?_
    refine j_iconst (v := 2) hx d_Mo_does_81 (by decide) ?_
    have hz82_16 : zin (2) 4 2 := by first | exact ⟨rfl, by decide⟩ | exact zin_nI (by omega) (by first | decide | omega) | exact zin_of (by omega) (by omega)
    refine j_ialdk hx ho_e hz82_16 d_Mo_does_82 ?_
    refine j_icmp_ne (tgt := 88) hx d_Mo_does_83 (by decide) (fun zc83 => ?_) (fun zc83 => ?_)
    · skip
      refine j_aload_n hx d_Mo_does_88 rfl 2 rfl ?_
      refine j_iconst (v := 1) hx d_Mo_does_89 (by decide) ?_
      refine j_iload_n hx d_Mo_does_90 rfl 0 rfl ?_
      refine j_iadd hx d_Mo_does_91 ?_
      refine j_aload_n hx d_Mo_does_92 rfl 3 rfl ?_
      refine j_iconst (v := 2) hx d_Mo_does_93 (by decide) ?_
      have hz94_17 : zin (2) 4 2 := by first | exact ⟨rfl, by decide⟩ | exact zin_nI (by omega) (by first | decide | omega) | exact zin_of (by omega) (by omega)
      refine j_ialdk hx ho_e hz94_17 d_Mo_does_94 ?_
      have hz95_18 : zin (1 + (nI ((σ e 1).toInt.toNat))) 31 ((1 + ((σ e 1).toInt.toNat))) := by first | exact ⟨rfl, by decide⟩ | exact zin_nI (by omega) (by first | decide | omega) | exact zin_add (c := 1) (by omega) (by decide) | exact zin_of (by omega) (by omega)
      refine j_iastk hx ho_o hz95_18 d_Mo_does_95 ?_
      refine j_iconst (v := 1) hx d_Mo_does_96 (by decide) ?_
      exact j_iret hx hq rfl d_Mo_does_97 (by first | (unfold mdV; rw [if_neg zc7_0, if_neg zc7_1, if_pos zc7_2]; exact (if_neg zc83).symm) | fail) (by first | (unfold mdS; rw [if_neg zc7_0, if_neg zc7_1, if_pos zc7_2]; exact (if_neg zc83).symm) | fail)
    · skip
      refine j_iconst (v := 0) hx d_Mo_does_86 (by decide) ?_
      exact j_iret hx hq rfl d_Mo_does_87 (by first | (unfold mdV; rw [if_neg zc7_0, if_neg zc7_1, if_pos zc7_2]; first | exact (if_pos zc83).symm | exact (if_pos (Decidable.not_not.mp zc83)).symm) | fail) (by first | (unfold mdS; rw [if_neg zc7_0, if_neg zc7_1, if_pos zc7_2]; first | exact (if_pos zc83).symm | exact (if_pos (Decidable.not_not.mp zc83)).symm) | fail)
  refine J.sw (x := σ e 0) 3 (fun zc7_3 => ?_) (fun zc7_3 => ?_)
  · skip
    refine j_tableIn (x := σ e 0) (tgt := 98) (off := 91) hx d_Mo_does_7 (by rw [zc7_3]; decide) (by rw [zc7_3]; decide) (by rw [zc7_3]; decide) (by decide) ?_
    have hk9 := hk3 zc7_3
    refine j_aload_n hx d_Mo_does_98 rfl 1 rfl ?_
    refine j_get hx ck_Mo 12 (by decide) t_1430 (by decide) (sh_111 _ _) rfl d_Mo_does_99 ?_
    refine j_iconst (v := 0) hx d_Mo_does_102 (by decide) ?_
    have hz103_19 : zin (0) 6 0 := by first | exact ⟨rfl, by decide⟩ | exact zin_nI (by omega) (by first | decide | omega) | exact zin_of (by omega) (by omega)
    refine j_ialdk hx ia_115 hz103_19 d_Mo_does_103 ?_
    refine j_if_eq (tgt := 117) hx d_Mo_does_104 (by decide) (fun zc104 => ?_) (fun zc104 => ?_)
    · skip
      refine j_iconst (v := 0) hx d_Mo_does_117 (by decide) ?_
      exact j_iret hx hq rfl d_Mo_does_118 (by first | (unfold mdV; rw [if_neg zc7_0, if_neg zc7_1, if_neg zc7_2, if_pos zc7_3]; first | exact (if_pos (Or.inl zc104)).symm | exact (if_pos (Or.inr zc114)).symm) | fail) (by first | (unfold mdS; rw [if_neg zc7_0, if_neg zc7_1, if_neg zc7_2, if_pos zc7_3]; first | exact (if_pos (Or.inl zc104)).symm | exact (if_pos (Or.inr zc114)).symm) | fail)
    · skip
      refine j_aload_n hx d_Mo_does_107 rfl 2 rfl ?_
      refine j_iconst (v := 4) hx d_Mo_does_108 (by decide) ?_
      have hz109_20 : zin (4) 31 4 := by first | exact ⟨rfl, by decide⟩ | exact zin_nI (by omega) (by first | decide | omega) | exact zin_of (by omega) (by omega)
      refine j_ialdk hx ho_o hz109_20 d_Mo_does_109 ?_
      refine j_iload_n hx d_Mo_does_110 rfl 0 rfl ?_
      refine j_callSi hx (c_Mo_has hG σ (σ o 4) (nI ((σ e 1).toInt.toNat))) mo_Mo_has t_1721 t_1720 (by decide) rfl rfl (Nat.le_of_ble_eq_true rfl) d_Mo_does_111 ?_
      refine j_if_eq (tgt := 119) hx d_Mo_does_114 (by decide) (fun zc114 => ?_) (fun zc114 => ?_)
      · skip
        refine j_aload_n hx d_Mo_does_119 rfl 1 rfl ?_
        refine j_aload_n hx d_Mo_does_120 rfl 2 rfl ?_
        refine j_iload_n hx d_Mo_does_121 rfl 0 rfl ?_
        refine j_callVv hx (c_Mo_passes hG ho_o σ (((σ e 1).toInt.toNat)) (by omega) (by exact hw) (by exact hr) (by exact ho1) (by exact ho2) (by exact ho3)) mo_Mo_passes mv_Mo_passes t_1723 (by decide) rfl (by decide) (sh_111 _ _) rfl rfl (Nat.le_of_ble_eq_true rfl) d_Mo_does_122 ?_
        refine j_iconst (v := 1) hx d_Mo_does_125 (by decide) ?_
        exact j_iret hx hq rfl d_Mo_does_126 (by first | (unfold mdV; rw [if_neg zc7_0, if_neg zc7_1, if_neg zc7_2, if_pos zc7_3]; exact (if_neg (fun z => z.elim zc104 (fun q => q zc114))).symm) | fail) (by first | (unfold mdS; rw [if_neg zc7_0, if_neg zc7_1, if_neg zc7_2, if_pos zc7_3]; exact (if_neg (fun z => z.elim zc104 (fun q => q zc114))).symm) | fail)
      · skip
        refine j_iconst (v := 0) hx d_Mo_does_117 (by decide) ?_
        exact j_iret hx hq rfl d_Mo_does_118 (by first | (unfold mdV; rw [if_neg zc7_0, if_neg zc7_1, if_neg zc7_2, if_pos zc7_3]; first | exact (if_pos (Or.inl zc104)).symm | exact (if_pos (Or.inr zc114)).symm) | fail) (by first | (unfold mdS; rw [if_neg zc7_0, if_neg zc7_1, if_neg zc7_2, if_pos zc7_3]; first | exact (if_pos (Or.inl zc104)).symm | exact (if_pos (Or.inr zc114)).symm) | fail)
  refine J.sw (x := σ e 0) 4 (fun zc7_4 => ?_) (fun zc7_4 => ?_)
  · skip
    refine j_tableIn (x := σ e 0) (tgt := 127) (off := 120) hx d_Mo_does_7 (by rw [zc7_4]; decide) (by rw [zc7_4]; decide) (by rw [zc7_4]; decide) (by decide) ?_
    refine j_aload_n hx d_Mo_does_127 rfl 2 rfl ?_
    refine j_bipush (v := 28) hx d_Mo_does_128 (by decide) ?_
    have hz130_21 : zin (28) 31 28 := by first | exact ⟨rfl, by decide⟩ | exact zin_nI (by omega) (by first | decide | omega) | exact zin_of (by omega) (by omega)
    refine j_ialdk hx ho_o hz130_21 d_Mo_does_130 ?_
    refine j_iconst (v := 1) hx d_Mo_does_131 (by decide) ?_
    refine j_icmp_ne (tgt := 137) hx d_Mo_does_132 (by decide) (fun zc132 => ?_) (fun zc132 => ?_)
    · skip
      refine j_aload_n hx d_Mo_does_137 rfl 2 rfl ?_
      refine j_bipush (v := 28) hx d_Mo_does_138 (by decide) ?_
      refine j_iconst (v := 1) hx d_Mo_does_140 (by decide) ?_
      have hz141_22 : zin (28) 31 28 := by first | exact ⟨rfl, by decide⟩ | exact zin_nI (by omega) (by first | decide | omega) | exact zin_of (by omega) (by omega)
      refine j_iastk hx ho_o hz141_22 d_Mo_does_141 ?_
      refine j_iconst (v := 1) hx d_Mo_does_142 (by decide) ?_
      exact j_iret hx hq rfl d_Mo_does_143 (by first | (unfold mdV; rw [if_neg zc7_0, if_neg zc7_1, if_neg zc7_2, if_neg zc7_3, if_pos zc7_4]; exact (if_neg zc132).symm) | fail) (by first | (unfold mdS; rw [if_neg zc7_0, if_neg zc7_1, if_neg zc7_2, if_neg zc7_3, if_pos zc7_4]; exact (if_neg zc132).symm) | fail)
    · skip
      refine j_iconst (v := 0) hx d_Mo_does_135 (by decide) ?_
      exact j_iret hx hq rfl d_Mo_does_136 (by first | (unfold mdV; rw [if_neg zc7_0, if_neg zc7_1, if_neg zc7_2, if_neg zc7_3, if_pos zc7_4]; first | exact (if_pos zc132).symm | exact (if_pos (Decidable.not_not.mp zc132)).symm) | fail) (by first | (unfold mdS; rw [if_neg zc7_0, if_neg zc7_1, if_neg zc7_2, if_neg zc7_3, if_pos zc7_4]; first | exact (if_pos zc132).symm | exact (if_pos (Decidable.not_not.mp zc132)).symm) | fail)
  refine j_tableOut (x := σ e 0) (tgt := 144) hx d_Mo_does_7 (by have h0 := sw_ne zc7_0; have h1 := sw_ne zc7_1; have h2 := sw_ne zc7_2; have h3 := sw_ne zc7_3; have h4 := sw_ne zc7_4; have q0 : Int32.toInt 0 = 0 := rfl; have q1 : Int32.toInt 1 = 1 := rfl; have q2 : Int32.toInt 2 = 2 := rfl; have q3 : Int32.toInt 3 = 3 := rfl; have q4 : Int32.toInt 4 = 4 := rfl; omega) (by decide) ?_
  refine j_aload_n hx d_Mo_does_144 rfl 2 rfl ?_
  refine j_bipush (v := 27) hx d_Mo_does_145 (by decide) ?_
  have hz147_23 : zin (27) 31 27 := by first | exact ⟨rfl, by decide⟩ | exact zin_nI (by omega) (by first | decide | omega) | exact zin_of (by omega) (by omega)
  refine j_ialdk hx ho_o hz147_23 d_Mo_does_147 ?_
  refine j_sipush (v := 500) hx d_Mo_does_148 (by decide) ?_
  refine j_icmp_lt (tgt := 156) hx d_Mo_does_151 (by decide) (fun zc151 => ?_) (fun zc151 => ?_)
  · skip
    refine j_aload_n hx d_Mo_does_156 rfl 2 rfl ?_
    refine j_callSv hx (c_Mo_nightEnds hG ho_o σ) mo_Mo_nightEnds t_1775 t_1774 (by decide) rfl rfl (Nat.le_of_ble_eq_true rfl) d_Mo_does_157 ?_
    refine j_iconst (v := 1) hx d_Mo_does_160 (by decide) ?_
    exact j_iret hx hq rfl d_Mo_does_161 (by first | (unfold mdV; rw [if_neg zc7_0, if_neg zc7_1, if_neg zc7_2, if_neg zc7_3, if_neg zc7_4]; exact (if_pos zc151).symm) | fail) (by first | (unfold mdS; rw [if_neg zc7_0, if_neg zc7_1, if_neg zc7_2, if_neg zc7_3, if_neg zc7_4]; exact (if_pos zc151).symm) | fail)
  · skip
    refine j_iconst (v := 0) hx d_Mo_does_154 (by decide) ?_
    exact j_iret hx hq rfl d_Mo_does_155 (by first | (unfold mdV; rw [if_neg zc7_0, if_neg zc7_1, if_neg zc7_2, if_neg zc7_3, if_neg zc7_4]; exact (if_neg (i_lelt (i_nlt zc151))).symm) | fail) (by first | (unfold mdS; rw [if_neg zc7_0, if_neg zc7_1, if_neg zc7_2, if_neg zc7_3, if_neg zc7_4]; exact (if_neg (i_lelt (i_nlt zc151))).symm) | fail)

set_option maxRecDepth 20000 in
set_option maxHeartbeats 4000000 in
theorem c_Mo_goesF {l : Launch} {G : Gz} (hG : zI G) (σ : St) (a : Nat) (b : Nat) (hab : a ≤ b) (hb : b ≤ 80) (hw : mW σ) (hr : rW σ 122) {kr d : Nat} (rec : Nat → Nat → St → St) (hfr : d ≠ 0 → gfr rec (d - 1)) (hrec : d ≠ 0 → ∀ (a b : Nat) (t : St), a ≤ b → b ≤ 80 → gok t (d - 1) a b → mW t → rW t 122 → MV l G y_Mo_goes prog_14_method_59_code 5 kr [.ref (G.1 111), .int (nI a), .int (nI b)] t (rec a b t)) (hg : gok σ d a b) : MV l G y_Mo_goes prog_14_method_59_code 5 (kr + 8) [.ref (G.1 111), .int (nI a), .int (nI b)] σ (mgF rec a b σ) := by
  refine MV.of hG (by decide) (Nat.le_of_ble_eq_true rfl) (fun X hx hq => ?_)
  show J l G X 5 σ 0 [(0, .ref (G.1 111)), (1, .int (nI a)), (2, .int (nI b))] []
  refine j_iload_n hx d_Mo_goes_0 rfl 1 rfl ?_
  refine j_istore_n hx [(3, .int (nI a)), (0, .ref (G.1 111)), (1, .int (nI a)), (2, .int (nI b))] d_Mo_goes_1 rfl (by decide) rfl ?_
  have hl2 : ∀ (N9 : Nat) (n s : Nat) (t : St), (a ≤ s) → (s ≤ b) → (b - s ≤ n) → (mgR rec b n s t = mgF rec a b σ) → (gq σ t) → b - s = N9 → J l G X 5 t 2 [(0, .ref (G.1 111)), (1, .int (nI a)), (2, .int (nI b)), (3, .int (nI s))] [] := by
    intro N9
    induction N9 using Nat.strongRecOn with
    | _ N9 ih2 =>
      intro n s t hs hsb hn hr9 hq9 hm2
      have hg9 := hq9.ok hb hg
      have hw9 := hq9.w hw
      have hrw := hq9.2.2 hr
      refine j_iload_n hx d_Mo_goes_2 rfl 3 rfl ?_
      refine j_iload_n hx d_Mo_goes_3 rfl 2 rfl ?_
      refine j_icmp_ge (tgt := 156) hx d_Mo_goes_4 (by decide) (fun zc4 => ?_) (fun zc4 => ?_)
      · skip
        exact j_vret hx hq d_Mo_goes_156 (by first | (first | exact (mgR_stop (fun z => i_lelt zc14 z.2)).symm.trans hr9 | exact (mgR_stop (fun z => absurd z.1 (by rw [znI_le (by omega) (by omega)] at zc4; omega))).symm.trans hr9) | fail)
      · skip
        have hlt : s < b := by rw [znI_le (by omega) (by omega)] at zc4; omega
        have hs80 : s < 80 := by omega
        refine j_aload_n hx d_Mo_goes_7 rfl 0 rfl ?_
        refine j_get hx ck_Mo 46 (by decide) t_1464 (by decide) (sh_111 _ _) rfl d_Mo_goes_8 ?_
        refine j_sipush (v := 200) hx d_Mo_goes_11 (by decide) ?_
        refine j_icmp_ge (tgt := 156) hx d_Mo_goes_14 (by decide) (fun zc14 => ?_) (fun zc14 => ?_)
        · skip
          exact j_vret hx hq d_Mo_goes_156 (by first | (first | exact (mgR_stop (fun z => i_lelt zc14 z.2)).symm.trans hr9 | exact (mgR_stop (fun z => absurd z.1 (by rw [znI_le (by omega) (by omega)] at zc4; omega))).symm.trans hr9) | fail)
        · skip
          refine j_aload_n hx d_Mo_goes_17 rfl 0 rfl ?_
          refine j_dup hx d_Mo_goes_18 rfl ?_
          refine j_get hx ck_Mo 46 (by decide) t_1464 (by decide) (sh_111 _ _) rfl d_Mo_goes_19 ?_
          refine j_iconst (v := 1) hx d_Mo_goes_22 (by decide) ?_
          refine j_iadd hx d_Mo_goes_23 ?_
          refine j_put hx ck_Mo 46 (by decide) t_1464 (by decide) (sh_111 _ _) rfl (Nat.le_of_ble_eq_true rfl) (sh_111 _ _) d_Mo_goes_24 ?_
          obtain ⟨s9_1, eg_1⟩ : ∃ z : St, z = mg1 t := ⟨_, rfl⟩
          refine J.to (σ' := s9_1) (by rw [eg_1]; first | done | rfl) rfl ?_
          have hq1 : gq t s9_1 := by rw [eg_1]; exact gq.rf.up1 (Or.inl (by decide))
          have hw1 := hq1.w hw9
          have hr1 := hq1.2.2 hrw
          have hg1 := hq1.ok hb hg9
          have hlE : s + 1 ≤ mgE s9_1 s := (gok_1 hg1 hs hlt).2.1
          have hE80 : mgE s9_1 s ≤ 80 := by have := (gok_1 hg1 hs hlt).2.2; omega
          have hst := (gok_1 hg1 hs hlt).1
          refine j_aload_n hx d_Mo_goes_27 rfl 0 rfl ?_
          refine j_get hx ck_Mo 31 (by decide) t_1449 (by decide) (sh_111 _ _) rfl d_Mo_goes_28 ?_
          refine j_iload_n hx d_Mo_goes_31 rfl 3 rfl ?_
          have hz32_1 : zin (nI s) 80 s := by first | exact ⟨rfl, by decide⟩ | exact zin_nI (by omega) (by first | decide | omega) | exact zin_of (by omega) (by omega)
          refine j_aaldk hx ias_step.1.1 (ias_step.2.1 _ _) hz32_1 d_Mo_goes_32 ?_
          refine j_iconst (v := 0) hx d_Mo_goes_33 (by decide) ?_
          have hz34_2 : zin (0) 4 0 := by first | exact ⟨rfl, by decide⟩ | exact zin_nI (by omega) (by first | decide | omega) | exact zin_of (by omega) (by omega)
          refine j_ialdk hx (ias_step.2.2 _ hz32_1.2) hz34_2 d_Mo_goes_34 ?_
          refine j_bipush (v := 6) hx d_Mo_goes_35 (by decide) ?_
          refine j_icmp_ne (tgt := 90) hx d_Mo_goes_37 (by decide) (fun zc37 => ?_) (fun zc37 => ?_)
          · skip
            refine j_aload_n hx d_Mo_goes_90 rfl 0 rfl ?_
            refine j_aload_n hx d_Mo_goes_91 rfl 0 rfl ?_
            refine j_get hx ck_Mo 33 (by decide) t_1451 (by decide) (sh_111 _ _) rfl d_Mo_goes_92 ?_
            refine j_aload_n hx d_Mo_goes_95 rfl 0 rfl ?_
            refine j_get hx ck_Mo 31 (by decide) t_1449 (by decide) (sh_111 _ _) rfl d_Mo_goes_96 ?_
            refine j_iload_n hx d_Mo_goes_99 rfl 3 rfl ?_
            have hz100_3 : zin (nI s) 80 s := by first | exact ⟨rfl, by decide⟩ | exact zin_nI (by omega) (by first | decide | omega) | exact zin_of (by omega) (by omega)
            refine j_aaldk hx ias_step.1.1 (ias_step.2.1 _ _) hz100_3 d_Mo_goes_100 ?_
            refine j_callVi hx (c_Mo_does hG ia_122 (ias_step.2.2 _ hz100_3.2) s9_1 (by exact hst.1) (by exact hst.2.1) (by exact hst.2.2.1) (by exact hw1) (by exact hr1) (by decide) (by decide) (by decide)) mo_Mo_does mv_Mo_does t_1716 (by omega) rfl (by decide) (sh_111 _ _) rfl rfl (Nat.le_of_ble_eq_true rfl) d_Mo_goes_101 ?_
            refine j_istore hx [(4, .int (mdV s9_1 122 (511 + s))), (0, .ref (G.1 111)), (1, .int (nI a)), (2, .int (nI b)), (3, .int (nI s))] d_Mo_goes_104 (by decide) rfl ?_
            refine j_aload_n hx d_Mo_goes_106 rfl 1 rfl ?_
            refine j_dup hx d_Mo_goes_107 rfl ?_
            refine j_get hx ck_Mo 47 (by decide) t_1465 (by decide) (sh_111 _ _) rfl d_Mo_goes_108 ?_
            refine j_iload hx d_Mo_goes_111 0 rfl ?_
            refine j_if_eq (tgt := 120) hx d_Mo_goes_113 (by decide) (fun zc113 => ?_) (fun zc113 => ?_)
            · skip
              refine j_iconst (v := 0) hx d_Mo_goes_120 (by decide) ?_
              refine j_iadd hx d_Mo_goes_121 ?_
              refine j_put hx ck_Mo 47 (by decide) t_1465 (by decide) (sh_111 _ _) rfl (Nat.le_of_ble_eq_true rfl) (sh_111 _ _) d_Mo_goes_122 ?_
              obtain ⟨s9_2, eg_2⟩ : ∃ z : St, z = mgD1 s9_1 s := ⟨_, rfl⟩
              refine J.to (σ' := s9_2) (by rw [eg_2]; unfold mgD1; first | (rw [if_pos zc113]; done) | (rw [if_neg zc113]; done)) rfl ?_
              refine j_aload_n hx d_Mo_goes_125 rfl 1 rfl ?_
              refine j_dup hx d_Mo_goes_126 rfl ?_
              refine j_get hx ck_Mo 39 (by decide) t_1457 (by decide) (sh_111 _ _) rfl d_Mo_goes_127 ?_
              refine j_iload hx d_Mo_goes_130 0 rfl ?_
              refine j_if_eq (tgt := 139) hx d_Mo_goes_132 (by decide) (fun zc132 => ?_) (fun zc132 => ?_)
              · skip
                refine j_iconst (v := 1) hx d_Mo_goes_139 (by decide) ?_
                refine j_iadd hx d_Mo_goes_140 ?_
                refine j_put hx ck_Mo 39 (by decide) t_1457 (by decide) (sh_111 _ _) rfl (Nat.le_of_ble_eq_true rfl) (sh_111 _ _) d_Mo_goes_141 ?_
                obtain ⟨s9_3, eg_3⟩ : ∃ z : St, z = mgB rec t s := ⟨_, rfl⟩
                refine J.to (σ' := s9_3) (by rw [eg_3]; first | (subst eg_1; exact goes_b1 zc37) | (subst eg_1; exact (mgI_stop hi_i (i_lelt zc63)).trans (goes_b1 zc37)) | (subst eg_1; rw [eg_2]; exact (show _ = mgD (mg1 t) s from by unfold mgD; first | (rw [if_pos zc132]; done) | (rw [if_neg zc132]; done)).trans (goes_b2 zc37)) | exact absurd zc113 zc132 | exact absurd zc132 zc113) rfl ?_
                refine j_aload_n hx d_Mo_goes_144 rfl 1 rfl ?_
                refine j_get hx ck_Mo 31 (by decide) t_1449 (by decide) (sh_111 _ _) rfl d_Mo_goes_145 ?_
                refine j_iload_n hx d_Mo_goes_148 rfl 4 rfl ?_
                have hz149_4 : zin (nI s) 80 s := by first | exact ⟨rfl, by decide⟩ | exact zin_nI (by omega) (by first | decide | omega) | exact zin_of (by omega) (by omega)
                refine j_aaldk hx ias_step.1.1 (ias_step.2.1 _ _) hz149_4 d_Mo_goes_149 ?_
                refine j_iconst (v := 3) hx d_Mo_goes_150 (by decide) ?_
                have hz151_5 : zin (3) 4 3 := by first | exact ⟨rfl, by decide⟩ | exact zin_nI (by omega) (by first | decide | omega) | exact zin_of (by omega) (by omega)
                refine j_ialdk hx (ias_step.2.2 _ hz149_4.2) hz151_5 d_Mo_goes_151 ?_
                refine j_istore_n hx [(3, .int (s9_3 (511 + s) 3)), (4, .int (mdV s9_1 122 (511 + s))), (0, .ref (G.1 111)), (1, .int (nI a)), (2, .int (nI b))] d_Mo_goes_152 rfl (by decide) rfl ?_
                refine j_goto (tgt := 2) hx d_Mo_goes_153 (by decide) ?_
                refine J.lsub (ls' := [(0, .ref (G.1 111)), (1, .int (nI a)), (2, .int (nI b)), (3, .int (s9_3 (511 + s) 3))]) [2, 3, 4, 0] rfl ?_
                refine J.to ?_ ?_ (ih2 _ ?_ (n - 1) (mgE t s) s9_3 (by have := (gok_1 hg9 hs hlt).2.1; omega) (gok_1 hg9 hs hlt).2.2 (by have := (gok_1 hg9 hs hlt).2.1; omega) (by rw [eg_3]; exact (mgR_go hn hlt (i_nle zc14)).symm.trans hr9) (by rw [eg_3]; exact hq9.tr (gq.B hfr hb hg9 hs hlt hw9.1.1)) rfl)
                · first | (rfl) | fail
                · first | (rw [eg_3, (gq.B hfr hb hg9 hs hlt hw9.1.1).st, nI_bk (gok_1 hg9 hs hlt).1.2.2.2]) | fail
                · first | (have := (gok_1 hg9 hs hlt).2.1; omega) | fail
              · skip
                refine j_iconst (v := 0) hx d_Mo_goes_135 (by decide) ?_
                refine j_goto (tgt := 140) hx d_Mo_goes_136 (by decide) ?_
                refine j_iadd hx d_Mo_goes_140 ?_
                refine j_put hx ck_Mo 39 (by decide) t_1457 (by decide) (sh_111 _ _) rfl (Nat.le_of_ble_eq_true rfl) (sh_111 _ _) d_Mo_goes_141 ?_
                obtain ⟨s9_3, eg_3⟩ : ∃ z : St, z = mgB rec t s := ⟨_, rfl⟩
                refine J.to (σ' := s9_3) (by rw [eg_3]; first | (subst eg_1; exact goes_b1 zc37) | (subst eg_1; exact (mgI_stop hi_i (i_lelt zc63)).trans (goes_b1 zc37)) | (subst eg_1; rw [eg_2]; exact (show _ = mgD (mg1 t) s from by unfold mgD; first | (rw [if_pos zc132]; done) | (rw [if_neg zc132]; done)).trans (goes_b2 zc37)) | exact absurd zc113 zc132 | exact absurd zc132 zc113) rfl ?_
                refine j_aload_n hx d_Mo_goes_144 rfl 1 rfl ?_
                refine j_get hx ck_Mo 31 (by decide) t_1449 (by decide) (sh_111 _ _) rfl d_Mo_goes_145 ?_
                refine j_iload_n hx d_Mo_goes_148 rfl 4 rfl ?_
                have hz149_6 : zin (nI s) 80 s := by first | exact ⟨rfl, by decide⟩ | exact zin_nI (by omega) (by first | decide | omega) | exact zin_of (by omega) (by omega)
                refine j_aaldk hx ias_step.1.1 (ias_step.2.1 _ _) hz149_6 d_Mo_goes_149 ?_
                refine j_iconst (v := 3) hx d_Mo_goes_150 (by decide) ?_
                have hz151_7 : zin (3) 4 3 := by first | exact ⟨rfl, by decide⟩ | exact zin_nI (by omega) (by first | decide | omega) | exact zin_of (by omega) (by omega)
                refine j_ialdk hx (ias_step.2.2 _ hz149_6.2) hz151_7 d_Mo_goes_151 ?_
                refine j_istore_n hx [(3, .int (s9_3 (511 + s) 3)), (4, .int (mdV s9_1 122 (511 + s))), (0, .ref (G.1 111)), (1, .int (nI a)), (2, .int (nI b))] d_Mo_goes_152 rfl (by decide) rfl ?_
                refine j_goto (tgt := 2) hx d_Mo_goes_153 (by decide) ?_
                refine J.lsub (ls' := [(0, .ref (G.1 111)), (1, .int (nI a)), (2, .int (nI b)), (3, .int (s9_3 (511 + s) 3))]) [2, 3, 4, 0] rfl ?_
                refine J.to ?_ ?_ (ih2 _ ?_ (n - 1) (mgE t s) s9_3 (by have := (gok_1 hg9 hs hlt).2.1; omega) (gok_1 hg9 hs hlt).2.2 (by have := (gok_1 hg9 hs hlt).2.1; omega) (by rw [eg_3]; exact (mgR_go hn hlt (i_nle zc14)).symm.trans hr9) (by rw [eg_3]; exact hq9.tr (gq.B hfr hb hg9 hs hlt hw9.1.1)) rfl)
                · first | (rfl) | fail
                · first | (rw [eg_3, (gq.B hfr hb hg9 hs hlt hw9.1.1).st, nI_bk (gok_1 hg9 hs hlt).1.2.2.2]) | fail
                · first | (have := (gok_1 hg9 hs hlt).2.1; omega) | fail
            · skip
              refine j_iconst (v := 1) hx d_Mo_goes_116 (by decide) ?_
              refine j_goto (tgt := 121) hx d_Mo_goes_117 (by decide) ?_
              refine j_iadd hx d_Mo_goes_121 ?_
              refine j_put hx ck_Mo 47 (by decide) t_1465 (by decide) (sh_111 _ _) rfl (Nat.le_of_ble_eq_true rfl) (sh_111 _ _) d_Mo_goes_122 ?_
              obtain ⟨s9_2, eg_2⟩ : ∃ z : St, z = mgD1 s9_1 s := ⟨_, rfl⟩
              refine J.to (σ' := s9_2) (by rw [eg_2]; unfold mgD1; first | (rw [if_pos zc113]; done) | (rw [if_neg zc113]; done)) rfl ?_
              refine j_aload_n hx d_Mo_goes_125 rfl 1 rfl ?_
              refine j_dup hx d_Mo_goes_126 rfl ?_
              refine j_get hx ck_Mo 39 (by decide) t_1457 (by decide) (sh_111 _ _) rfl d_Mo_goes_127 ?_
              refine j_iload hx d_Mo_goes_130 0 rfl ?_
              refine j_if_eq (tgt := 139) hx d_Mo_goes_132 (by decide) (fun zc132 => ?_) (fun zc132 => ?_)
              · skip
                refine j_iconst (v := 1) hx d_Mo_goes_139 (by decide) ?_
                refine j_iadd hx d_Mo_goes_140 ?_
                refine j_put hx ck_Mo 39 (by decide) t_1457 (by decide) (sh_111 _ _) rfl (Nat.le_of_ble_eq_true rfl) (sh_111 _ _) d_Mo_goes_141 ?_
                obtain ⟨s9_3, eg_3⟩ : ∃ z : St, z = mgB rec t s := ⟨_, rfl⟩
                refine J.to (σ' := s9_3) (by rw [eg_3]; first | (subst eg_1; exact goes_b1 zc37) | (subst eg_1; exact (mgI_stop hi_i (i_lelt zc63)).trans (goes_b1 zc37)) | (subst eg_1; rw [eg_2]; exact (show _ = mgD (mg1 t) s from by unfold mgD; first | (rw [if_pos zc132]; done) | (rw [if_neg zc132]; done)).trans (goes_b2 zc37)) | exact absurd zc113 zc132 | exact absurd zc132 zc113) rfl ?_
                refine j_aload_n hx d_Mo_goes_144 rfl 1 rfl ?_
                refine j_get hx ck_Mo 31 (by decide) t_1449 (by decide) (sh_111 _ _) rfl d_Mo_goes_145 ?_
                refine j_iload_n hx d_Mo_goes_148 rfl 4 rfl ?_
                have hz149_8 : zin (nI s) 80 s := by first | exact ⟨rfl, by decide⟩ | exact zin_nI (by omega) (by first | decide | omega) | exact zin_of (by omega) (by omega)
                refine j_aaldk hx ias_step.1.1 (ias_step.2.1 _ _) hz149_8 d_Mo_goes_149 ?_
                refine j_iconst (v := 3) hx d_Mo_goes_150 (by decide) ?_
                have hz151_9 : zin (3) 4 3 := by first | exact ⟨rfl, by decide⟩ | exact zin_nI (by omega) (by first | decide | omega) | exact zin_of (by omega) (by omega)
                refine j_ialdk hx (ias_step.2.2 _ hz149_8.2) hz151_9 d_Mo_goes_151 ?_
                refine j_istore_n hx [(3, .int (s9_3 (511 + s) 3)), (4, .int (mdV s9_1 122 (511 + s))), (0, .ref (G.1 111)), (1, .int (nI a)), (2, .int (nI b))] d_Mo_goes_152 rfl (by decide) rfl ?_
                refine j_goto (tgt := 2) hx d_Mo_goes_153 (by decide) ?_
                refine J.lsub (ls' := [(0, .ref (G.1 111)), (1, .int (nI a)), (2, .int (nI b)), (3, .int (s9_3 (511 + s) 3))]) [2, 3, 4, 0] rfl ?_
                refine J.to ?_ ?_ (ih2 _ ?_ (n - 1) (mgE t s) s9_3 (by have := (gok_1 hg9 hs hlt).2.1; omega) (gok_1 hg9 hs hlt).2.2 (by have := (gok_1 hg9 hs hlt).2.1; omega) (by rw [eg_3]; exact (mgR_go hn hlt (i_nle zc14)).symm.trans hr9) (by rw [eg_3]; exact hq9.tr (gq.B hfr hb hg9 hs hlt hw9.1.1)) rfl)
                · first | (rfl) | fail
                · first | (rw [eg_3, (gq.B hfr hb hg9 hs hlt hw9.1.1).st, nI_bk (gok_1 hg9 hs hlt).1.2.2.2]) | fail
                · first | (have := (gok_1 hg9 hs hlt).2.1; omega) | fail
              · skip
                refine j_iconst (v := 0) hx d_Mo_goes_135 (by decide) ?_
                refine j_goto (tgt := 140) hx d_Mo_goes_136 (by decide) ?_
                refine j_iadd hx d_Mo_goes_140 ?_
                refine j_put hx ck_Mo 39 (by decide) t_1457 (by decide) (sh_111 _ _) rfl (Nat.le_of_ble_eq_true rfl) (sh_111 _ _) d_Mo_goes_141 ?_
                obtain ⟨s9_3, eg_3⟩ : ∃ z : St, z = mgB rec t s := ⟨_, rfl⟩
                refine J.to (σ' := s9_3) (by rw [eg_3]; first | (subst eg_1; exact goes_b1 zc37) | (subst eg_1; exact (mgI_stop hi_i (i_lelt zc63)).trans (goes_b1 zc37)) | (subst eg_1; rw [eg_2]; exact (show _ = mgD (mg1 t) s from by unfold mgD; first | (rw [if_pos zc132]; done) | (rw [if_neg zc132]; done)).trans (goes_b2 zc37)) | exact absurd zc113 zc132 | exact absurd zc132 zc113) rfl ?_
                refine j_aload_n hx d_Mo_goes_144 rfl 1 rfl ?_
                refine j_get hx ck_Mo 31 (by decide) t_1449 (by decide) (sh_111 _ _) rfl d_Mo_goes_145 ?_
                refine j_iload_n hx d_Mo_goes_148 rfl 4 rfl ?_
                have hz149_10 : zin (nI s) 80 s := by first | exact ⟨rfl, by decide⟩ | exact zin_nI (by omega) (by first | decide | omega) | exact zin_of (by omega) (by omega)
                refine j_aaldk hx ias_step.1.1 (ias_step.2.1 _ _) hz149_10 d_Mo_goes_149 ?_
                refine j_iconst (v := 3) hx d_Mo_goes_150 (by decide) ?_
                have hz151_11 : zin (3) 4 3 := by first | exact ⟨rfl, by decide⟩ | exact zin_nI (by omega) (by first | decide | omega) | exact zin_of (by omega) (by omega)
                refine j_ialdk hx (ias_step.2.2 _ hz149_10.2) hz151_11 d_Mo_goes_151 ?_
                refine j_istore_n hx [(3, .int (s9_3 (511 + s) 3)), (4, .int (mdV s9_1 122 (511 + s))), (0, .ref (G.1 111)), (1, .int (nI a)), (2, .int (nI b))] d_Mo_goes_152 rfl (by decide) rfl ?_
                refine j_goto (tgt := 2) hx d_Mo_goes_153 (by decide) ?_
                refine J.lsub (ls' := [(0, .ref (G.1 111)), (1, .int (nI a)), (2, .int (nI b)), (3, .int (s9_3 (511 + s) 3))]) [2, 3, 4, 0] rfl ?_
                refine J.to ?_ ?_ (ih2 _ ?_ (n - 1) (mgE t s) s9_3 (by have := (gok_1 hg9 hs hlt).2.1; omega) (gok_1 hg9 hs hlt).2.2 (by have := (gok_1 hg9 hs hlt).2.1; omega) (by rw [eg_3]; exact (mgR_go hn hlt (i_nle zc14)).symm.trans hr9) (by rw [eg_3]; exact hq9.tr (gq.B hfr hb hg9 hs hlt hw9.1.1)) rfl)
                · first | (rfl) | fail
                · first | (rw [eg_3, (gq.B hfr hb hg9 hs hlt hw9.1.1).st, nI_bk (gok_1 hg9 hs hlt).1.2.2.2]) | fail
                · first | (have := (gok_1 hg9 hs hlt).2.1; omega) | fail
          · skip
            have h6 := gok_2 hg1 hs hlt zc37
            refine j_iconst (v := 0) hx d_Mo_goes_40 (by decide) ?_
            refine j_istore hx [(4, .int 0), (0, .ref (G.1 111)), (1, .int (nI a)), (2, .int (nI b)), (3, .int (nI s))] d_Mo_goes_41 (by decide) rfl ?_
            have hl43 : ∀ (N9 : Nat) (i : Nat), (i ≤ (ct (s9_1 (511 + s) 1))) → (ct (s9_1 (511 + s) 1)) - i = N9 → J l G X 5 ((mgI rec (s + 1) (mgE s9_1 s) s9_1 i)) 43 [(0, .ref (G.1 111)), (1, .int (nI a)), (2, .int (nI b)), (3, .int (nI s)), (4, .int (nI i))] [] := by
              intro N9
              induction N9 using Nat.strongRecOn with
              | _ N9 ih43 =>
                intro i hi_i hm43
                have hqI : gq s9_1 (mgI rec (s + 1) (mgE s9_1 s) s9_1 i) := gq.I (hfr h6.1) hE80 h6.2 hw1.1.1
                refine j_iload hx d_Mo_goes_43 4 rfl ?_
                refine j_aload_n hx d_Mo_goes_45 rfl 0 rfl ?_
                refine j_get hx ck_Mo 31 (by decide) t_1449 (by decide) (sh_111 _ _) rfl d_Mo_goes_46 ?_
                refine j_iload_n hx d_Mo_goes_49 rfl 3 rfl ?_
                have hz50_12 : zin (nI s) 80 s := by first | exact ⟨rfl, by decide⟩ | exact zin_nI (by omega) (by first | decide | omega) | exact zin_of (by omega) (by omega)
                refine j_aaldk hx ias_step.1.1 (ias_step.2.1 _ _) hz50_12 d_Mo_goes_50 ?_
                refine j_iconst (v := 1) hx d_Mo_goes_51 (by decide) ?_
                have hz52_13 : zin (1) 4 1 := by first | exact ⟨rfl, by decide⟩ | exact zin_nI (by omega) (by first | decide | omega) | exact zin_of (by omega) (by omega)
                refine j_ialdk hx (ias_step.2.2 _ hz50_12.2) hz52_13 d_Mo_goes_52 ?_
                refine j_icmp_ge (tgt := 87) hx d_Mo_goes_53 (by decide) (fun zc53 => ?_) (fun zc53 => ?_)
                · skip
                  obtain rfl := ct_end' hi_i (by have q9 := zc53; rw [hqI.st] at q9; exact q9)
                  refine j_goto (tgt := 144) hx d_Mo_goes_87 (by decide) ?_
                  obtain ⟨s9_2, eg_2⟩ : ∃ z : St, z = mgB rec t s := ⟨_, rfl⟩
                  refine J.to (σ' := s9_2) (by rw [eg_2]; first | (subst eg_1; exact goes_b1 zc37) | (subst eg_1; exact (mgI_stop hi_i (i_lelt zc63)).trans (goes_b1 zc37)) | (subst eg_1; rw [eg_2]; exact (show _ = mgD (mg1 t) s from by unfold mgD; first | (rw [if_pos zc132]; done) | (rw [if_neg zc132]; done)).trans (goes_b2 zc37)) | exact absurd zc113 zc132 | exact absurd zc132 zc113) rfl ?_
                  refine j_aload_n hx d_Mo_goes_144 rfl 0 rfl ?_
                  refine j_get hx ck_Mo 31 (by decide) t_1449 (by decide) (sh_111 _ _) rfl d_Mo_goes_145 ?_
                  refine j_iload_n hx d_Mo_goes_148 rfl 3 rfl ?_
                  have hz149_14 : zin (nI s) 80 s := by first | exact ⟨rfl, by decide⟩ | exact zin_nI (by omega) (by first | decide | omega) | exact zin_of (by omega) (by omega)
                  refine j_aaldk hx ias_step.1.1 (ias_step.2.1 _ _) hz149_14 d_Mo_goes_149 ?_
                  refine j_iconst (v := 3) hx d_Mo_goes_150 (by decide) ?_
                  have hz151_15 : zin (3) 4 3 := by first | exact ⟨rfl, by decide⟩ | exact zin_nI (by omega) (by first | decide | omega) | exact zin_of (by omega) (by omega)
                  refine j_ialdk hx (ias_step.2.2 _ hz149_14.2) hz151_15 d_Mo_goes_151 ?_
                  refine j_istore_n hx [(3, .int (s9_2 (511 + s) 3)), (0, .ref (G.1 111)), (1, .int (nI a)), (2, .int (nI b)), (4, .int (nI (ct (s9_1 (511 + s) 1))))] d_Mo_goes_152 rfl (by decide) rfl ?_
                  refine j_goto (tgt := 2) hx d_Mo_goes_153 (by decide) ?_
                  refine J.lsub (ls' := [(0, .ref (G.1 111)), (1, .int (nI a)), (2, .int (nI b)), (3, .int (s9_2 (511 + s) 3))]) [1, 2, 3, 0] rfl ?_
                  refine J.to ?_ ?_ (ih2 _ ?_ (n - 1) (mgE t s) s9_2 (by have := (gok_1 hg9 hs hlt).2.1; omega) (gok_1 hg9 hs hlt).2.2 (by have := (gok_1 hg9 hs hlt).2.1; omega) (by rw [eg_2]; exact (mgR_go hn hlt (i_nle zc14)).symm.trans hr9) (by rw [eg_2]; exact hq9.tr (gq.B hfr hb hg9 hs hlt hw9.1.1)) rfl)
                  · first | (rfl) | fail
                  · first | (rw [eg_2, (gq.B hfr hb hg9 hs hlt hw9.1.1).st, nI_bk (gok_1 hg9 hs hlt).1.2.2.2]) | fail
                  · first | (have := (gok_1 hg9 hs hlt).2.1; omega) | fail
                · skip
                  have hlt43 := ct_go hi_i (by have q9 := zc53; rw [hqI.st] at q9; exact q9)
                  refine j_aload_n hx d_Mo_goes_56 rfl 0 rfl ?_
                  refine j_get hx ck_Mo 46 (by decide) t_1464 (by decide) (sh_111 _ _) rfl d_Mo_goes_57 ?_
                  refine j_sipush (v := 200) hx d_Mo_goes_60 (by decide) ?_
                  refine j_icmp_ge (tgt := 87) hx d_Mo_goes_63 (by decide) (fun zc63 => ?_) (fun zc63 => ?_)
                  · skip
                    refine j_goto (tgt := 144) hx d_Mo_goes_87 (by decide) ?_
                    obtain ⟨s9_2, eg_2⟩ : ∃ z : St, z = mgB rec t s := ⟨_, rfl⟩
                    refine J.to (σ' := s9_2) (by rw [eg_2]; first | (subst eg_1; exact goes_b1 zc37) | (subst eg_1; exact (mgI_stop hi_i (i_lelt zc63)).trans (goes_b1 zc37)) | (subst eg_1; rw [eg_2]; exact (show _ = mgD (mg1 t) s from by unfold mgD; first | (rw [if_pos zc132]; done) | (rw [if_neg zc132]; done)).trans (goes_b2 zc37)) | exact absurd zc113 zc132 | exact absurd zc132 zc113) rfl ?_
                    refine j_aload_n hx d_Mo_goes_144 rfl 0 rfl ?_
                    refine j_get hx ck_Mo 31 (by decide) t_1449 (by decide) (sh_111 _ _) rfl d_Mo_goes_145 ?_
                    refine j_iload_n hx d_Mo_goes_148 rfl 3 rfl ?_
                    have hz149_16 : zin (nI s) 80 s := by first | exact ⟨rfl, by decide⟩ | exact zin_nI (by omega) (by first | decide | omega) | exact zin_of (by omega) (by omega)
                    refine j_aaldk hx ias_step.1.1 (ias_step.2.1 _ _) hz149_16 d_Mo_goes_149 ?_
                    refine j_iconst (v := 3) hx d_Mo_goes_150 (by decide) ?_
                    have hz151_17 : zin (3) 4 3 := by first | exact ⟨rfl, by decide⟩ | exact zin_nI (by omega) (by first | decide | omega) | exact zin_of (by omega) (by omega)
                    refine j_ialdk hx (ias_step.2.2 _ hz149_16.2) hz151_17 d_Mo_goes_151 ?_
                    refine j_istore_n hx [(3, .int (s9_2 (511 + s) 3)), (0, .ref (G.1 111)), (1, .int (nI a)), (2, .int (nI b)), (4, .int (nI i))] d_Mo_goes_152 rfl (by decide) rfl ?_
                    refine j_goto (tgt := 2) hx d_Mo_goes_153 (by decide) ?_
                    refine J.lsub (ls' := [(0, .ref (G.1 111)), (1, .int (nI a)), (2, .int (nI b)), (3, .int (s9_2 (511 + s) 3))]) [1, 2, 3, 0] rfl ?_
                    refine J.to ?_ ?_ (ih2 _ ?_ (n - 1) (mgE t s) s9_2 (by have := (gok_1 hg9 hs hlt).2.1; omega) (gok_1 hg9 hs hlt).2.2 (by have := (gok_1 hg9 hs hlt).2.1; omega) (by rw [eg_2]; exact (mgR_go hn hlt (i_nle zc14)).symm.trans hr9) (by rw [eg_2]; exact hq9.tr (gq.B hfr hb hg9 hs hlt hw9.1.1)) rfl)
                    · first | (rfl) | fail
                    · first | (rw [eg_2, (gq.B hfr hb hg9 hs hlt hw9.1.1).st, nI_bk (gok_1 hg9 hs hlt).1.2.2.2]) | fail
                    · first | (have := (gok_1 hg9 hs hlt).2.1; omega) | fail
                  · skip
                    refine j_aload_n hx d_Mo_goes_66 rfl 0 rfl ?_
                    refine j_iload_n hx d_Mo_goes_67 rfl 3 rfl ?_
                    refine j_iconst (v := 1) hx d_Mo_goes_68 (by decide) ?_
                    refine j_iadd hx d_Mo_goes_69 ?_
                    refine j_aload_n hx d_Mo_goes_70 rfl 0 rfl ?_
                    refine j_get hx ck_Mo 31 (by decide) t_1449 (by decide) (sh_111 _ _) rfl d_Mo_goes_71 ?_
                    refine j_iload_n hx d_Mo_goes_74 rfl 3 rfl ?_
                    have hz75_18 : zin (nI s) 80 s := by first | exact ⟨rfl, by decide⟩ | exact zin_nI (by omega) (by first | decide | omega) | exact zin_of (by omega) (by omega)
                    refine j_aaldk hx ias_step.1.1 (ias_step.2.1 _ _) hz75_18 d_Mo_goes_75 ?_
                    refine j_iconst (v := 3) hx d_Mo_goes_76 (by decide) ?_
                    have hz77_19 : zin (3) 4 3 := by first | exact ⟨rfl, by decide⟩ | exact zin_nI (by omega) (by first | decide | omega) | exact zin_of (by omega) (by omega)
                    refine j_ialdk hx (ias_step.2.2 _ hz75_18.2) hz77_19 d_Mo_goes_77 ?_
                    refine j_callVv hx (show MV l G y_Mo_goes prog_14_method_59_code 5 kr [.ref (G.1 111), .int (nI s + 1), .int (((mgI rec (s + 1) (mgE s9_1 s) s9_1 i)) (511 + s) 3)] ((mgI rec (s + 1) (mgE s9_1 s) s9_1 i)) (rec (s + 1) (mgE s9_1 s) ((mgI rec (s + 1) (mgE s9_1 s) s9_1 i))) from by rw [nI_s, hqI.st, ← nI_bk hst.2.2.2]; exact hrec h6.1 (s + 1) (mgE s9_1 s) ((mgI rec (s + 1) (mgE s9_1 s) s9_1 i)) hlE hE80 (hqI.ok hE80 h6.2) (hqI.w hw1) (hqI.2.2 hr1)) mo_Mo_goes mv_Mo_goes t_1712 (by omega) rfl (by decide) (sh_111 _ _) rfl rfl (Nat.le_of_ble_eq_true rfl) d_Mo_goes_78 ?_
                    refine j_iinc hx [(4, .int ((nI i) + 1)), (0, .ref (G.1 111)), (1, .int (nI a)), (2, .int (nI b)), (3, .int (nI s))] d_Mo_goes_81 4 rfl rfl (by decide) rfl ?_
                    refine j_goto (tgt := 43) hx d_Mo_goes_84 (by decide) ?_
                    refine J.lsub (ls' := [(0, .ref (G.1 111)), (1, .int (nI a)), (2, .int (nI b)), (3, .int (nI s)), (4, .int ((nI i) + 1))]) [1, 2, 3, 4, 0] rfl ?_
                    refine J.to ?_ ?_ (ih43 _ ?_ (i + 1) hlt43 rfl)
                    · first | (rw [mgI_s, if_pos (i_nle zc63)]) | fail
                    · first | (simp only [nI_s]) | fail
                    · first | (omega) | fail
            refine J.lsub (ls' := [(0, .ref (G.1 111)), (1, .int (nI a)), (2, .int (nI b)), (3, .int (nI s)), (4, .int 0)]) [1, 2, 3, 4, 0] rfl ?_
            refine J.to ?_ ?_ (hl43 _ 0 (Nat.zero_le _) rfl)
            · first | (rfl) | fail
            · first | (rfl) | fail
  refine J.lsub (ls' := [(0, .ref (G.1 111)), (1, .int (nI a)), (2, .int (nI b)), (3, .int (nI a))]) [1, 2, 3, 0] rfl ?_
  refine J.to ?_ ?_ (hl2 _ (b - a) a σ (Nat.le_refl _) hab (Nat.le_refl _) rfl gq.rf rfl)
  · first | (rfl) | fail
  · first | (rfl) | fail

set_option maxRecDepth 20000 in
set_option maxHeartbeats 4000000 in
theorem c_Mo_isWinter1 {l : Launch} {G : Gz} (hG : zI G) (σ : St) (n : Int32) (q : Int32) (h : (1 ≤ n ∧ n ≤ 96) ∧ (0 ≤ q ∧ q ≤ 16)) : MI l G y_Mo_isWinter prog_14_method_102_code 2 .boolean 2 [.int n, .int q] σ 1 σ := by
  refine MI.of hG (by decide) (Nat.le_of_ble_eq_true rfl) (fun X hx hq => ?_)
  show J l G X 2 σ 0 [(0, .int n), (1, .int q)] []
  refine j_iload_n hx d_Mo_isWinter_0 rfl 0 rfl ?_
  refine j_iconst (v := 1) hx d_Mo_isWinter_1 (by decide) ?_
  refine j_bipush (v := 96) hx d_Mo_isWinter_2 (by decide) ?_
  refine j_callSi hx (c_Mo_in1 hG σ n 1 96 (by exact h.1)) mo_Mo_in t_1582 t_1581 (by decide) rfl rfl (Nat.le_of_ble_eq_true rfl) d_Mo_isWinter_4 ?_
  refine j_if_eq (tgt := 24) hx d_Mo_isWinter_7 (by decide) (fun zc7 => absurd zc7 (by decide)) (fun _ => ?_)
  refine j_iload_n hx d_Mo_isWinter_10 rfl 1 rfl ?_
  refine j_iconst (v := 0) hx d_Mo_isWinter_11 (by decide) ?_
  refine j_bipush (v := 16) hx d_Mo_isWinter_12 (by decide) ?_
  refine j_callSi hx (c_Mo_in1 hG σ q 0 16 (by exact h.2)) mo_Mo_in t_1582 t_1581 (by decide) rfl rfl (Nat.le_of_ble_eq_true rfl) d_Mo_isWinter_14 ?_
  refine j_if_eq (tgt := 24) hx d_Mo_isWinter_17 (by decide) (fun zc17 => absurd zc17 (by decide)) (fun _ => ?_)
  refine j_iconst (v := 1) hx d_Mo_isWinter_20 (by decide) ?_
  refine j_goto (tgt := 25) hx d_Mo_isWinter_21 (by decide) ?_
  exact j_iret hx hq rfl d_Mo_isWinter_25 (by first | (rfl) | fail) (by first | (first | rfl | (simp only []; done) | (simp []; done)) | fail)

set_option maxRecDepth 20000 in
set_option maxHeartbeats 4000000 in
theorem c_Mo_isWinter0 {l : Launch} {G : Gz} (hG : zI G) (σ : St) (n : Int32) (q : Int32) (h : ¬ ((1 ≤ n ∧ n ≤ 96) ∧ (0 ≤ q ∧ q ≤ 16))) : MI l G y_Mo_isWinter prog_14_method_102_code 2 .boolean 2 [.int n, .int q] σ 0 σ := by
  refine MI.of hG (by decide) (Nat.le_of_ble_eq_true rfl) (fun X hx hq => ?_)
  show J l G X 2 σ 0 [(0, .int n), (1, .int q)] []
  refine j_iload_n hx d_Mo_isWinter_0 rfl 0 rfl ?_
  refine j_iconst (v := 1) hx d_Mo_isWinter_1 (by decide) ?_
  refine j_bipush (v := 96) hx d_Mo_isWinter_2 (by decide) ?_
  by_cases hn4 : 1 ≤ n ∧ n ≤ 96
  · skip
    refine j_callSi hx (c_Mo_in1 hG σ n 1 96 (by exact hn4)) mo_Mo_in t_1582 t_1581 (by decide) rfl rfl (Nat.le_of_ble_eq_true rfl) d_Mo_isWinter_4 ?_
    refine j_if_eq (tgt := 24) hx d_Mo_isWinter_7 (by decide) (fun zc7 => absurd zc7 (by decide)) (fun _ => ?_)
    refine j_iload_n hx d_Mo_isWinter_10 rfl 1 rfl ?_
    refine j_iconst (v := 0) hx d_Mo_isWinter_11 (by decide) ?_
    refine j_bipush (v := 16) hx d_Mo_isWinter_12 (by decide) ?_
    by_cases hn14 : 0 ≤ q ∧ q ≤ 16
    · skip
      exact absurd ⟨hn4, hn14⟩ h
    refine j_callSi hx (c_Mo_in0 hG σ q 0 16 (by exact hn14)) mo_Mo_in t_1582 t_1581 (by decide) rfl rfl (Nat.le_of_ble_eq_true rfl) d_Mo_isWinter_14 ?_
    refine j_if_eq (tgt := 24) hx d_Mo_isWinter_17 (by decide) (fun _ => ?_) (fun zc17 => absurd (by decide) zc17)
    refine j_iconst (v := 0) hx d_Mo_isWinter_24 (by decide) ?_
    exact j_iret hx hq rfl d_Mo_isWinter_25 (by first | (rfl) | fail) (by first | (first | rfl | (simp only []; done) | (simp []; done)) | fail)
  refine j_callSi hx (c_Mo_in0 hG σ n 1 96 (by exact hn4)) mo_Mo_in t_1582 t_1581 (by decide) rfl rfl (Nat.le_of_ble_eq_true rfl) d_Mo_isWinter_4 ?_
  refine j_if_eq (tgt := 24) hx d_Mo_isWinter_7 (by decide) (fun _ => ?_) (fun zc7 => absurd (by decide) zc7)
  refine j_iconst (v := 0) hx d_Mo_isWinter_24 (by decide) ?_
  exact j_iret hx hq rfl d_Mo_isWinter_25 (by first | (rfl) | fail) (by first | (first | rfl | (simp only []; done) | (simp []; done)) | fail)

theorem c_Mo_goesN {l : Launch} {G : Gz} (hG : zI G) : ∀ (d a b : Nat) (σ : St), a ≤ b → b ≤ 80 → gok σ d a b → mW σ → rW σ 122 → MV l G y_Mo_goes prog_14_method_59_code 5 (8 * d + 8) [.ref (G.1 111), .int (nI a), .int (nI b)] σ (mgN d a b σ) := by
  intro d
  induction d with
  | zero =>
    intro a b σ hab hb hg hw hr
    exact c_Mo_goesF hG σ a b hab hb hw hr (kr := 0) (d := 0) (fun _ _ t => t) (fun h => absurd rfl h) (fun h => absurd rfl h) hg
  | succ d ih =>
    intro a b σ hab hb hg hw hr
    exact c_Mo_goesF hG σ a b hab hb hw hr (kr := 8 * d + 8) (d := d + 1) (mgN d) (fun _ => gfr_N d) (fun _ => ih) hg
