theorem and_7fff (x : Int32) : ∃ m, m < 32768 ∧ x &&& 32767 = nI m := by
  refine ⟨x.toBitVec.toNat % 32768, Nat.mod_lt _ (by decide), Int32.toBitVec_inj.mp (BitVec.eq_of_toNat_eq ?_)⟩
  rw [Int32.toBitVec_and, BitVec.toNat_and, show (32767 : Int32).toBitVec.toNat = 2 ^ 15 - 1 from by decide, Nat.and_two_pow_sub_one_eq_mod]
  show _ = (BitVec.ofNat 32 _).toNat
  rw [BitVec.toNat_ofNat]
  have := Nat.mod_lt x.toBitVec.toNat (show 0 < 32768 by decide)
  rw [Nat.mod_eq_of_lt (show x.toBitVec.toNat % 32768 < 2 ^ 32 by omega)]
theorem mdv_nat (x : Int32) {n : Nat} (h0 : 0 < n) (hn : n < 100000) : ∃ r, r < n ∧ mdv x (nI n) = nI r := by
  obtain ⟨m, hm, e⟩ := and_7fff (mdr x >>> (16 &&& 31 : Int32))
  refine ⟨m % n, Nat.mod_lt _ h0, ?_⟩
  unfold mdv mdx
  rw [e, pk_rem (by omega) h0 (by omega)]
/-- a draw as a number -/
def mdn (x n : Int32) : Nat := (mdv x n).toInt.toNat
theorem mdn_s (x : Int32) {n : Nat} (h0 : 0 < n) (hn : n < 100000) : mdv x (nI n) = nI (mdn x (nI n)) ∧ mdn x (nI n) < n := by
  obtain ⟨r, h1, h2⟩ := mdv_nat x h0 hn
  unfold mdn
  rw [h2, i_nI (by omega)]
  exact ⟨by rw [show ((r : Int)).toNat = r by omega], by omega⟩
theorem ct_pos {x : Int32} (h : 0 < x) : nI (ct x) = x ∧ 0 < ct x := by
  rw [i_lt] at h
  have : (0 : Int32).toInt = 0 := rfl
  exact ⟨nI_bk (by omega), by unfold ct; omega⟩
/-! winters -/
def wb0 (σ : St) (seed : Int32) : St := up (up (fl σ 123 31 (σ 122)) 111 48 seed) 111 49 0
def wy1 (s : St) : St := up s 111 48 (mdr (s 111 48))
def wy2 (q : Int32) (s : St) : St := if mdv (s 111 48) 16 < q then up (wy1 s) 123 28 1 else wy1 s
def wy3 (s : St) : St := up s 111 49 (s 111 49 + s 123 28)
def wy4 (s : St) : St := if 0 < s 115 3 ∧ 0 < s 115 0 then mpS (wy1 s) 123 (mdn (s 111 48) (s 115 3)) else s
def wyS (q : Int32) (s : St) : St := mne (wy4 (wy3 (wy2 q s))) 123
def wyR (σ : St) (q : Int32) (n : Nat) : St := it (fun _ s => wyS q s) σ n
/-- t is σ but for the trial row and the reckoning -/
def wq (σ t : St) : Prop := (∀ o, o ≠ 111 → o ≠ 120 → o ≠ 121 → o ≠ 123 → t o = σ o) ∧ (∀ f, f < 41 → t 111 f = σ 111 f) ∧ (rW σ 123 → rW t 123)
theorem wq.rf {σ : St} : wq σ σ := ⟨fun _ _ _ _ _ => rfl, fun _ _ => rfl, id⟩
theorem wq.tr {σ t u : St} (h : wq σ t) (h2 : wq t u) : wq σ u := ⟨fun o a b c d => (h2.1 o a b c d).trans (h.1 o a b c d), fun f hf => (h2.2.1 f hf).trans (h.2.1 f hf), fun z => h2.2.2 (h.2.2 z)⟩
theorem sq.h {σ t : St} (h : sq σ t) : wq σ t := ⟨fun o a b c _ => h.1 o a b c, h.2, fun z => h.r (by decide) (by decide) (by decide) z⟩
theorem wq.w {σ t : St} (h : wq σ t) (hw : mW σ) : mW t := mW_eq (h.1 115 (by decide) (by decide) (by decide) (by decide)) (fun o h1 h2 => h.1 o (by omega) (by omega) (by omega) (by omega)) (h.2.1 23 (by decide)) (h.2.1 37 (by decide)) hw
theorem wq.up1 {σ t : St} (h : wq σ t) {k : Nat} {v : Int32} (hk : 41 ≤ k) : wq σ (up t 111 k v) := ⟨fun o a b c d => by rw [up_o a]; exact h.1 o a b c d, fun f hf => by rw [up_k (by omega)]; exact h.2.1 f hf, fun z => by unfold rW; rw [up_o (by decide)]; exact h.2.2 z⟩
theorem wq.row {σ t : St} (h : wq σ t) {k : Nat} {v : Int32} (hk : k < 28) : wq σ (up t 123 k v) := ⟨fun o a b c d => by rw [up_o d]; exact h.1 o a b c d, fun f hf => by rw [up_o (by decide)]; exact h.2.1 f hf, fun z => by unfold rW; rw [up_k (by omega), up_k (by omega), up_k (by omega)]; exact h.2.2 z⟩
theorem wq.fog {σ t : St} (h : wq σ t) {v : Int32} (hv : ¬ 1 + v = 0) : wq σ (up t 123 28 v) := ⟨fun o a b c d => by rw [up_o d]; exact h.1 o a b c d, fun f hf => by rw [up_o (by decide)]; exact h.2.1 f hf, fun z => by have := h.2.2 z; unfold rW at *; rw [up_rd, up_k (by decide), up_k (by decide)]; exact ⟨hv, this.2⟩⟩
theorem wq.pS {σ t : St} (h : wq σ t) {s : Nat} (hs : s < 6) (h0 : tl t 0 ≤ 12) : wq σ (mpS t 123 s) := by
  have h1 : wq σ (mp1 t 123 s) := by unfold mp1; exact (h.tr sq.rf.tF.h).row (by decide)
  have hsa : saW (mp1 t 123 s) := by unfold mp1; exact saW_up (by decide) (trF_sa h0)
  unfold mpS
  split
  · exact h1
  · rename_i hst
    have hc := hsa.resolve_left hst
    have h2 : wq σ (mp2 (mp1 t 123 s) 123 s) := by unfold mp2; exact h1.row (by omega)
    have e2 : (mp2 (mp1 t 123 s) 123 s) 111 42 = (mp1 t 123 s) 111 42 := by unfold mp2; rw [up_o (by decide)]
    have h3 : wq σ (mp3 (mp2 (mp1 t 123 s) 123 s) 123) := by unfold mp3; exact h2.row (by rw [e2]; omega)
    have h5 : wq σ (mp5 (mp4 (mp3 (mp2 (mp1 t 123 s) 123 s) 123) 123) 123 s) := by unfold mp5 mp4; exact (h3.row (by decide)).row (by decide)
    unfold mp6
    split
    · exact h5.row (by decide)
    · exact h5.row (by decide)
theorem wq.ne {σ t : St} (h : wq σ t) : wq σ (mne t 123) := by unfold mne; exact ((h.row (by decide)).fog (by decide)).row (by decide)
theorem wq.y1 {σ t : St} (h : wq σ t) : wq σ (wy1 t) := by unfold wy1; exact h.up1 (by decide)
theorem wq.y3 {σ t : St} (h : wq σ t) {q : Int32} : wq σ (wy3 (wy2 q t)) := by
  unfold wy3 wy2
  split
  · exact (h.y1.fog (by decide)).up1 (by decide)
  · exact h.y1.up1 (by decide)
theorem wq.y4 {σ t : St} (h : wq σ t) (hw : mW t) : wq σ (wy4 t) := by
  unfold wy4
  split
  · rename_i hz
    have h3 := ct_pos hz.1
    have hm := mdn_s (t 111 48) h3.2 (by have := hw.1.2.2.2.1; unfold tl at this; omega)
    rw [h3.1] at hm
    exact h.y1.pS (by have := hw.1.2.2.2.1; unfold tl at this; omega) (by have := hw.1.1; exact this)
  · exact h
theorem wq.yS {σ t : St} (h : wq σ t) (hw : mW t) {q : Int32} : wq σ (wyS q t) := by
  unfold wyS
  exact (h.y3.y4 ((wq.rf.y3).w hw)).ne
theorem wq.yR {σ t : St} (h : wq σ t) (hw : mW t) {q : Int32} {n : Nat} : wq σ (wyR t q n) := by
  have : wq t (wyR t q n) := by
    induction n with
    | zero => exact wq.rf
    | succ n ih => exact ih.yS (ih.w hw)
  exact h.tr this
theorem wb0_hq {σ : St} {seed : Int32} (hr : rW σ 122) : (∀ o, o ≠ 111 → o ≠ 123 → wb0 σ seed o = σ o) ∧ (∀ f, f < 41 → wb0 σ seed 111 f = σ 111 f) ∧ rW (wb0 σ seed) 123 := by
  unfold wb0
  refine ⟨fun o a b => by rw [up_o a, up_o a, fl_o b], fun f hf => by rw [up_k (by omega), up_k (by omega), fl_o (by decide)], ?_⟩
  unfold rW; rw [up_o (by decide), up_o (by decide)]
  unfold fl; simp only [if_true]
  exact hr
theorem wb0_w {σ : St} {seed : Int32} (hr : rW σ 122) (hw : mW σ) : mW (wb0 σ seed) := by
  obtain ⟨h1, h2, -⟩ := wb0_hq (seed := seed) hr
  exact mW_eq (h1 115 (by decide) (by decide)) (fun o q1 q2 => h1 o (by omega) (by omega)) (h2 23 (by decide)) (h2 37 (by decide)) hw
def mwn (σ : St) (seed : Int32) (n : Nat) (q : Int32) : St := wyR (wb0 σ seed) q n
def mwnV (σ : St) (seed : Int32) (n : Nat) (q w : Int32) : Int32 := if w = 0 then mwn σ seed n q 123 23 - mwn σ seed n q 122 23 else if w = 1 then mwn σ seed n q 123 24 - mwn σ seed n q 122 24 else if w = 2 then mwn σ seed n q 123 26 - mwn σ seed n q 122 26 else mwn σ seed n q 111 49
theorem mwn_122 {σ : St} {seed : Int32} {n : Nat} {q : Int32} (hw : mW σ) (hr : rW σ 122) {o : Nat} (h1 : o ≠ 111) (h2 : o ≠ 120) (h3 : o ≠ 121) (h4 : o ≠ 123) : mwn σ seed n q o = σ o := by
  unfold mwn
  rw [(wq.rf.yR (wb0_w hr hw) (q := q) (n := n)).1 o h1 h2 h3 h4, (wb0_hq hr).1 o h1 h4]
theorem mwn_f {σ : St} {seed : Int32} {n : Nat} {q : Int32} (hw : mW σ) (hr : rW σ 122) {f : Nat} (h1 : f < 41) : mwn σ seed n q 111 f = σ 111 f := by
  unfold mwn
  rw [(wq.rf.yR (wb0_w hr hw) (q := q) (n := n)).2.1 f h1, (wb0_hq hr).2.1 f h1]
/-- the winters of so many seeds: least, most, calm; the state -/
def msB (seed : Int32) (n : Nat) (q : Int32) (i : Nat) (z : (Int32 × Int32 × Int32) × St) : (Int32 × Int32 × Int32) × St :=
  ((if z.1.1 = -1 then mwn z.2 (seed + nI i) n q 123 24 - mwn z.2 (seed + nI i) n q 122 24 else (if z.1.1 < mwn z.2 (seed + nI i) n q 123 24 - mwn z.2 (seed + nI i) n q 122 24 then z.1.1 else mwn z.2 (seed + nI i) n q 123 24 - mwn z.2 (seed + nI i) n q 122 24),
    (if mwn z.2 (seed + nI i) n q 123 24 - mwn z.2 (seed + nI i) n q 122 24 < z.1.2.1 then z.1.2.1 else mwn z.2 (seed + nI i) n q 123 24 - mwn z.2 (seed + nI i) n q 122 24),
    z.1.2.2 + (if mwn z.2 (seed + nI i) n q 123 23 = mwn z.2 (seed + nI i) n q 122 23 then 1 else 0)), mwn z.2 (seed + nI i) n q)
def mspn (σ : St) (seed : Int32) (n : Nat) (q : Int32) (m : Nat) : (Int32 × Int32 × Int32) × St := it (msB seed n q) ((-1, 0, 0), σ) m
theorem mspn_a {σ : St} {seed : Int32} {n i : Nat} {q : Int32} (h : (mspn σ seed n q i).1.1 = -1) : (mspn σ seed n q (i + 1)).1.1 = mwn (mspn σ seed n q i).2 (seed + nI i) n q 123 24 - mwn (mspn σ seed n q i).2 (seed + nI i) n q 122 24 := if_pos h
theorem mspn_b {σ : St} {seed : Int32} {n i : Nat} {q : Int32} (h : ¬ (mspn σ seed n q i).1.1 = -1) : (mspn σ seed n q (i + 1)).1.1 = (if (mspn σ seed n q i).1.1 < mwn (mspn σ seed n q i).2 (seed + nI i) n q 123 24 - mwn (mspn σ seed n q i).2 (seed + nI i) n q 122 24 then (mspn σ seed n q i).1.1 else mwn (mspn σ seed n q i).2 (seed + nI i) n q 123 24 - mwn (mspn σ seed n q i).2 (seed + nI i) n q 122 24) := if_neg h
theorem mspn_c {σ : St} {seed : Int32} {n i : Nat} {q : Int32} : (mspn σ seed n q (i + 1)).1.2.1 = (if mwn (mspn σ seed n q i).2 (seed + nI i) n q 123 24 - mwn (mspn σ seed n q i).2 (seed + nI i) n q 122 24 < (mspn σ seed n q i).1.2.1 then (mspn σ seed n q i).1.2.1 else mwn (mspn σ seed n q i).2 (seed + nI i) n q 123 24 - mwn (mspn σ seed n q i).2 (seed + nI i) n q 122 24) := rfl
theorem mspn_d {σ : St} {seed : Int32} {n i : Nat} {q : Int32} (h : mwn (mspn σ seed n q i).2 (seed + nI i) n q 123 23 = mwn (mspn σ seed n q i).2 (seed + nI i) n q 122 23) : (mspn σ seed n q (i + 1)).1.2.2 = (mspn σ seed n q i).1.2.2 + 1 := by
  exact congrArg (fun z => (mspn σ seed n q i).1.2.2 + z) (if_pos h)
theorem mspn_e {σ : St} {seed : Int32} {n i : Nat} {q : Int32} (h : ¬ mwn (mspn σ seed n q i).2 (seed + nI i) n q 123 23 = mwn (mspn σ seed n q i).2 (seed + nI i) n q 122 23) : (mspn σ seed n q (i + 1)).1.2.2 = (mspn σ seed n q i).1.2.2 + 0 := by
  exact congrArg (fun z => (mspn σ seed n q i).1.2.2 + z) (if_neg h)
def mspV (σ : St) (seed : Int32) (m n : Nat) (q w : Int32) : Int32 := if w = 0 then (mspn σ seed n q m).1.1 else if w = 1 then (mspn σ seed n q m).1.2.1 else (mspn σ seed n q m).1.2.2
theorem mspn_w {σ : St} {seed : Int32} {n m : Nat} {q : Int32} (hw : mW σ) (hr : rW σ 122) : mW (mspn σ seed n q m).2 ∧ rW (mspn σ seed n q m).2 122 := by
  induction m with
  | zero => exact ⟨hw, hr⟩
  | succ m ih =>
    have e : (mspn σ seed n q (m + 1)).2 = mwn (mspn σ seed n q m).2 (seed + nI m) n q := rfl
    rw [e]
    refine ⟨?_, ?_⟩
    · unfold mwn; exact (wq.rf.yR (wb0_w ih.2 ih.1)).w (wb0_w ih.2 ih.1)
    · unfold rW; rw [mwn_122 ih.1 ih.2 (by decide) (by decide) (by decide) (by decide)]; exact ih.2
/-! images -/
def imf (σ : St) (k : Nat) : Int32 := if k = 0 then σ 111 38 else if k < 32 then σ 122 (k - 1) else σ (591 + (k - 32) / 31) (k - 32 - (k - 32) / 31 * 31)
def ims (σ : St) (o j : Nat) : St := up (fl σ o j (imf σ)) 111 41 (nI j)
theorem ims_o {σ : St} {o j q : Nat} (h1 : q ≠ o) (h2 : q ≠ 111) : ims σ o j q = σ q := by unfold ims; rw [up_o h2, fl_o h1]
theorem ims_f {σ : St} {o j f : Nat} (h1 : 111 ≠ o) (h2 : f ≠ 41) : ims σ o j 111 f = σ 111 f := by unfold ims; rw [up_k h2, fl_o h1]
theorem ims_41 {σ : St} {o j : Nat} : ims σ o j 111 41 = nI j := by unfold ims; rw [up_rd]
theorem up_cm {σ : St} {o q k m : Nat} {v w : Int32} (h : o ≠ q) : up (up σ o k v) q m w = up (up σ q m w) o k v := by
  funext a b; unfold up upd
  by_cases h1 : a = q
  · subst h1; simp [Ne.symm h]
  · by_cases h2 : a = o
    · subst h2; simp [h1]
    · simp [h1, h2]
theorem up_cmk {σ : St} {o k m : Nat} {v w : Int32} (h : k ≠ m) : up (up σ o k v) o m w = up (up σ o m w) o k v := by
  funext a b; unfold up upd
  by_cases h1 : a = o
  · subst h1
    by_cases h2 : b = m
    · subst h2; simp [Ne.symm h]
    · by_cases h3 : b = k
      · subst h3; simp [h2]
      · simp [h2, h3]
  · simp [h1]
theorem ims_next {σ : St} {o j : Nat} {v : Int32} (ho : o ≠ 111) (hv : v = imf σ j) : up (up (ims σ o j) o j v) 111 41 (nI (j + 1)) = ims σ o (j + 1) := by
  subst hv; unfold ims
  rw [up_cm (Ne.symm ho), up_up, fl_s]
theorem ims_38 {σ : St} {o j : Nat} {v : Int32} (ho : o ≠ 111) (hv : v = σ 111 38) : up (ims σ o j) 111 38 v = ims σ o j := by
  rw [hv, ← ims_f (σ := σ) (o := o) (j := j) (Ne.symm ho) (show 38 ≠ 41 by decide)]; exact up_id
theorem ims_q {σ : St} {o j q k : Nat} {v : Int32} (h1 : q ≠ o) (h2 : q ≠ 111) (hv : v = σ q k) : up (ims σ o j) q k v = ims σ o j := by
  rw [hv, ← ims_o (σ := σ) (o := o) (j := j) h1 h2]; exact up_id
theorem imf_1 {σ : St} {i : Nat} (h : i < 31) : imf σ (1 + i) = σ 122 i := by
  unfold imf; rw [if_neg (by omega), if_pos (by omega), show 1 + i - 1 = i by omega]
theorem imf_2 {σ : St} {w j : Nat} (h : j < 31) : imf σ (32 + 31 * w + j) = σ (591 + w) j := by
  have e : (32 + 31 * w + j - 32) / 31 = w := by omega
  unfold imf; rw [if_neg (by omega), if_neg (by omega), e, show 32 + 31 * w + j - 32 - w * 31 = j by omega]
def rmA (σ : St) (o : Nat) : St := up σ 111 38 (σ o 0)
def rm1 (σ : St) (o i : Nat) : St := up (fl (rmA σ o) 122 i (fun q => σ o (1 + q))) 111 41 (nI (1 + i))
def rmB (σ : St) (o : Nat) : St := fl (rmA σ o) 122 31 (fun q => σ o (1 + q))
def ly2 (B : St) (f : Nat → Int32) (w : Nat) : St := fun a k => if (591 ≤ a ∧ a < 591 + w) ∧ k < 31 then f (32 + 31 * (a - 591) + k) else B a k
theorem ly2_0 {B : St} {f : Nat → Int32} : ly2 B f 0 = B := by funext a k; unfold ly2; rw [if_neg (by omega)]
theorem ly2_o {B : St} {f : Nat → Int32} {w a : Nat} (h : a < 591 ∨ 591 + w ≤ a) : ly2 B f w a = B a := by funext k; unfold ly2; rw [if_neg (by omega)]
theorem ly2_s {B : St} {f : Nat → Int32} {w : Nat} : fl (ly2 B f w) (591 + w) 31 (fun q => f (32 + 31 * w + q)) = ly2 B f (w + 1) := by
  funext a k
  unfold fl ly2
  by_cases h : a = 591 + w
  · subst h
    rw [if_pos rfl, if_neg (show ¬ ((591 ≤ 591 + w ∧ 591 + w < 591 + w) ∧ k < 31) by omega)]
    by_cases hk : k < 31
    · rw [if_pos hk, if_pos (by omega), show 591 + w - 591 = w by omega]
    · rw [if_neg hk, if_neg (by omega)]
  · rw [if_neg h]
    by_cases h2 : (591 ≤ a ∧ a < 591 + w) ∧ k < 31
    · rw [if_pos h2, if_pos (by omega)]
    · rw [if_neg h2, if_neg (by omega)]
def rm2 (σ : St) (o w j : Nat) : St := up (fl (ly2 (rmB σ o) (σ o) w) (591 + w) j (fun q => σ o (32 + 31 * w + q))) 111 41 (nI (32 + 31 * w + j))
def rmS (σ : St) (o : Nat) : St := up (ly2 (rmB σ o) (σ o) 16) 111 41 (nI 528)
theorem rm1_o {σ : St} {o i q : Nat} (h1 : q ≠ 111) (h2 : q ≠ 122) : rm1 σ o i q = σ q := by unfold rm1 rmA; rw [up_o h1, fl_o h2, up_o h1]
theorem rm1_41 {σ : St} {o i : Nat} : rm1 σ o i 111 41 = nI (1 + i) := by unfold rm1; rw [up_rd]
theorem rm1_s {σ : St} {o i : Nat} : up (up (rm1 σ o i) 111 41 (nI (1 + i + 1))) 122 i (σ o (1 + i)) = rm1 σ o (i + 1) := by
  unfold rm1
  rw [up_up, up_cm (by decide), fl_s (f := fun q => σ o (1 + q))]; rfl
theorem rm2_o {σ : St} {o w j q : Nat} (h1 : q ≠ 111) (h2 : q ≠ 122) (h3 : q < 591 ∨ 591 + w < q) : rm2 σ o w j q = σ q := by
  unfold rm2 rmB rmA; rw [up_o h1, fl_o (by omega), ly2_o (by omega), fl_o h2, up_o h1]
theorem rm2_41 {σ : St} {o w j : Nat} : rm2 σ o w j 111 41 = nI (32 + 31 * w + j) := by unfold rm2; rw [up_rd]
theorem rm2_s {σ : St} {o w j : Nat} : up (up (rm2 σ o w j) 111 41 (nI (32 + 31 * w + j + 1))) (591 + w) j (σ o (32 + 31 * w + j)) = rm2 σ o w (j + 1) := by
  unfold rm2
  rw [up_up, up_cm (by omega), fl_s (f := fun q => σ o (32 + 31 * w + q))]; rfl
theorem rm2_w {σ : St} {o w : Nat} : rm2 σ o w 31 = rm2 σ o (w + 1) 0 := by
  unfold rm2; rw [ly2_s, fl_0]; congr 2
theorem rm2_e {σ : St} {o : Nat} : rm2 σ o 16 0 = rmS σ o := by unfold rm2 rmS; rw [fl_0]
theorem rm1_e {σ : St} {o : Nat} : rm1 σ o 31 = rm2 σ o 0 0 := by unfold rm1 rm2 rmB; rw [ly2_0, fl_0]
/-! feed -/
def fbv (a b c d e : Int32) (i : Nat) : Int32 := if i < 4 then a else if i < 8 then b else if i < 12 then c else if i < 16 then d else e
def fby (a b c d e : Int32) (i : Nat) : Int32 := (fbv a b c d e i >>> ((24 - 8 * (nI i - nI i / 4 * 4)) &&& 31)) &&& 255
def fdm (σ : St) (t : Nat) (f : Nat → Int32) (n : Nat) : St := it (fun k s => up (up s 112 (t + k) (f k)) 111 1 (nI (t + k + 1))) σ n
theorem fdm_1 {σ : St} {t n : Nat} {f : Nat → Int32} (h : σ 111 1 = nI t) : fdm σ t f n 111 1 = nI (t + n) := by
  cases n with
  | zero => exact h
  | succ n => show up (up (fdm σ t f n) 112 (t + n) (f n)) 111 1 (nI (t + n + 1)) 111 1 = _; rw [up_rd]; rfl
def und (σ : St) (w : Nat) : St := up (fl (up (t0 σ) 111 38 (nI w)) 122 31 (σ (591 + w))) 111 39 0
theorem zin_m9 {j : Nat} (h : j < 528) : zin (nI (j + 1) - 1) 528 j := ⟨by rw [i_sub (i_nI (by omega)) (show (1 : Int32).toInt = 1 from rfl) (by omega) (by omega)]; omega, h⟩
theorem nI_m1 {j : Nat} (h : j < 100000) : nI (j + 1) - 1 = nI j := by
  rw [i_eq, i_sub (i_nI (by omega)) (show (1 : Int32).toInt = 1 from rfl) (by omega) (by omega), i_nI (by omega)]; omega
theorem rmS_40 {σ : St} {o i : Nat} : rmS (up σ 111 40 (nI i)) o 111 40 = nI i := by
  unfold rmS rmB rmA
  rw [up_k (by decide), ly2_o (Or.inl (by decide)), fl_o (by decide), up_k (by decide), up_rd]

set_option maxRecDepth 20000 in
set_option maxHeartbeats 4000000 in
theorem c_Mo_drawN {l : Launch} {G : Gz} (hG : zI G) (σ : St) (n : Int32) (h0 : 0 < n) (hn : ct n < 1000) : MI l G y_Mo_draw prog_14_method_100_code 2 .int 1 [.ref (G.1 111), .int n] σ (nI (mdn (σ 111 48) n)) (wy1 σ) := by
  refine MI.of hG (by decide) (Nat.le_of_ble_eq_true rfl) (fun X hx hq => ?_)
  show J l G X 2 σ 0 [(0, .ref (G.1 111)), (1, .int n)] []
  have hc := ct_pos h0
  have hm := mdn_s (σ 111 48) hc.2 (by omega)
  rw [hc.1] at hm
  have hnz : ¬ n = 0 := by intro z; rw [z] at h0; exact absurd h0 (by decide)
  refine j_aload_n hx d_Mo_draw_0 rfl 0 rfl ?_
  refine j_aload_n hx d_Mo_draw_1 rfl 0 rfl ?_
  refine j_get hx ck_Mo 48 (by decide) t_1466 (by decide) (sh_111 _ _) rfl d_Mo_draw_2 ?_
  refine j_ldcw (v := 1103515245) hx t_1950 d_Mo_draw_5 ?_
  refine j_imul hx d_Mo_draw_8 ?_
  refine j_sipush (v := 12345) hx d_Mo_draw_9 (by decide) ?_
  refine j_iadd hx d_Mo_draw_12 ?_
  refine j_put hx ck_Mo 48 (by decide) t_1466 (by decide) (sh_111 _ _) rfl (Nat.le_of_ble_eq_true rfl) (sh_111 _ _) d_Mo_draw_13 ?_
  obtain ⟨s9_1, eg_1⟩ : ∃ z : St, z = wy1 σ := ⟨_, rfl⟩
  refine J.to (σ' := s9_1) (by rw [eg_1]; first | done | rfl) rfl ?_
  refine j_aload_n hx d_Mo_draw_16 rfl 0 rfl ?_
  refine j_get hx ck_Mo 48 (by decide) t_1466 (by decide) (sh_111 _ _) rfl d_Mo_draw_17 ?_
  refine j_bipush (v := 16) hx d_Mo_draw_20 (by decide) ?_
  refine j_ishr hx d_Mo_draw_22 ?_
  refine j_sipush (v := 32767) hx d_Mo_draw_23 (by decide) ?_
  refine j_iand hx d_Mo_draw_26 ?_
  refine j_iload_n hx d_Mo_draw_27 rfl 1 rfl ?_
  refine j_irem hx d_Mo_draw_28 (by exact hnz) ?_
  exact j_iret hx hq rfl d_Mo_draw_29 (by first | (rw [eg_1, ← hm.1]; unfold wy1; rw [up_rd]; rfl) | fail) (by first | (rw [eg_1]) | fail)

set_option maxRecDepth 20000 in
set_option maxHeartbeats 4000000 in
theorem c_Mo_winterBy {l : Launch} {G : Gz} (hG : zI G) (σ : St) (seed : Int32) (n : Int32) (q : Int32) (hw : mW σ) (hr : rW σ 122) : MV l G y_Mo_winterBy prog_14_method_101_code 5 8 [.ref (G.1 111), .int seed, .int n, .int q] σ (mwn σ seed (ct n) q) := by
  refine MV.of hG (by decide) (Nat.le_of_ble_eq_true rfl) (fun X hx hq => ?_)
  show J l G X 5 σ 0 [(0, .ref (G.1 111)), (1, .int seed), (2, .int n), (3, .int q)] []
  refine j_aload_n hx d_Mo_winterBy_0 rfl 0 rfl ?_
  refine j_get hx ck_Mo 33 (by decide) t_1451 (by decide) (sh_111 _ _) rfl d_Mo_winterBy_1 ?_
  refine j_aload_n hx d_Mo_winterBy_4 rfl 0 rfl ?_
  refine j_get hx ck_Mo 34 (by decide) t_1452 (by decide) (sh_111 _ _) rfl d_Mo_winterBy_5 ?_
  refine j_callSv hx (c_Mo_copies hG ia_122 ia_123 σ (by decide)) mo_Mo_copies t_1710 t_1709 (by decide) rfl rfl (Nat.le_of_ble_eq_true rfl) d_Mo_winterBy_8 ?_
  refine j_aload_n hx d_Mo_winterBy_11 rfl 0 rfl ?_
  refine j_iload_n hx d_Mo_winterBy_12 rfl 1 rfl ?_
  refine j_put hx ck_Mo 48 (by decide) t_1466 (by decide) (sh_111 _ _) rfl (Nat.le_of_ble_eq_true rfl) (sh_111 _ _) d_Mo_winterBy_13 ?_
  refine j_aload_n hx d_Mo_winterBy_16 rfl 0 rfl ?_
  refine j_iconst (v := 0) hx d_Mo_winterBy_17 (by decide) ?_
  refine j_put hx ck_Mo 49 (by decide) t_1467 (by decide) (sh_111 _ _) rfl (Nat.le_of_ble_eq_true rfl) (sh_111 _ _) d_Mo_winterBy_18 ?_
  obtain ⟨s9_1, eg_1⟩ : ∃ z : St, z = wb0 σ seed := ⟨_, rfl⟩
  refine J.to (σ' := s9_1) (by rw [eg_1]; rfl) rfl ?_
  have hw1 : mW s9_1 := by rw [eg_1]; exact wb0_w hr hw
  have hr1 : rW s9_1 123 := by rw [eg_1]; exact (wb0_hq hr).2.2
  refine j_iconst (v := 0) hx d_Mo_winterBy_21 (by decide) ?_
  refine j_istore hx [(4, .int 0), (0, .ref (G.1 111)), (1, .int seed), (2, .int n), (3, .int q)] d_Mo_winterBy_22 (by decide) rfl ?_
  have hl24 : ∀ (N9 : Nat) (i : Nat), (i ≤ (ct n)) → (ct n) - i = N9 → J l G X 5 (wyR s9_1 q i) 24 [(0, .ref (G.1 111)), (1, .int seed), (2, .int n), (3, .int q), (4, .int (nI i))] [] := by
    intro N9
    induction N9 using Nat.strongRecOn with
    | _ N9 ih24 =>
      intro i hi_i hm24
      have hq9 : wq s9_1 (wyR s9_1 q i) := wq.rf.yR hw1
      refine j_iload hx d_Mo_winterBy_24 4 rfl ?_
      refine j_iload_n hx d_Mo_winterBy_26 rfl 2 rfl ?_
      refine j_icmp_ge (tgt := 113) hx d_Mo_winterBy_27 (by decide) (fun zc27 => ?_) (fun zc27 => ?_)
      · skip
        obtain rfl := ct_end' hi_i zc27
        exact j_vret hx hq d_Mo_winterBy_113 (by first | (rw [eg_1]; rfl) | fail)
      · skip
        have hlt24 := ct_go hi_i zc27
        refine j_aload_n hx d_Mo_winterBy_30 rfl 0 rfl ?_
        refine j_bipush (v := 16) hx d_Mo_winterBy_31 (by decide) ?_
        refine j_callVi hx (c_Mo_draw hG (wyR s9_1 q i) 16 (by decide)) mo_Mo_draw mv_Mo_draw t_1946 (by decide) rfl (by decide) (sh_111 _ _) rfl rfl (Nat.le_of_ble_eq_true rfl) d_Mo_winterBy_33 ?_
        refine j_iload_n hx d_Mo_winterBy_36 rfl 3 rfl ?_
        refine j_icmp_ge (tgt := 48) hx d_Mo_winterBy_37 (by decide) (fun zc37 => ?_) (fun zc37 => ?_)
        · skip
          obtain ⟨s9_2, eg_2⟩ : ∃ z : St, z = wy2 q (wyR s9_1 q i) := ⟨_, rfl⟩
          refine J.to (σ' := s9_2) (by rw [eg_2]; unfold wy2; first | (rw [if_pos (i_nle zc37)]; rfl) | (rw [if_neg (i_lelt zc37)]; rfl)) rfl ?_
          refine j_aload_n hx d_Mo_winterBy_48 rfl 0 rfl ?_
          refine j_dup hx d_Mo_winterBy_49 rfl ?_
          refine j_get hx ck_Mo 49 (by decide) t_1467 (by decide) (sh_111 _ _) rfl d_Mo_winterBy_50 ?_
          refine j_aload_n hx d_Mo_winterBy_53 rfl 0 rfl ?_
          refine j_get hx ck_Mo 34 (by decide) t_1452 (by decide) (sh_111 _ _) rfl d_Mo_winterBy_54 ?_
          refine j_bipush (v := 28) hx d_Mo_winterBy_57 (by decide) ?_
          have hz59_1 : zin (28) 31 28 := by first | exact ⟨rfl, by decide⟩ | exact zin_nI (by omega) (by first | decide | omega) | exact zin_of (by omega) (by omega)
          refine j_ialdk hx ia_123 hz59_1 d_Mo_winterBy_59 ?_
          refine j_iadd hx d_Mo_winterBy_60 ?_
          refine j_put hx ck_Mo 49 (by decide) t_1467 (by decide) (sh_111 _ _) rfl (Nat.le_of_ble_eq_true rfl) (sh_111 _ _) d_Mo_winterBy_61 ?_
          obtain ⟨s9_3, eg_3⟩ : ∃ z : St, z = wy3 s9_2 := ⟨_, rfl⟩
          refine J.to (σ' := s9_3) (by rw [eg_3]; rfl) rfl ?_
          have hq3 : wq s9_1 s9_3 := by rw [eg_3, eg_2]; exact hq9.y3
          have hw3 := hq3.w hw1
          have hr3 := hq3.2.2 hr1
          have hb3 : ct (s9_3 115 3) ≤ 6 := hw3.1.2.2.2.1
          refine j_aload_n hx d_Mo_winterBy_64 rfl 0 rfl ?_
          refine j_get hx ck_Mo 12 (by decide) t_1430 (by decide) (sh_111 _ _) rfl d_Mo_winterBy_65 ?_
          refine j_iconst (v := 3) hx d_Mo_winterBy_68 (by decide) ?_
          have hz69_2 : zin (3) 6 3 := by first | exact ⟨rfl, by decide⟩ | exact zin_nI (by omega) (by first | decide | omega) | exact zin_of (by omega) (by omega)
          refine j_ialdk hx ia_115 hz69_2 d_Mo_winterBy_69 ?_
          refine j_if_le (tgt := 100) hx d_Mo_winterBy_70 (by decide) (fun zc70 => ?_) (fun zc70 => ?_)
          · skip
            obtain ⟨s9_4, eg_4⟩ : ∃ z : St, z = wy4 s9_3 := ⟨_, rfl⟩
            refine J.to (σ' := s9_4) (by rw [eg_4]; unfold wy4; first | exact (if_pos ⟨i_nle zc70, i_nle zc79⟩).symm | exact (if_neg (fun z => i_lelt zc79 z.2)).symm | exact (if_neg (fun z => i_lelt zc70 z.1)).symm) rfl ?_
            refine j_aload_n hx d_Mo_winterBy_100 rfl 0 rfl ?_
            refine j_get hx ck_Mo 34 (by decide) t_1452 (by decide) (sh_111 _ _) rfl d_Mo_winterBy_101 ?_
            refine j_callSv hx (c_Mo_nightEnds hG ia_123 s9_4) mo_Mo_nightEnds t_1775 t_1774 (by decide) rfl rfl (Nat.le_of_ble_eq_true rfl) d_Mo_winterBy_104 ?_
            refine j_iinc hx [(4, .int ((nI i) + 1)), (0, .ref (G.1 111)), (1, .int seed), (2, .int n), (3, .int q)] d_Mo_winterBy_107 4 rfl rfl (by decide) rfl ?_
            refine j_goto (tgt := 24) hx d_Mo_winterBy_110 (by decide) ?_
            refine J.lsub (ls' := [(0, .ref (G.1 111)), (1, .int seed), (2, .int n), (3, .int q), (4, .int ((nI i) + 1))]) [1, 2, 3, 4, 0] rfl ?_
            refine J.to ?_ ?_ (ih24 _ ?_ (i + 1) hlt24 rfl)
            · first | (rw [eg_4, eg_3, eg_2]; rfl) | fail
            · first | (simp only [nI_s]) | fail
            · first | (omega) | fail
          · skip
            refine j_aload_n hx d_Mo_winterBy_73 rfl 0 rfl ?_
            refine j_get hx ck_Mo 12 (by decide) t_1430 (by decide) (sh_111 _ _) rfl d_Mo_winterBy_74 ?_
            refine j_iconst (v := 0) hx d_Mo_winterBy_77 (by decide) ?_
            have hz78_3 : zin (0) 6 0 := by first | exact ⟨rfl, by decide⟩ | exact zin_nI (by omega) (by first | decide | omega) | exact zin_of (by omega) (by omega)
            refine j_ialdk hx ia_115 hz78_3 d_Mo_winterBy_78 ?_
            refine j_if_le (tgt := 100) hx d_Mo_winterBy_79 (by decide) (fun zc79 => ?_) (fun zc79 => ?_)
            · skip
              obtain ⟨s9_4, eg_4⟩ : ∃ z : St, z = wy4 s9_3 := ⟨_, rfl⟩
              refine J.to (σ' := s9_4) (by rw [eg_4]; unfold wy4; first | exact (if_pos ⟨i_nle zc70, i_nle zc79⟩).symm | exact (if_neg (fun z => i_lelt zc79 z.2)).symm | exact (if_neg (fun z => i_lelt zc70 z.1)).symm) rfl ?_
              refine j_aload_n hx d_Mo_winterBy_100 rfl 0 rfl ?_
              refine j_get hx ck_Mo 34 (by decide) t_1452 (by decide) (sh_111 _ _) rfl d_Mo_winterBy_101 ?_
              refine j_callSv hx (c_Mo_nightEnds hG ia_123 s9_4) mo_Mo_nightEnds t_1775 t_1774 (by decide) rfl rfl (Nat.le_of_ble_eq_true rfl) d_Mo_winterBy_104 ?_
              refine j_iinc hx [(4, .int ((nI i) + 1)), (0, .ref (G.1 111)), (1, .int seed), (2, .int n), (3, .int q)] d_Mo_winterBy_107 4 rfl rfl (by decide) rfl ?_
              refine j_goto (tgt := 24) hx d_Mo_winterBy_110 (by decide) ?_
              refine J.lsub (ls' := [(0, .ref (G.1 111)), (1, .int seed), (2, .int n), (3, .int q), (4, .int ((nI i) + 1))]) [1, 2, 3, 4, 0] rfl ?_
              refine J.to ?_ ?_ (ih24 _ ?_ (i + 1) hlt24 rfl)
              · first | (rw [eg_4, eg_3, eg_2]; rfl) | fail
              · first | (simp only [nI_s]) | fail
              · first | (omega) | fail
            · skip
              refine j_aload_n hx d_Mo_winterBy_82 rfl 0 rfl ?_
              refine j_aload_n hx d_Mo_winterBy_83 rfl 0 rfl ?_
              refine j_get hx ck_Mo 34 (by decide) t_1452 (by decide) (sh_111 _ _) rfl d_Mo_winterBy_84 ?_
              refine j_aload_n hx d_Mo_winterBy_87 rfl 0 rfl ?_
              refine j_aload_n hx d_Mo_winterBy_88 rfl 0 rfl ?_
              refine j_get hx ck_Mo 12 (by decide) t_1430 (by decide) (sh_111 _ _) rfl d_Mo_winterBy_89 ?_
              refine j_iconst (v := 3) hx d_Mo_winterBy_92 (by decide) ?_
              have hz93_4 : zin (3) 6 3 := by first | exact ⟨rfl, by decide⟩ | exact zin_nI (by omega) (by first | decide | omega) | exact zin_of (by omega) (by omega)
              refine j_ialdk hx ia_115 hz93_4 d_Mo_winterBy_93 ?_
              refine j_callVi hx (c_Mo_drawN hG s9_3 (s9_3 115 3) (by exact i_nle zc70) (by omega)) mo_Mo_draw mv_Mo_draw t_1946 (by decide) rfl (by decide) (sh_111 _ _) rfl rfl (Nat.le_of_ble_eq_true rfl) d_Mo_winterBy_94 ?_
              refine j_callVv hx (c_Mo_passes hG ia_123 (wy1 s9_3) ((mdn (s9_3 111 48) (s9_3 115 3))) (by have h3 := ct_pos (i_nle zc70); have hm := mdn_s (s9_3 111 48) h3.2 (by omega); rw [h3.1] at hm; omega) (by exact (wq.rf.y1).w hw3) (by exact (wq.rf.y1).2.2 hr3) (by decide) (by decide) (by decide)) mo_Mo_passes mv_Mo_passes t_1723 (by decide) rfl (by decide) (sh_111 _ _) rfl rfl (Nat.le_of_ble_eq_true rfl) d_Mo_winterBy_97 ?_
              obtain ⟨s9_4, eg_4⟩ : ∃ z : St, z = wy4 s9_3 := ⟨_, rfl⟩
              refine J.to (σ' := s9_4) (by rw [eg_4]; unfold wy4; first | exact (if_pos ⟨i_nle zc70, i_nle zc79⟩).symm | exact (if_neg (fun z => i_lelt zc79 z.2)).symm | exact (if_neg (fun z => i_lelt zc70 z.1)).symm) rfl ?_
              refine j_aload_n hx d_Mo_winterBy_100 rfl 0 rfl ?_
              refine j_get hx ck_Mo 34 (by decide) t_1452 (by decide) (sh_111 _ _) rfl d_Mo_winterBy_101 ?_
              refine j_callSv hx (c_Mo_nightEnds hG ia_123 s9_4) mo_Mo_nightEnds t_1775 t_1774 (by decide) rfl rfl (Nat.le_of_ble_eq_true rfl) d_Mo_winterBy_104 ?_
              refine j_iinc hx [(4, .int ((nI i) + 1)), (0, .ref (G.1 111)), (1, .int seed), (2, .int n), (3, .int q)] d_Mo_winterBy_107 4 rfl rfl (by decide) rfl ?_
              refine j_goto (tgt := 24) hx d_Mo_winterBy_110 (by decide) ?_
              refine J.lsub (ls' := [(0, .ref (G.1 111)), (1, .int seed), (2, .int n), (3, .int q), (4, .int ((nI i) + 1))]) [1, 2, 3, 4, 0] rfl ?_
              refine J.to ?_ ?_ (ih24 _ ?_ (i + 1) hlt24 rfl)
              · first | (rw [eg_4, eg_3, eg_2]; rfl) | fail
              · first | (simp only [nI_s]) | fail
              · first | (omega) | fail
        · skip
          refine j_aload_n hx d_Mo_winterBy_40 rfl 0 rfl ?_
          refine j_get hx ck_Mo 34 (by decide) t_1452 (by decide) (sh_111 _ _) rfl d_Mo_winterBy_41 ?_
          refine j_bipush (v := 28) hx d_Mo_winterBy_44 (by decide) ?_
          refine j_iconst (v := 1) hx d_Mo_winterBy_46 (by decide) ?_
          have hz47_5 : zin (28) 31 28 := by first | exact ⟨rfl, by decide⟩ | exact zin_nI (by omega) (by first | decide | omega) | exact zin_of (by omega) (by omega)
          refine j_iastk hx ia_123 hz47_5 d_Mo_winterBy_47 ?_
          obtain ⟨s9_2, eg_2⟩ : ∃ z : St, z = wy2 q (wyR s9_1 q i) := ⟨_, rfl⟩
          refine J.to (σ' := s9_2) (by rw [eg_2]; unfold wy2; first | (rw [if_pos (i_nle zc37)]; rfl) | (rw [if_neg (i_lelt zc37)]; rfl)) rfl ?_
          refine j_aload_n hx d_Mo_winterBy_48 rfl 0 rfl ?_
          refine j_dup hx d_Mo_winterBy_49 rfl ?_
          refine j_get hx ck_Mo 49 (by decide) t_1467 (by decide) (sh_111 _ _) rfl d_Mo_winterBy_50 ?_
          refine j_aload_n hx d_Mo_winterBy_53 rfl 0 rfl ?_
          refine j_get hx ck_Mo 34 (by decide) t_1452 (by decide) (sh_111 _ _) rfl d_Mo_winterBy_54 ?_
          refine j_bipush (v := 28) hx d_Mo_winterBy_57 (by decide) ?_
          have hz59_6 : zin (28) 31 28 := by first | exact ⟨rfl, by decide⟩ | exact zin_nI (by omega) (by first | decide | omega) | exact zin_of (by omega) (by omega)
          refine j_ialdk hx ia_123 hz59_6 d_Mo_winterBy_59 ?_
          refine j_iadd hx d_Mo_winterBy_60 ?_
          refine j_put hx ck_Mo 49 (by decide) t_1467 (by decide) (sh_111 _ _) rfl (Nat.le_of_ble_eq_true rfl) (sh_111 _ _) d_Mo_winterBy_61 ?_
          obtain ⟨s9_3, eg_3⟩ : ∃ z : St, z = wy3 s9_2 := ⟨_, rfl⟩
          refine J.to (σ' := s9_3) (by rw [eg_3]; rfl) rfl ?_
          have hq3 : wq s9_1 s9_3 := by rw [eg_3, eg_2]; exact hq9.y3
          have hw3 := hq3.w hw1
          have hr3 := hq3.2.2 hr1
          have hb3 : ct (s9_3 115 3) ≤ 6 := hw3.1.2.2.2.1
          refine j_aload_n hx d_Mo_winterBy_64 rfl 0 rfl ?_
          refine j_get hx ck_Mo 12 (by decide) t_1430 (by decide) (sh_111 _ _) rfl d_Mo_winterBy_65 ?_
          refine j_iconst (v := 3) hx d_Mo_winterBy_68 (by decide) ?_
          have hz69_7 : zin (3) 6 3 := by first | exact ⟨rfl, by decide⟩ | exact zin_nI (by omega) (by first | decide | omega) | exact zin_of (by omega) (by omega)
          refine j_ialdk hx ia_115 hz69_7 d_Mo_winterBy_69 ?_
          refine j_if_le (tgt := 100) hx d_Mo_winterBy_70 (by decide) (fun zc70 => ?_) (fun zc70 => ?_)
          · skip
            obtain ⟨s9_4, eg_4⟩ : ∃ z : St, z = wy4 s9_3 := ⟨_, rfl⟩
            refine J.to (σ' := s9_4) (by rw [eg_4]; unfold wy4; first | exact (if_pos ⟨i_nle zc70, i_nle zc79⟩).symm | exact (if_neg (fun z => i_lelt zc79 z.2)).symm | exact (if_neg (fun z => i_lelt zc70 z.1)).symm) rfl ?_
            refine j_aload_n hx d_Mo_winterBy_100 rfl 0 rfl ?_
            refine j_get hx ck_Mo 34 (by decide) t_1452 (by decide) (sh_111 _ _) rfl d_Mo_winterBy_101 ?_
            refine j_callSv hx (c_Mo_nightEnds hG ia_123 s9_4) mo_Mo_nightEnds t_1775 t_1774 (by decide) rfl rfl (Nat.le_of_ble_eq_true rfl) d_Mo_winterBy_104 ?_
            refine j_iinc hx [(4, .int ((nI i) + 1)), (0, .ref (G.1 111)), (1, .int seed), (2, .int n), (3, .int q)] d_Mo_winterBy_107 4 rfl rfl (by decide) rfl ?_
            refine j_goto (tgt := 24) hx d_Mo_winterBy_110 (by decide) ?_
            refine J.lsub (ls' := [(0, .ref (G.1 111)), (1, .int seed), (2, .int n), (3, .int q), (4, .int ((nI i) + 1))]) [1, 2, 3, 4, 0] rfl ?_
            refine J.to ?_ ?_ (ih24 _ ?_ (i + 1) hlt24 rfl)
            · first | (rw [eg_4, eg_3, eg_2]; rfl) | fail
            · first | (simp only [nI_s]) | fail
            · first | (omega) | fail
          · skip
            refine j_aload_n hx d_Mo_winterBy_73 rfl 0 rfl ?_
            refine j_get hx ck_Mo 12 (by decide) t_1430 (by decide) (sh_111 _ _) rfl d_Mo_winterBy_74 ?_
            refine j_iconst (v := 0) hx d_Mo_winterBy_77 (by decide) ?_
            have hz78_8 : zin (0) 6 0 := by first | exact ⟨rfl, by decide⟩ | exact zin_nI (by omega) (by first | decide | omega) | exact zin_of (by omega) (by omega)
            refine j_ialdk hx ia_115 hz78_8 d_Mo_winterBy_78 ?_
            refine j_if_le (tgt := 100) hx d_Mo_winterBy_79 (by decide) (fun zc79 => ?_) (fun zc79 => ?_)
            · skip
              obtain ⟨s9_4, eg_4⟩ : ∃ z : St, z = wy4 s9_3 := ⟨_, rfl⟩
              refine J.to (σ' := s9_4) (by rw [eg_4]; unfold wy4; first | exact (if_pos ⟨i_nle zc70, i_nle zc79⟩).symm | exact (if_neg (fun z => i_lelt zc79 z.2)).symm | exact (if_neg (fun z => i_lelt zc70 z.1)).symm) rfl ?_
              refine j_aload_n hx d_Mo_winterBy_100 rfl 0 rfl ?_
              refine j_get hx ck_Mo 34 (by decide) t_1452 (by decide) (sh_111 _ _) rfl d_Mo_winterBy_101 ?_
              refine j_callSv hx (c_Mo_nightEnds hG ia_123 s9_4) mo_Mo_nightEnds t_1775 t_1774 (by decide) rfl rfl (Nat.le_of_ble_eq_true rfl) d_Mo_winterBy_104 ?_
              refine j_iinc hx [(4, .int ((nI i) + 1)), (0, .ref (G.1 111)), (1, .int seed), (2, .int n), (3, .int q)] d_Mo_winterBy_107 4 rfl rfl (by decide) rfl ?_
              refine j_goto (tgt := 24) hx d_Mo_winterBy_110 (by decide) ?_
              refine J.lsub (ls' := [(0, .ref (G.1 111)), (1, .int seed), (2, .int n), (3, .int q), (4, .int ((nI i) + 1))]) [1, 2, 3, 4, 0] rfl ?_
              refine J.to ?_ ?_ (ih24 _ ?_ (i + 1) hlt24 rfl)
              · first | (rw [eg_4, eg_3, eg_2]; rfl) | fail
              · first | (simp only [nI_s]) | fail
              · first | (omega) | fail
            · skip
              refine j_aload_n hx d_Mo_winterBy_82 rfl 0 rfl ?_
              refine j_aload_n hx d_Mo_winterBy_83 rfl 0 rfl ?_
              refine j_get hx ck_Mo 34 (by decide) t_1452 (by decide) (sh_111 _ _) rfl d_Mo_winterBy_84 ?_
              refine j_aload_n hx d_Mo_winterBy_87 rfl 0 rfl ?_
              refine j_aload_n hx d_Mo_winterBy_88 rfl 0 rfl ?_
              refine j_get hx ck_Mo 12 (by decide) t_1430 (by decide) (sh_111 _ _) rfl d_Mo_winterBy_89 ?_
              refine j_iconst (v := 3) hx d_Mo_winterBy_92 (by decide) ?_
              have hz93_9 : zin (3) 6 3 := by first | exact ⟨rfl, by decide⟩ | exact zin_nI (by omega) (by first | decide | omega) | exact zin_of (by omega) (by omega)
              refine j_ialdk hx ia_115 hz93_9 d_Mo_winterBy_93 ?_
              refine j_callVi hx (c_Mo_drawN hG s9_3 (s9_3 115 3) (by exact i_nle zc70) (by omega)) mo_Mo_draw mv_Mo_draw t_1946 (by decide) rfl (by decide) (sh_111 _ _) rfl rfl (Nat.le_of_ble_eq_true rfl) d_Mo_winterBy_94 ?_
              refine j_callVv hx (c_Mo_passes hG ia_123 (wy1 s9_3) ((mdn (s9_3 111 48) (s9_3 115 3))) (by have h3 := ct_pos (i_nle zc70); have hm := mdn_s (s9_3 111 48) h3.2 (by omega); rw [h3.1] at hm; omega) (by exact (wq.rf.y1).w hw3) (by exact (wq.rf.y1).2.2 hr3) (by decide) (by decide) (by decide)) mo_Mo_passes mv_Mo_passes t_1723 (by decide) rfl (by decide) (sh_111 _ _) rfl rfl (Nat.le_of_ble_eq_true rfl) d_Mo_winterBy_97 ?_
              obtain ⟨s9_4, eg_4⟩ : ∃ z : St, z = wy4 s9_3 := ⟨_, rfl⟩
              refine J.to (σ' := s9_4) (by rw [eg_4]; unfold wy4; first | exact (if_pos ⟨i_nle zc70, i_nle zc79⟩).symm | exact (if_neg (fun z => i_lelt zc79 z.2)).symm | exact (if_neg (fun z => i_lelt zc70 z.1)).symm) rfl ?_
              refine j_aload_n hx d_Mo_winterBy_100 rfl 0 rfl ?_
              refine j_get hx ck_Mo 34 (by decide) t_1452 (by decide) (sh_111 _ _) rfl d_Mo_winterBy_101 ?_
              refine j_callSv hx (c_Mo_nightEnds hG ia_123 s9_4) mo_Mo_nightEnds t_1775 t_1774 (by decide) rfl rfl (Nat.le_of_ble_eq_true rfl) d_Mo_winterBy_104 ?_
              refine j_iinc hx [(4, .int ((nI i) + 1)), (0, .ref (G.1 111)), (1, .int seed), (2, .int n), (3, .int q)] d_Mo_winterBy_107 4 rfl rfl (by decide) rfl ?_
              refine j_goto (tgt := 24) hx d_Mo_winterBy_110 (by decide) ?_
              refine J.lsub (ls' := [(0, .ref (G.1 111)), (1, .int seed), (2, .int n), (3, .int q), (4, .int ((nI i) + 1))]) [1, 2, 3, 4, 0] rfl ?_
              refine J.to ?_ ?_ (ih24 _ ?_ (i + 1) hlt24 rfl)
              · first | (rw [eg_4, eg_3, eg_2]; rfl) | fail
              · first | (simp only [nI_s]) | fail
              · first | (omega) | fail
  refine J.lsub (ls' := [(0, .ref (G.1 111)), (1, .int seed), (2, .int n), (3, .int q), (4, .int 0)]) [1, 2, 3, 4, 0] rfl ?_
  refine J.to ?_ ?_ (hl24 _ 0 (Nat.zero_le _) rfl)
  · first | (rfl) | fail
  · first | (first | rfl | (simp only [nI_s]; done) | (simp only [nI_s, it_s]; done) | (simp [nI_s, it_s, ]; done)) | fail

set_option maxRecDepth 20000 in
set_option maxHeartbeats 4000000 in
theorem c_Mo_winter {l : Launch} {G : Gz} (hG : zI G) (σ : St) (seed : Int32) (n : Int32) (q : Int32) (w : Int32) (hw : mW (up σ 111 0 0)) (hr : rW (up σ 111 0 0) 122) (hv8 : (1 ≤ n ∧ n ≤ 96) ∧ (0 ≤ q ∧ q ≤ 16)) (hv18 : 0 ≤ w ∧ w ≤ 3) : MI l G y_Mo_winter prog_14_method_103_code 5 .int 9 [.ref (G.1 111), .int seed, .int n, .int q, .int w] σ (mwnV (up σ 111 0 0) seed (ct n) q w) (mwn (up σ 111 0 0) seed (ct n) q) := by
  refine MI.of hG (by decide) (Nat.le_of_ble_eq_true rfl) (fun X hx hq => ?_)
  show J l G X 5 σ 0 [(0, .ref (G.1 111)), (1, .int seed), (2, .int n), (3, .int q), (4, .int w)] []
  refine j_aload_n hx d_Mo_winter_0 rfl 0 rfl ?_
  refine j_iconst (v := 0) hx d_Mo_winter_1 (by decide) ?_
  refine j_put hx ck_Mo 0 (by decide) t_1418 (by decide) (sh_111 _ _) rfl (Nat.le_of_ble_eq_true rfl) (sh_111 _ _) d_Mo_winter_2 ?_
  refine j_aload_n hx d_Mo_winter_5 rfl 0 rfl ?_
  refine j_iload_n hx d_Mo_winter_6 rfl 2 rfl ?_
  refine j_iload_n hx d_Mo_winter_7 rfl 3 rfl ?_
  refine j_callSi hx (c_Mo_isWinter1 hG (up σ 111 0 0) n q (by exact hv8)) mo_Mo_isWinter t_1940 t_1939 (by decide) rfl rfl (Nat.le_of_ble_eq_true rfl) d_Mo_winter_8 ?_
  refine j_if_eq (tgt := 24) hx d_Mo_winter_11 (by decide) (fun zc11 => absurd zc11 (by decide)) (fun _ => ?_)
  refine j_iload hx d_Mo_winter_14 4 rfl ?_
  refine j_iconst (v := 0) hx d_Mo_winter_16 (by decide) ?_
  refine j_iconst (v := 3) hx d_Mo_winter_17 (by decide) ?_
  refine j_callSi hx (c_Mo_in1 hG (up σ 111 0 0) w 0 3 (by exact hv18)) mo_Mo_in t_1582 t_1581 (by decide) rfl rfl (Nat.le_of_ble_eq_true rfl) d_Mo_winter_18 ?_
  refine j_if_ne (tgt := 28) hx d_Mo_winter_21 (by decide) (fun _ => ?_) (fun zc21 => absurd zc21 (by decide))
  refine j_iconst (v := 0) hx d_Mo_winter_28 (by decide) ?_
  refine j_iconst (v := 1) hx d_Mo_winter_29 (by decide) ?_
  refine j_iconst (v := 1) hx d_Mo_winter_30 (by decide) ?_
  refine j_callVi hx (c_Mo_bad0 hG (up σ 111 0 0) 0 1 1 (by rfl) (by exact up_rd)) mo_Mo_bad mv_Mo_bad t_1584 (by decide) rfl (by decide) (sh_111 _ _) rfl rfl (Nat.le_of_ble_eq_true rfl) d_Mo_winter_31 ?_
  refine j_if_eq (tgt := 39) hx d_Mo_winter_34 (by decide) (fun _ => ?_) (fun zc34 => absurd (by decide) zc34)
  refine j_aload_n hx d_Mo_winter_39 rfl 0 rfl ?_
  refine j_iload_n hx d_Mo_winter_40 rfl 1 rfl ?_
  refine j_iload_n hx d_Mo_winter_41 rfl 2 rfl ?_
  refine j_iload_n hx d_Mo_winter_42 rfl 3 rfl ?_
  refine j_callVv hx (c_Mo_winterBy hG (up σ 111 0 0) seed n q (by exact hw) (by exact hr)) mo_Mo_winterBy mv_Mo_winterBy t_1942 (by decide) rfl (by decide) (sh_111 _ _) rfl rfl (Nat.le_of_ble_eq_true rfl) d_Mo_winter_43 ?_
  refine j_iload hx d_Mo_winter_46 4 rfl ?_
  refine J.sw (x := w) 0 (fun zc48_0 => ?_) (fun zc48_0 => ?_)
  · skip
    refine j_tableIn (x := w) (tgt := 76) (off := 28) hx d_Mo_winter_48 (by rw [zc48_0]; decide) (by rw [zc48_0]; decide) (by rw [zc48_0]; decide) (by decide) ?_
    refine j_aload_n hx d_Mo_winter_76 rfl 0 rfl ?_
    refine j_get hx ck_Mo 34 (by decide) t_1452 (by decide) (sh_111 _ _) rfl d_Mo_winter_77 ?_
    refine j_bipush (v := 23) hx d_Mo_winter_80 (by decide) ?_
    have hz82_1 : zin (23) 31 23 := by first | exact ⟨rfl, by decide⟩ | exact zin_nI (by omega) (by first | decide | omega) | exact zin_of (by omega) (by omega)
    refine j_ialdk hx ia_123 hz82_1 d_Mo_winter_82 ?_
    refine j_aload_n hx d_Mo_winter_83 rfl 0 rfl ?_
    refine j_get hx ck_Mo 33 (by decide) t_1451 (by decide) (sh_111 _ _) rfl d_Mo_winter_84 ?_
    refine j_bipush (v := 23) hx d_Mo_winter_87 (by decide) ?_
    have hz89_2 : zin (23) 31 23 := by first | exact ⟨rfl, by decide⟩ | exact zin_nI (by omega) (by first | decide | omega) | exact zin_of (by omega) (by omega)
    refine j_ialdk hx ia_122 hz89_2 d_Mo_winter_89 ?_
    refine j_isub hx d_Mo_winter_90 ?_
    exact j_iret hx hq rfl d_Mo_winter_91 (by first | (unfold mwnV; exact (if_pos zc48_0).symm) | fail) (by first | (rfl) | fail)
  refine J.sw (x := w) 1 (fun zc48_1 => ?_) (fun zc48_1 => ?_)
  · skip
    refine j_tableIn (x := w) (tgt := 92) (off := 44) hx d_Mo_winter_48 (by rw [zc48_1]; decide) (by rw [zc48_1]; decide) (by rw [zc48_1]; decide) (by decide) ?_
    refine j_aload_n hx d_Mo_winter_92 rfl 0 rfl ?_
    refine j_get hx ck_Mo 34 (by decide) t_1452 (by decide) (sh_111 _ _) rfl d_Mo_winter_93 ?_
    refine j_bipush (v := 24) hx d_Mo_winter_96 (by decide) ?_
    have hz98_3 : zin (24) 31 24 := by first | exact ⟨rfl, by decide⟩ | exact zin_nI (by omega) (by first | decide | omega) | exact zin_of (by omega) (by omega)
    refine j_ialdk hx ia_123 hz98_3 d_Mo_winter_98 ?_
    refine j_aload_n hx d_Mo_winter_99 rfl 0 rfl ?_
    refine j_get hx ck_Mo 33 (by decide) t_1451 (by decide) (sh_111 _ _) rfl d_Mo_winter_100 ?_
    refine j_bipush (v := 24) hx d_Mo_winter_103 (by decide) ?_
    have hz105_4 : zin (24) 31 24 := by first | exact ⟨rfl, by decide⟩ | exact zin_nI (by omega) (by first | decide | omega) | exact zin_of (by omega) (by omega)
    refine j_ialdk hx ia_122 hz105_4 d_Mo_winter_105 ?_
    refine j_isub hx d_Mo_winter_106 ?_
    exact j_iret hx hq rfl d_Mo_winter_107 (by first | (unfold mwnV; rw [if_neg zc48_0]; exact (if_pos zc48_1).symm) | fail) (by first | (rfl) | fail)
  refine J.sw (x := w) 2 (fun zc48_2 => ?_) (fun zc48_2 => ?_)
  · skip
    refine j_tableIn (x := w) (tgt := 108) (off := 60) hx d_Mo_winter_48 (by rw [zc48_2]; decide) (by rw [zc48_2]; decide) (by rw [zc48_2]; decide) (by decide) ?_
    refine j_aload_n hx d_Mo_winter_108 rfl 0 rfl ?_
    refine j_get hx ck_Mo 34 (by decide) t_1452 (by decide) (sh_111 _ _) rfl d_Mo_winter_109 ?_
    refine j_bipush (v := 26) hx d_Mo_winter_112 (by decide) ?_
    have hz114_5 : zin (26) 31 26 := by first | exact ⟨rfl, by decide⟩ | exact zin_nI (by omega) (by first | decide | omega) | exact zin_of (by omega) (by omega)
    refine j_ialdk hx ia_123 hz114_5 d_Mo_winter_114 ?_
    refine j_aload_n hx d_Mo_winter_115 rfl 0 rfl ?_
    refine j_get hx ck_Mo 33 (by decide) t_1451 (by decide) (sh_111 _ _) rfl d_Mo_winter_116 ?_
    refine j_bipush (v := 26) hx d_Mo_winter_119 (by decide) ?_
    have hz121_6 : zin (26) 31 26 := by first | exact ⟨rfl, by decide⟩ | exact zin_nI (by omega) (by first | decide | omega) | exact zin_of (by omega) (by omega)
    refine j_ialdk hx ia_122 hz121_6 d_Mo_winter_121 ?_
    refine j_isub hx d_Mo_winter_122 ?_
    exact j_iret hx hq rfl d_Mo_winter_123 (by first | (unfold mwnV; rw [if_neg zc48_0, if_neg zc48_1]; exact (if_pos zc48_2).symm) | fail) (by first | (rfl) | fail)
  refine j_tableOut (x := w) (tgt := 124) hx d_Mo_winter_48 (by have h0 := sw_ne zc48_0; have h1 := sw_ne zc48_1; have h2 := sw_ne zc48_2; have q0 : Int32.toInt 0 = 0 := rfl; have q1 : Int32.toInt 1 = 1 := rfl; have q2 : Int32.toInt 2 = 2 := rfl; omega) (by decide) ?_
  refine j_aload_n hx d_Mo_winter_124 rfl 0 rfl ?_
  refine j_get hx ck_Mo 49 (by decide) t_1467 (by decide) (sh_111 _ _) rfl d_Mo_winter_125 ?_
  exact j_iret hx hq rfl d_Mo_winter_128 (by first | (unfold mwnV; rw [if_neg zc48_0, if_neg zc48_1, if_neg zc48_2]) | fail) (by first | (rfl) | fail)

set_option maxRecDepth 20000 in
set_option maxHeartbeats 4000000 in
theorem c_Mo_winterI {l : Launch} {G : Gz} (hG : zI G) (σ : St) (seed : Int32) (n : Int32) (q : Int32) (w : Int32) (hbad : ¬ (((1 ≤ n ∧ n ≤ 96) ∧ (0 ≤ q ∧ q ≤ 16)) ∧ (0 ≤ w ∧ w ≤ 3))) : MI l G y_Mo_winter prog_14_method_103_code 5 .int 4 [.ref (G.1 111), .int seed, .int n, .int q, .int w] σ 0 (mrf σ 1 1) := by
  refine MI.of hG (by decide) (Nat.le_of_ble_eq_true rfl) (fun X hx hq => ?_)
  show J l G X 5 σ 0 [(0, .ref (G.1 111)), (1, .int seed), (2, .int n), (3, .int q), (4, .int w)] []
  refine j_aload_n hx d_Mo_winter_0 rfl 0 rfl ?_
  refine j_iconst (v := 0) hx d_Mo_winter_1 (by decide) ?_
  refine j_put hx ck_Mo 0 (by decide) t_1418 (by decide) (sh_111 _ _) rfl (Nat.le_of_ble_eq_true rfl) (sh_111 _ _) d_Mo_winter_2 ?_
  refine j_aload_n hx d_Mo_winter_5 rfl 0 rfl ?_
  refine j_iload_n hx d_Mo_winter_6 rfl 2 rfl ?_
  refine j_iload_n hx d_Mo_winter_7 rfl 3 rfl ?_
  by_cases hn8 : (1 ≤ n ∧ n ≤ 96) ∧ (0 ≤ q ∧ q ≤ 16)
  · skip
    refine j_callSi hx (c_Mo_isWinter1 hG (up σ 111 0 0) n q (by exact hn8)) mo_Mo_isWinter t_1940 t_1939 (by decide) rfl rfl (Nat.le_of_ble_eq_true rfl) d_Mo_winter_8 ?_
    refine j_if_eq (tgt := 24) hx d_Mo_winter_11 (by decide) (fun zc11 => absurd zc11 (by decide)) (fun _ => ?_)
    refine j_iload hx d_Mo_winter_14 4 rfl ?_
    refine j_iconst (v := 0) hx d_Mo_winter_16 (by decide) ?_
    refine j_iconst (v := 3) hx d_Mo_winter_17 (by decide) ?_
    by_cases hn18 : 0 ≤ w ∧ w ≤ 3
    · skip
      exact absurd ⟨hn8, hn18⟩ hbad
    refine j_callSi hx (c_Mo_in0 hG (up σ 111 0 0) w 0 3 (by exact hn18)) mo_Mo_in t_1582 t_1581 (by decide) rfl rfl (Nat.le_of_ble_eq_true rfl) d_Mo_winter_18 ?_
    refine j_if_ne (tgt := 28) hx d_Mo_winter_21 (by decide) (fun zc21 => absurd rfl zc21) (fun _ => ?_)
    refine j_iconst (v := 1) hx d_Mo_winter_24 (by decide) ?_
    refine j_goto (tgt := 29) hx d_Mo_winter_25 (by decide) ?_
    refine j_iconst (v := 1) hx d_Mo_winter_29 (by decide) ?_
    refine j_iconst (v := 1) hx d_Mo_winter_30 (by decide) ?_
    refine j_callVi hx (c_Mo_bad1 hG (up σ 111 0 0) 1 1 1 (by decide) (by exact up_rd) (by decide) (by decide)) mo_Mo_bad mv_Mo_bad t_1584 (by decide) rfl (by decide) (sh_111 _ _) rfl rfl (Nat.le_of_ble_eq_true rfl) d_Mo_winter_31 ?_
    refine j_if_eq (tgt := 39) hx d_Mo_winter_34 (by decide) (fun zc34 => absurd zc34 (by decide)) (fun _ => ?_)
    refine j_iconst (v := 0) hx d_Mo_winter_37 (by decide) ?_
    exact j_iret hx hq rfl d_Mo_winter_38 (by first | (rfl) | fail) (by first | (rfl) | fail)
  refine j_callSi hx (c_Mo_isWinter0 hG (up σ 111 0 0) n q (by exact hn8)) mo_Mo_isWinter t_1940 t_1939 (by decide) rfl rfl (Nat.le_of_ble_eq_true rfl) d_Mo_winter_8 ?_
  refine j_if_eq (tgt := 24) hx d_Mo_winter_11 (by decide) (fun _ => ?_) (fun zc11 => absurd (by decide) zc11)
  refine j_iconst (v := 1) hx d_Mo_winter_24 (by decide) ?_
  refine j_goto (tgt := 29) hx d_Mo_winter_25 (by decide) ?_
  refine j_iconst (v := 1) hx d_Mo_winter_29 (by decide) ?_
  refine j_iconst (v := 1) hx d_Mo_winter_30 (by decide) ?_
  refine j_callVi hx (c_Mo_bad1 hG (up σ 111 0 0) 1 1 1 (by decide) (by exact up_rd) (by decide) (by decide)) mo_Mo_bad mv_Mo_bad t_1584 (by decide) rfl (by decide) (sh_111 _ _) rfl rfl (Nat.le_of_ble_eq_true rfl) d_Mo_winter_31 ?_
  refine j_if_eq (tgt := 39) hx d_Mo_winter_34 (by decide) (fun zc34 => absurd zc34 (by decide)) (fun _ => ?_)
  refine j_iconst (v := 0) hx d_Mo_winter_37 (by decide) ?_
  exact j_iret hx hq rfl d_Mo_winter_38 (by first | (rfl) | fail) (by first | (rfl) | fail)

set_option maxRecDepth 20000 in
set_option maxHeartbeats 4000000 in
theorem c_Mo_span {l : Launch} {G : Gz} (hG : zI G) (σ : St) (seed : Int32) (many : Int32) (n : Int32) (q : Int32) (w : Int32) (hw : mW (up σ 111 0 0)) (hr : rW (up σ 111 0 0) 122) (hv10 : 1 ≤ many ∧ many ≤ 20) (hv19 : (1 ≤ n ∧ n ≤ 96) ∧ (0 ≤ q ∧ q ≤ 16)) (hv29 : 0 ≤ w ∧ w ≤ 2) : MI l G y_Mo_span prog_14_method_104_code 11 .int 9 [.ref (G.1 111), .int seed, .int many, .int n, .int q, .int w] σ (mspV (up σ 111 0 0) seed (ct many) (ct n) q w) ((mspn (up σ 111 0 0) seed (ct n) q (ct many)).2) := by
  refine MI.of hG (by decide) (Nat.le_of_ble_eq_true rfl) (fun X hx hq => ?_)
  show J l G X 11 σ 0 [(0, .ref (G.1 111)), (1, .int seed), (2, .int many), (3, .int n), (4, .int q), (5, .int w)] []
  refine j_aload_n hx d_Mo_span_0 rfl 0 rfl ?_
  refine j_iconst (v := 0) hx d_Mo_span_1 (by decide) ?_
  refine j_put hx ck_Mo 0 (by decide) t_1418 (by decide) (sh_111 _ _) rfl (Nat.le_of_ble_eq_true rfl) (sh_111 _ _) d_Mo_span_2 ?_
  refine j_aload_n hx d_Mo_span_5 rfl 0 rfl ?_
  refine j_iload_n hx d_Mo_span_6 rfl 2 rfl ?_
  refine j_iconst (v := 1) hx d_Mo_span_7 (by decide) ?_
  refine j_bipush (v := 20) hx d_Mo_span_8 (by decide) ?_
  refine j_callSi hx (c_Mo_in1 hG (up σ 111 0 0) many 1 20 (by exact hv10)) mo_Mo_in t_1582 t_1581 (by decide) rfl rfl (Nat.le_of_ble_eq_true rfl) d_Mo_span_10 ?_
  refine j_if_eq (tgt := 35) hx d_Mo_span_13 (by decide) (fun zc13 => absurd zc13 (by decide)) (fun _ => ?_)
  refine j_iload_n hx d_Mo_span_16 rfl 3 rfl ?_
  refine j_iload hx d_Mo_span_17 4 rfl ?_
  refine j_callSi hx (c_Mo_isWinter1 hG (up σ 111 0 0) n q (by exact hv19)) mo_Mo_isWinter t_1940 t_1939 (by decide) rfl rfl (Nat.le_of_ble_eq_true rfl) d_Mo_span_19 ?_
  refine j_if_eq (tgt := 35) hx d_Mo_span_22 (by decide) (fun zc22 => absurd zc22 (by decide)) (fun _ => ?_)
  refine j_iload hx d_Mo_span_25 5 rfl ?_
  refine j_iconst (v := 0) hx d_Mo_span_27 (by decide) ?_
  refine j_iconst (v := 2) hx d_Mo_span_28 (by decide) ?_
  refine j_callSi hx (c_Mo_in1 hG (up σ 111 0 0) w 0 2 (by exact hv29)) mo_Mo_in t_1582 t_1581 (by decide) rfl rfl (Nat.le_of_ble_eq_true rfl) d_Mo_span_29 ?_
  refine j_if_ne (tgt := 39) hx d_Mo_span_32 (by decide) (fun _ => ?_) (fun zc32 => absurd zc32 (by decide))
  refine j_iconst (v := 0) hx d_Mo_span_39 (by decide) ?_
  refine j_iconst (v := 1) hx d_Mo_span_40 (by decide) ?_
  refine j_iconst (v := 1) hx d_Mo_span_41 (by decide) ?_
  refine j_callVi hx (c_Mo_bad0 hG (up σ 111 0 0) 0 1 1 (by rfl) (by exact up_rd)) mo_Mo_bad mv_Mo_bad t_1584 (by decide) rfl (by decide) (sh_111 _ _) rfl rfl (Nat.le_of_ble_eq_true rfl) d_Mo_span_42 ?_
  refine j_if_eq (tgt := 50) hx d_Mo_span_45 (by decide) (fun _ => ?_) (fun zc45 => absurd (by decide) zc45)
  refine j_iconst (v := (-1)) hx d_Mo_span_50 (by decide) ?_
  refine j_istore hx [(6, .int ((-1))), (0, .ref (G.1 111)), (1, .int seed), (2, .int many), (3, .int n), (4, .int q), (5, .int w)] d_Mo_span_51 (by decide) rfl ?_
  refine j_iconst (v := 0) hx d_Mo_span_53 (by decide) ?_
  refine j_istore hx [(7, .int 0), (6, .int ((-1))), (0, .ref (G.1 111)), (1, .int seed), (2, .int many), (3, .int n), (4, .int q), (5, .int w)] d_Mo_span_54 (by decide) rfl ?_
  refine j_iconst (v := 0) hx d_Mo_span_56 (by decide) ?_
  refine j_istore hx [(8, .int 0), (7, .int 0), (6, .int ((-1))), (0, .ref (G.1 111)), (1, .int seed), (2, .int many), (3, .int n), (4, .int q), (5, .int w)] d_Mo_span_57 (by decide) rfl ?_
  refine j_iconst (v := 0) hx d_Mo_span_59 (by decide) ?_
  refine j_istore hx [(9, .int 0), (8, .int 0), (7, .int 0), (6, .int ((-1))), (0, .ref (G.1 111)), (1, .int seed), (2, .int many), (3, .int n), (4, .int q), (5, .int w)] d_Mo_span_60 (by decide) rfl ?_
  have hl62 : ∀ (N9 : Nat) (i : Nat), (i ≤ (ct many)) → (ct many) - i = N9 → J l G X 11 ((mspn (up σ 111 0 0) seed (ct n) q i).2) 62 [(0, .ref (G.1 111)), (1, .int seed), (2, .int many), (3, .int n), (4, .int q), (5, .int w), (6, .int ((mspn (up σ 111 0 0) seed (ct n) q i).1.1)), (7, .int ((mspn (up σ 111 0 0) seed (ct n) q i).1.2.1)), (8, .int ((mspn (up σ 111 0 0) seed (ct n) q i).1.2.2)), (9, .int (nI i))] [] := by
    intro N9
    induction N9 using Nat.strongRecOn with
    | _ N9 ih62 =>
      intro i hi_i hm62
      have hw9 := mspn_w (seed := seed) (n := ct n) (q := q) (m := i) hw hr
      refine j_iload hx d_Mo_span_62 9 rfl ?_
      refine j_iload_n hx d_Mo_span_64 rfl 2 rfl ?_
      refine j_icmp_ge (tgt := 158) hx d_Mo_span_65 (by decide) (fun zc65 => ?_) (fun zc65 => ?_)
      · skip
        obtain rfl := ct_end' hi_i zc65
        refine j_iload hx d_Mo_span_158 5 rfl ?_
        refine j_if_ne (tgt := 168) hx d_Mo_span_160 (by decide) (fun zc160 => ?_) (fun zc160 => ?_)
        · skip
          refine j_iload hx d_Mo_span_168 5 rfl ?_
          refine j_iconst (v := 1) hx d_Mo_span_170 (by decide) ?_
          refine j_icmp_ne (tgt := 179) hx d_Mo_span_171 (by decide) (fun zc171 => ?_) (fun zc171 => ?_)
          · skip
            refine j_iload hx d_Mo_span_179 8 rfl ?_
            exact j_iret hx hq rfl d_Mo_span_181 (by first | (unfold mspV; first | exact (if_pos zc160).symm | (rw [if_neg zc160]; first | exact (if_pos zc171).symm | exact (if_neg zc171).symm)) | fail) (by first | (rfl) | fail)
          · skip
            refine j_iload hx d_Mo_span_174 7 rfl ?_
            refine j_goto (tgt := 181) hx d_Mo_span_176 (by decide) ?_
            exact j_iret hx hq rfl d_Mo_span_181 (by first | (unfold mspV; first | exact (if_pos zc160).symm | (rw [if_neg zc160]; first | exact (if_pos zc171).symm | exact (if_neg zc171).symm)) | fail) (by first | (rfl) | fail)
        · skip
          refine j_iload hx d_Mo_span_163 6 rfl ?_
          refine j_goto (tgt := 181) hx d_Mo_span_165 (by decide) ?_
          exact j_iret hx hq rfl d_Mo_span_181 (by first | (unfold mspV; first | exact (if_pos zc160).symm | (rw [if_neg zc160]; first | exact (if_pos zc171).symm | exact (if_neg zc171).symm)) | fail) (by first | (rfl) | fail)
      · skip
        have hlt62 := ct_go hi_i zc65
        refine j_aload_n hx d_Mo_span_68 rfl 0 rfl ?_
        refine j_iload_n hx d_Mo_span_69 rfl 1 rfl ?_
        refine j_iload hx d_Mo_span_70 9 rfl ?_
        refine j_iadd hx d_Mo_span_72 ?_
        refine j_iload_n hx d_Mo_span_73 rfl 3 rfl ?_
        refine j_iload hx d_Mo_span_74 4 rfl ?_
        refine j_callVv hx (c_Mo_winterBy hG ((mspn (up σ 111 0 0) seed (ct n) q i).2) (seed + (nI i)) n q (by exact hw9.1) (by exact hw9.2)) mo_Mo_winterBy mv_Mo_winterBy t_1942 (by decide) rfl (by decide) (sh_111 _ _) rfl rfl (Nat.le_of_ble_eq_true rfl) d_Mo_span_76 ?_
        refine j_aload_n hx d_Mo_span_79 rfl 0 rfl ?_
        refine j_get hx ck_Mo 34 (by decide) t_1452 (by decide) (sh_111 _ _) rfl d_Mo_span_80 ?_
        refine j_bipush (v := 24) hx d_Mo_span_83 (by decide) ?_
        have hz85_1 : zin (24) 31 24 := by first | exact ⟨rfl, by decide⟩ | exact zin_nI (by omega) (by first | decide | omega) | exact zin_of (by omega) (by omega)
        refine j_ialdk hx ia_123 hz85_1 d_Mo_span_85 ?_
        refine j_aload_n hx d_Mo_span_86 rfl 0 rfl ?_
        refine j_get hx ck_Mo 33 (by decide) t_1451 (by decide) (sh_111 _ _) rfl d_Mo_span_87 ?_
        refine j_bipush (v := 24) hx d_Mo_span_90 (by decide) ?_
        have hz92_2 : zin (24) 31 24 := by first | exact ⟨rfl, by decide⟩ | exact zin_nI (by omega) (by first | decide | omega) | exact zin_of (by omega) (by omega)
        refine j_ialdk hx ia_122 hz92_2 d_Mo_span_92 ?_
        refine j_isub hx d_Mo_span_93 ?_
        refine j_istore hx [(10, .int (((mwn ((mspn (up σ 111 0 0) seed (ct n) q i).2) (seed + (nI i)) (ct n) q) 123 24) - ((mwn ((mspn (up σ 111 0 0) seed (ct n) q i).2) (seed + (nI i)) (ct n) q) 122 24))), (0, .ref (G.1 111)), (1, .int seed), (2, .int many), (3, .int n), (4, .int q), (5, .int w), (6, .int ((mspn (up σ 111 0 0) seed (ct n) q i).1.1)), (7, .int ((mspn (up σ 111 0 0) seed (ct n) q i).1.2.1)), (8, .int ((mspn (up σ 111 0 0) seed (ct n) q i).1.2.2)), (9, .int (nI i))] d_Mo_span_94 (by decide) rfl ?_
        refine j_iload hx d_Mo_span_96 7 rfl ?_
        refine j_iconst (v := (-1)) hx d_Mo_span_98 (by decide) ?_
        refine j_icmp_ne (tgt := 107) hx d_Mo_span_99 (by decide) (fun zc99 => ?_) (fun zc99 => ?_)
        · skip
          refine j_iload hx d_Mo_span_107 7 rfl ?_
          refine j_iload hx d_Mo_span_109 0 rfl ?_
          refine j_callSi hx (c_Mo_less hG (mwn ((mspn (up σ 111 0 0) seed (ct n) q i).2) (seed + (nI i)) (ct n) q) ((mspn (up σ 111 0 0) seed (ct n) q i).1.1) (((mwn ((mspn (up σ 111 0 0) seed (ct n) q i).2) (seed + (nI i)) (ct n) q) 123 24) - ((mwn ((mspn (up σ 111 0 0) seed (ct n) q i).2) (seed + (nI i)) (ct n) q) 122 24))) mo_Mo_less t_1750 t_1749 (by decide) rfl rfl (Nat.le_of_ble_eq_true rfl) d_Mo_span_111 ?_
          refine j_istore hx [(6, .int (if ((mspn (up σ 111 0 0) seed (ct n) q i).1.1) < (((mwn ((mspn (up σ 111 0 0) seed (ct n) q i).2) (seed + (nI i)) (ct n) q) 123 24) - ((mwn ((mspn (up σ 111 0 0) seed (ct n) q i).2) (seed + (nI i)) (ct n) q) 122 24)) then ((mspn (up σ 111 0 0) seed (ct n) q i).1.1) else (((mwn ((mspn (up σ 111 0 0) seed (ct n) q i).2) (seed + (nI i)) (ct n) q) 123 24) - ((mwn ((mspn (up σ 111 0 0) seed (ct n) q i).2) (seed + (nI i)) (ct n) q) 122 24)))), (10, .int (((mwn ((mspn (up σ 111 0 0) seed (ct n) q i).2) (seed + (nI i)) (ct n) q) 123 24) - ((mwn ((mspn (up σ 111 0 0) seed (ct n) q i).2) (seed + (nI i)) (ct n) q) 122 24))), (0, .ref (G.1 111)), (1, .int seed), (2, .int many), (3, .int n), (4, .int q), (5, .int w), (7, .int ((mspn (up σ 111 0 0) seed (ct n) q i).1.2.1)), (8, .int ((mspn (up σ 111 0 0) seed (ct n) q i).1.2.2)), (9, .int (nI i))] d_Mo_span_114 (by decide) rfl ?_
          refine j_iload hx d_Mo_span_116 8 rfl ?_
          refine j_iload hx d_Mo_span_118 1 rfl ?_
          refine j_callSi hx (c_Mo_more hG (mwn ((mspn (up σ 111 0 0) seed (ct n) q i).2) (seed + (nI i)) (ct n) q) ((mspn (up σ 111 0 0) seed (ct n) q i).1.2.1) (((mwn ((mspn (up σ 111 0 0) seed (ct n) q i).2) (seed + (nI i)) (ct n) q) 123 24) - ((mwn ((mspn (up σ 111 0 0) seed (ct n) q i).2) (seed + (nI i)) (ct n) q) 122 24))) mo_Mo_more t_1764 t_1763 (by decide) rfl rfl (Nat.le_of_ble_eq_true rfl) d_Mo_span_120 ?_
          refine j_istore hx [(7, .int (if (((mwn ((mspn (up σ 111 0 0) seed (ct n) q i).2) (seed + (nI i)) (ct n) q) 123 24) - ((mwn ((mspn (up σ 111 0 0) seed (ct n) q i).2) (seed + (nI i)) (ct n) q) 122 24)) < ((mspn (up σ 111 0 0) seed (ct n) q i).1.2.1) then ((mspn (up σ 111 0 0) seed (ct n) q i).1.2.1) else (((mwn ((mspn (up σ 111 0 0) seed (ct n) q i).2) (seed + (nI i)) (ct n) q) 123 24) - ((mwn ((mspn (up σ 111 0 0) seed (ct n) q i).2) (seed + (nI i)) (ct n) q) 122 24)))), (6, .int (if ((mspn (up σ 111 0 0) seed (ct n) q i).1.1) < (((mwn ((mspn (up σ 111 0 0) seed (ct n) q i).2) (seed + (nI i)) (ct n) q) 123 24) - ((mwn ((mspn (up σ 111 0 0) seed (ct n) q i).2) (seed + (nI i)) (ct n) q) 122 24)) then ((mspn (up σ 111 0 0) seed (ct n) q i).1.1) else (((mwn ((mspn (up σ 111 0 0) seed (ct n) q i).2) (seed + (nI i)) (ct n) q) 123 24) - ((mwn ((mspn (up σ 111 0 0) seed (ct n) q i).2) (seed + (nI i)) (ct n) q) 122 24)))), (10, .int (((mwn ((mspn (up σ 111 0 0) seed (ct n) q i).2) (seed + (nI i)) (ct n) q) 123 24) - ((mwn ((mspn (up σ 111 0 0) seed (ct n) q i).2) (seed + (nI i)) (ct n) q) 122 24))), (0, .ref (G.1 111)), (1, .int seed), (2, .int many), (3, .int n), (4, .int q), (5, .int w), (8, .int ((mspn (up σ 111 0 0) seed (ct n) q i).1.2.2)), (9, .int (nI i))] d_Mo_span_123 (by decide) rfl ?_
          refine j_iload hx d_Mo_span_125 9 rfl ?_
          refine j_aload_n hx d_Mo_span_127 rfl 3 rfl ?_
          refine j_get hx ck_Mo 34 (by decide) t_1452 (by decide) (sh_111 _ _) rfl d_Mo_span_128 ?_
          refine j_bipush (v := 23) hx d_Mo_span_131 (by decide) ?_
          have hz133_3 : zin (23) 31 23 := by first | exact ⟨rfl, by decide⟩ | exact zin_nI (by omega) (by first | decide | omega) | exact zin_of (by omega) (by omega)
          refine j_ialdk hx ia_123 hz133_3 d_Mo_span_133 ?_
          refine j_aload_n hx d_Mo_span_134 rfl 3 rfl ?_
          refine j_get hx ck_Mo 33 (by decide) t_1451 (by decide) (sh_111 _ _) rfl d_Mo_span_135 ?_
          refine j_bipush (v := 23) hx d_Mo_span_138 (by decide) ?_
          have hz140_4 : zin (23) 31 23 := by first | exact ⟨rfl, by decide⟩ | exact zin_nI (by omega) (by first | decide | omega) | exact zin_of (by omega) (by omega)
          refine j_ialdk hx ia_122 hz140_4 d_Mo_span_140 ?_
          refine j_icmp_ne (tgt := 148) hx d_Mo_span_141 (by decide) (fun zc141 => ?_) (fun zc141 => ?_)
          · skip
            refine j_iconst (v := 0) hx d_Mo_span_148 (by decide) ?_
            refine j_iadd hx d_Mo_span_149 ?_
            refine j_istore hx [(8, .int (((mspn (up σ 111 0 0) seed (ct n) q i).1.2.2) + 0)), (7, .int (if (((mwn ((mspn (up σ 111 0 0) seed (ct n) q i).2) (seed + (nI i)) (ct n) q) 123 24) - ((mwn ((mspn (up σ 111 0 0) seed (ct n) q i).2) (seed + (nI i)) (ct n) q) 122 24)) < ((mspn (up σ 111 0 0) seed (ct n) q i).1.2.1) then ((mspn (up σ 111 0 0) seed (ct n) q i).1.2.1) else (((mwn ((mspn (up σ 111 0 0) seed (ct n) q i).2) (seed + (nI i)) (ct n) q) 123 24) - ((mwn ((mspn (up σ 111 0 0) seed (ct n) q i).2) (seed + (nI i)) (ct n) q) 122 24)))), (6, .int (if ((mspn (up σ 111 0 0) seed (ct n) q i).1.1) < (((mwn ((mspn (up σ 111 0 0) seed (ct n) q i).2) (seed + (nI i)) (ct n) q) 123 24) - ((mwn ((mspn (up σ 111 0 0) seed (ct n) q i).2) (seed + (nI i)) (ct n) q) 122 24)) then ((mspn (up σ 111 0 0) seed (ct n) q i).1.1) else (((mwn ((mspn (up σ 111 0 0) seed (ct n) q i).2) (seed + (nI i)) (ct n) q) 123 24) - ((mwn ((mspn (up σ 111 0 0) seed (ct n) q i).2) (seed + (nI i)) (ct n) q) 122 24)))), (10, .int (((mwn ((mspn (up σ 111 0 0) seed (ct n) q i).2) (seed + (nI i)) (ct n) q) 123 24) - ((mwn ((mspn (up σ 111 0 0) seed (ct n) q i).2) (seed + (nI i)) (ct n) q) 122 24))), (0, .ref (G.1 111)), (1, .int seed), (2, .int many), (3, .int n), (4, .int q), (5, .int w), (9, .int (nI i))] d_Mo_span_150 (by decide) rfl ?_
            refine j_iinc hx [(9, .int ((nI i) + 1)), (8, .int (((mspn (up σ 111 0 0) seed (ct n) q i).1.2.2) + 0)), (7, .int (if (((mwn ((mspn (up σ 111 0 0) seed (ct n) q i).2) (seed + (nI i)) (ct n) q) 123 24) - ((mwn ((mspn (up σ 111 0 0) seed (ct n) q i).2) (seed + (nI i)) (ct n) q) 122 24)) < ((mspn (up σ 111 0 0) seed (ct n) q i).1.2.1) then ((mspn (up σ 111 0 0) seed (ct n) q i).1.2.1) else (((mwn ((mspn (up σ 111 0 0) seed (ct n) q i).2) (seed + (nI i)) (ct n) q) 123 24) - ((mwn ((mspn (up σ 111 0 0) seed (ct n) q i).2) (seed + (nI i)) (ct n) q) 122 24)))), (6, .int (if ((mspn (up σ 111 0 0) seed (ct n) q i).1.1) < (((mwn ((mspn (up σ 111 0 0) seed (ct n) q i).2) (seed + (nI i)) (ct n) q) 123 24) - ((mwn ((mspn (up σ 111 0 0) seed (ct n) q i).2) (seed + (nI i)) (ct n) q) 122 24)) then ((mspn (up σ 111 0 0) seed (ct n) q i).1.1) else (((mwn ((mspn (up σ 111 0 0) seed (ct n) q i).2) (seed + (nI i)) (ct n) q) 123 24) - ((mwn ((mspn (up σ 111 0 0) seed (ct n) q i).2) (seed + (nI i)) (ct n) q) 122 24)))), (10, .int (((mwn ((mspn (up σ 111 0 0) seed (ct n) q i).2) (seed + (nI i)) (ct n) q) 123 24) - ((mwn ((mspn (up σ 111 0 0) seed (ct n) q i).2) (seed + (nI i)) (ct n) q) 122 24))), (0, .ref (G.1 111)), (1, .int seed), (2, .int many), (3, .int n), (4, .int q), (5, .int w)] d_Mo_span_152 10 rfl rfl (by decide) rfl ?_
            refine j_goto (tgt := 62) hx d_Mo_span_155 (by decide) ?_
            refine J.lsub (ls' := [(0, .ref (G.1 111)), (1, .int seed), (2, .int many), (3, .int n), (4, .int q), (5, .int w), (6, .int (if ((mspn (up σ 111 0 0) seed (ct n) q i).1.1) < (((mwn ((mspn (up σ 111 0 0) seed (ct n) q i).2) (seed + (nI i)) (ct n) q) 123 24) - ((mwn ((mspn (up σ 111 0 0) seed (ct n) q i).2) (seed + (nI i)) (ct n) q) 122 24)) then ((mspn (up σ 111 0 0) seed (ct n) q i).1.1) else (((mwn ((mspn (up σ 111 0 0) seed (ct n) q i).2) (seed + (nI i)) (ct n) q) 123 24) - ((mwn ((mspn (up σ 111 0 0) seed (ct n) q i).2) (seed + (nI i)) (ct n) q) 122 24)))), (7, .int (if (((mwn ((mspn (up σ 111 0 0) seed (ct n) q i).2) (seed + (nI i)) (ct n) q) 123 24) - ((mwn ((mspn (up σ 111 0 0) seed (ct n) q i).2) (seed + (nI i)) (ct n) q) 122 24)) < ((mspn (up σ 111 0 0) seed (ct n) q i).1.2.1) then ((mspn (up σ 111 0 0) seed (ct n) q i).1.2.1) else (((mwn ((mspn (up σ 111 0 0) seed (ct n) q i).2) (seed + (nI i)) (ct n) q) 123 24) - ((mwn ((mspn (up σ 111 0 0) seed (ct n) q i).2) (seed + (nI i)) (ct n) q) 122 24)))), (8, .int (((mspn (up σ 111 0 0) seed (ct n) q i).1.2.2) + 0)), (9, .int ((nI i) + 1))]) [5, 6, 7, 8, 9, 10, 3, 2, 1, 0] rfl ?_
            refine J.to ?_ ?_ (ih62 _ ?_ (i + 1) hlt62 rfl)
            · first | (rfl) | fail
            · first | (simp only [nI_s]; first | (rw [mspn_a zc99, mspn_c, mspn_d zc141]; done) | (rw [mspn_a zc99, mspn_c, mspn_e zc141]; done) | (rw [mspn_b zc99, mspn_c, mspn_d zc141]; done) | (rw [mspn_b zc99, mspn_c, mspn_e zc141]; done)) | fail
            · first | (omega) | fail
          · skip
            refine j_iconst (v := 1) hx d_Mo_span_144 (by decide) ?_
            refine j_goto (tgt := 149) hx d_Mo_span_145 (by decide) ?_
            refine j_iadd hx d_Mo_span_149 ?_
            refine j_istore hx [(8, .int (((mspn (up σ 111 0 0) seed (ct n) q i).1.2.2) + 1)), (7, .int (if (((mwn ((mspn (up σ 111 0 0) seed (ct n) q i).2) (seed + (nI i)) (ct n) q) 123 24) - ((mwn ((mspn (up σ 111 0 0) seed (ct n) q i).2) (seed + (nI i)) (ct n) q) 122 24)) < ((mspn (up σ 111 0 0) seed (ct n) q i).1.2.1) then ((mspn (up σ 111 0 0) seed (ct n) q i).1.2.1) else (((mwn ((mspn (up σ 111 0 0) seed (ct n) q i).2) (seed + (nI i)) (ct n) q) 123 24) - ((mwn ((mspn (up σ 111 0 0) seed (ct n) q i).2) (seed + (nI i)) (ct n) q) 122 24)))), (6, .int (if ((mspn (up σ 111 0 0) seed (ct n) q i).1.1) < (((mwn ((mspn (up σ 111 0 0) seed (ct n) q i).2) (seed + (nI i)) (ct n) q) 123 24) - ((mwn ((mspn (up σ 111 0 0) seed (ct n) q i).2) (seed + (nI i)) (ct n) q) 122 24)) then ((mspn (up σ 111 0 0) seed (ct n) q i).1.1) else (((mwn ((mspn (up σ 111 0 0) seed (ct n) q i).2) (seed + (nI i)) (ct n) q) 123 24) - ((mwn ((mspn (up σ 111 0 0) seed (ct n) q i).2) (seed + (nI i)) (ct n) q) 122 24)))), (10, .int (((mwn ((mspn (up σ 111 0 0) seed (ct n) q i).2) (seed + (nI i)) (ct n) q) 123 24) - ((mwn ((mspn (up σ 111 0 0) seed (ct n) q i).2) (seed + (nI i)) (ct n) q) 122 24))), (0, .ref (G.1 111)), (1, .int seed), (2, .int many), (3, .int n), (4, .int q), (5, .int w), (9, .int (nI i))] d_Mo_span_150 (by decide) rfl ?_
            refine j_iinc hx [(9, .int ((nI i) + 1)), (8, .int (((mspn (up σ 111 0 0) seed (ct n) q i).1.2.2) + 1)), (7, .int (if (((mwn ((mspn (up σ 111 0 0) seed (ct n) q i).2) (seed + (nI i)) (ct n) q) 123 24) - ((mwn ((mspn (up σ 111 0 0) seed (ct n) q i).2) (seed + (nI i)) (ct n) q) 122 24)) < ((mspn (up σ 111 0 0) seed (ct n) q i).1.2.1) then ((mspn (up σ 111 0 0) seed (ct n) q i).1.2.1) else (((mwn ((mspn (up σ 111 0 0) seed (ct n) q i).2) (seed + (nI i)) (ct n) q) 123 24) - ((mwn ((mspn (up σ 111 0 0) seed (ct n) q i).2) (seed + (nI i)) (ct n) q) 122 24)))), (6, .int (if ((mspn (up σ 111 0 0) seed (ct n) q i).1.1) < (((mwn ((mspn (up σ 111 0 0) seed (ct n) q i).2) (seed + (nI i)) (ct n) q) 123 24) - ((mwn ((mspn (up σ 111 0 0) seed (ct n) q i).2) (seed + (nI i)) (ct n) q) 122 24)) then ((mspn (up σ 111 0 0) seed (ct n) q i).1.1) else (((mwn ((mspn (up σ 111 0 0) seed (ct n) q i).2) (seed + (nI i)) (ct n) q) 123 24) - ((mwn ((mspn (up σ 111 0 0) seed (ct n) q i).2) (seed + (nI i)) (ct n) q) 122 24)))), (10, .int (((mwn ((mspn (up σ 111 0 0) seed (ct n) q i).2) (seed + (nI i)) (ct n) q) 123 24) - ((mwn ((mspn (up σ 111 0 0) seed (ct n) q i).2) (seed + (nI i)) (ct n) q) 122 24))), (0, .ref (G.1 111)), (1, .int seed), (2, .int many), (3, .int n), (4, .int q), (5, .int w)] d_Mo_span_152 10 rfl rfl (by decide) rfl ?_
            refine j_goto (tgt := 62) hx d_Mo_span_155 (by decide) ?_
            refine J.lsub (ls' := [(0, .ref (G.1 111)), (1, .int seed), (2, .int many), (3, .int n), (4, .int q), (5, .int w), (6, .int (if ((mspn (up σ 111 0 0) seed (ct n) q i).1.1) < (((mwn ((mspn (up σ 111 0 0) seed (ct n) q i).2) (seed + (nI i)) (ct n) q) 123 24) - ((mwn ((mspn (up σ 111 0 0) seed (ct n) q i).2) (seed + (nI i)) (ct n) q) 122 24)) then ((mspn (up σ 111 0 0) seed (ct n) q i).1.1) else (((mwn ((mspn (up σ 111 0 0) seed (ct n) q i).2) (seed + (nI i)) (ct n) q) 123 24) - ((mwn ((mspn (up σ 111 0 0) seed (ct n) q i).2) (seed + (nI i)) (ct n) q) 122 24)))), (7, .int (if (((mwn ((mspn (up σ 111 0 0) seed (ct n) q i).2) (seed + (nI i)) (ct n) q) 123 24) - ((mwn ((mspn (up σ 111 0 0) seed (ct n) q i).2) (seed + (nI i)) (ct n) q) 122 24)) < ((mspn (up σ 111 0 0) seed (ct n) q i).1.2.1) then ((mspn (up σ 111 0 0) seed (ct n) q i).1.2.1) else (((mwn ((mspn (up σ 111 0 0) seed (ct n) q i).2) (seed + (nI i)) (ct n) q) 123 24) - ((mwn ((mspn (up σ 111 0 0) seed (ct n) q i).2) (seed + (nI i)) (ct n) q) 122 24)))), (8, .int (((mspn (up σ 111 0 0) seed (ct n) q i).1.2.2) + 1)), (9, .int ((nI i) + 1))]) [5, 6, 7, 8, 9, 10, 3, 2, 1, 0] rfl ?_
            refine J.to ?_ ?_ (ih62 _ ?_ (i + 1) hlt62 rfl)
            · first | (rfl) | fail
            · first | (simp only [nI_s]; first | (rw [mspn_a zc99, mspn_c, mspn_d zc141]; done) | (rw [mspn_a zc99, mspn_c, mspn_e zc141]; done) | (rw [mspn_b zc99, mspn_c, mspn_d zc141]; done) | (rw [mspn_b zc99, mspn_c, mspn_e zc141]; done)) | fail
            · first | (omega) | fail
        · skip
          refine j_iload hx d_Mo_span_102 0 rfl ?_
          refine j_goto (tgt := 114) hx d_Mo_span_104 (by decide) ?_
          refine j_istore hx [(6, .int (((mwn ((mspn (up σ 111 0 0) seed (ct n) q i).2) (seed + (nI i)) (ct n) q) 123 24) - ((mwn ((mspn (up σ 111 0 0) seed (ct n) q i).2) (seed + (nI i)) (ct n) q) 122 24))), (10, .int (((mwn ((mspn (up σ 111 0 0) seed (ct n) q i).2) (seed + (nI i)) (ct n) q) 123 24) - ((mwn ((mspn (up σ 111 0 0) seed (ct n) q i).2) (seed + (nI i)) (ct n) q) 122 24))), (0, .ref (G.1 111)), (1, .int seed), (2, .int many), (3, .int n), (4, .int q), (5, .int w), (7, .int ((mspn (up σ 111 0 0) seed (ct n) q i).1.2.1)), (8, .int ((mspn (up σ 111 0 0) seed (ct n) q i).1.2.2)), (9, .int (nI i))] d_Mo_span_114 (by decide) rfl ?_
          refine j_iload hx d_Mo_span_116 8 rfl ?_
          refine j_iload hx d_Mo_span_118 1 rfl ?_
          refine j_callSi hx (c_Mo_more hG (mwn ((mspn (up σ 111 0 0) seed (ct n) q i).2) (seed + (nI i)) (ct n) q) ((mspn (up σ 111 0 0) seed (ct n) q i).1.2.1) (((mwn ((mspn (up σ 111 0 0) seed (ct n) q i).2) (seed + (nI i)) (ct n) q) 123 24) - ((mwn ((mspn (up σ 111 0 0) seed (ct n) q i).2) (seed + (nI i)) (ct n) q) 122 24))) mo_Mo_more t_1764 t_1763 (by decide) rfl rfl (Nat.le_of_ble_eq_true rfl) d_Mo_span_120 ?_
          refine j_istore hx [(7, .int (if (((mwn ((mspn (up σ 111 0 0) seed (ct n) q i).2) (seed + (nI i)) (ct n) q) 123 24) - ((mwn ((mspn (up σ 111 0 0) seed (ct n) q i).2) (seed + (nI i)) (ct n) q) 122 24)) < ((mspn (up σ 111 0 0) seed (ct n) q i).1.2.1) then ((mspn (up σ 111 0 0) seed (ct n) q i).1.2.1) else (((mwn ((mspn (up σ 111 0 0) seed (ct n) q i).2) (seed + (nI i)) (ct n) q) 123 24) - ((mwn ((mspn (up σ 111 0 0) seed (ct n) q i).2) (seed + (nI i)) (ct n) q) 122 24)))), (6, .int (((mwn ((mspn (up σ 111 0 0) seed (ct n) q i).2) (seed + (nI i)) (ct n) q) 123 24) - ((mwn ((mspn (up σ 111 0 0) seed (ct n) q i).2) (seed + (nI i)) (ct n) q) 122 24))), (10, .int (((mwn ((mspn (up σ 111 0 0) seed (ct n) q i).2) (seed + (nI i)) (ct n) q) 123 24) - ((mwn ((mspn (up σ 111 0 0) seed (ct n) q i).2) (seed + (nI i)) (ct n) q) 122 24))), (0, .ref (G.1 111)), (1, .int seed), (2, .int many), (3, .int n), (4, .int q), (5, .int w), (8, .int ((mspn (up σ 111 0 0) seed (ct n) q i).1.2.2)), (9, .int (nI i))] d_Mo_span_123 (by decide) rfl ?_
          refine j_iload hx d_Mo_span_125 9 rfl ?_
          refine j_aload_n hx d_Mo_span_127 rfl 3 rfl ?_
          refine j_get hx ck_Mo 34 (by decide) t_1452 (by decide) (sh_111 _ _) rfl d_Mo_span_128 ?_
          refine j_bipush (v := 23) hx d_Mo_span_131 (by decide) ?_
          have hz133_5 : zin (23) 31 23 := by first | exact ⟨rfl, by decide⟩ | exact zin_nI (by omega) (by first | decide | omega) | exact zin_of (by omega) (by omega)
          refine j_ialdk hx ia_123 hz133_5 d_Mo_span_133 ?_
          refine j_aload_n hx d_Mo_span_134 rfl 3 rfl ?_
          refine j_get hx ck_Mo 33 (by decide) t_1451 (by decide) (sh_111 _ _) rfl d_Mo_span_135 ?_
          refine j_bipush (v := 23) hx d_Mo_span_138 (by decide) ?_
          have hz140_6 : zin (23) 31 23 := by first | exact ⟨rfl, by decide⟩ | exact zin_nI (by omega) (by first | decide | omega) | exact zin_of (by omega) (by omega)
          refine j_ialdk hx ia_122 hz140_6 d_Mo_span_140 ?_
          refine j_icmp_ne (tgt := 148) hx d_Mo_span_141 (by decide) (fun zc141 => ?_) (fun zc141 => ?_)
          · skip
            refine j_iconst (v := 0) hx d_Mo_span_148 (by decide) ?_
            refine j_iadd hx d_Mo_span_149 ?_
            refine j_istore hx [(8, .int (((mspn (up σ 111 0 0) seed (ct n) q i).1.2.2) + 0)), (7, .int (if (((mwn ((mspn (up σ 111 0 0) seed (ct n) q i).2) (seed + (nI i)) (ct n) q) 123 24) - ((mwn ((mspn (up σ 111 0 0) seed (ct n) q i).2) (seed + (nI i)) (ct n) q) 122 24)) < ((mspn (up σ 111 0 0) seed (ct n) q i).1.2.1) then ((mspn (up σ 111 0 0) seed (ct n) q i).1.2.1) else (((mwn ((mspn (up σ 111 0 0) seed (ct n) q i).2) (seed + (nI i)) (ct n) q) 123 24) - ((mwn ((mspn (up σ 111 0 0) seed (ct n) q i).2) (seed + (nI i)) (ct n) q) 122 24)))), (6, .int (((mwn ((mspn (up σ 111 0 0) seed (ct n) q i).2) (seed + (nI i)) (ct n) q) 123 24) - ((mwn ((mspn (up σ 111 0 0) seed (ct n) q i).2) (seed + (nI i)) (ct n) q) 122 24))), (10, .int (((mwn ((mspn (up σ 111 0 0) seed (ct n) q i).2) (seed + (nI i)) (ct n) q) 123 24) - ((mwn ((mspn (up σ 111 0 0) seed (ct n) q i).2) (seed + (nI i)) (ct n) q) 122 24))), (0, .ref (G.1 111)), (1, .int seed), (2, .int many), (3, .int n), (4, .int q), (5, .int w), (9, .int (nI i))] d_Mo_span_150 (by decide) rfl ?_
            refine j_iinc hx [(9, .int ((nI i) + 1)), (8, .int (((mspn (up σ 111 0 0) seed (ct n) q i).1.2.2) + 0)), (7, .int (if (((mwn ((mspn (up σ 111 0 0) seed (ct n) q i).2) (seed + (nI i)) (ct n) q) 123 24) - ((mwn ((mspn (up σ 111 0 0) seed (ct n) q i).2) (seed + (nI i)) (ct n) q) 122 24)) < ((mspn (up σ 111 0 0) seed (ct n) q i).1.2.1) then ((mspn (up σ 111 0 0) seed (ct n) q i).1.2.1) else (((mwn ((mspn (up σ 111 0 0) seed (ct n) q i).2) (seed + (nI i)) (ct n) q) 123 24) - ((mwn ((mspn (up σ 111 0 0) seed (ct n) q i).2) (seed + (nI i)) (ct n) q) 122 24)))), (6, .int (((mwn ((mspn (up σ 111 0 0) seed (ct n) q i).2) (seed + (nI i)) (ct n) q) 123 24) - ((mwn ((mspn (up σ 111 0 0) seed (ct n) q i).2) (seed + (nI i)) (ct n) q) 122 24))), (10, .int (((mwn ((mspn (up σ 111 0 0) seed (ct n) q i).2) (seed + (nI i)) (ct n) q) 123 24) - ((mwn ((mspn (up σ 111 0 0) seed (ct n) q i).2) (seed + (nI i)) (ct n) q) 122 24))), (0, .ref (G.1 111)), (1, .int seed), (2, .int many), (3, .int n), (4, .int q), (5, .int w)] d_Mo_span_152 10 rfl rfl (by decide) rfl ?_
            refine j_goto (tgt := 62) hx d_Mo_span_155 (by decide) ?_
            refine J.lsub (ls' := [(0, .ref (G.1 111)), (1, .int seed), (2, .int many), (3, .int n), (4, .int q), (5, .int w), (6, .int (((mwn ((mspn (up σ 111 0 0) seed (ct n) q i).2) (seed + (nI i)) (ct n) q) 123 24) - ((mwn ((mspn (up σ 111 0 0) seed (ct n) q i).2) (seed + (nI i)) (ct n) q) 122 24))), (7, .int (if (((mwn ((mspn (up σ 111 0 0) seed (ct n) q i).2) (seed + (nI i)) (ct n) q) 123 24) - ((mwn ((mspn (up σ 111 0 0) seed (ct n) q i).2) (seed + (nI i)) (ct n) q) 122 24)) < ((mspn (up σ 111 0 0) seed (ct n) q i).1.2.1) then ((mspn (up σ 111 0 0) seed (ct n) q i).1.2.1) else (((mwn ((mspn (up σ 111 0 0) seed (ct n) q i).2) (seed + (nI i)) (ct n) q) 123 24) - ((mwn ((mspn (up σ 111 0 0) seed (ct n) q i).2) (seed + (nI i)) (ct n) q) 122 24)))), (8, .int (((mspn (up σ 111 0 0) seed (ct n) q i).1.2.2) + 0)), (9, .int ((nI i) + 1))]) [5, 6, 7, 8, 9, 10, 3, 2, 1, 0] rfl ?_
            refine J.to ?_ ?_ (ih62 _ ?_ (i + 1) hlt62 rfl)
            · first | (rfl) | fail
            · first | (simp only [nI_s]; first | (rw [mspn_a zc99, mspn_c, mspn_d zc141]; done) | (rw [mspn_a zc99, mspn_c, mspn_e zc141]; done) | (rw [mspn_b zc99, mspn_c, mspn_d zc141]; done) | (rw [mspn_b zc99, mspn_c, mspn_e zc141]; done)) | fail
            · first | (omega) | fail
          · skip
            refine j_iconst (v := 1) hx d_Mo_span_144 (by decide) ?_
            refine j_goto (tgt := 149) hx d_Mo_span_145 (by decide) ?_
            refine j_iadd hx d_Mo_span_149 ?_
            refine j_istore hx [(8, .int (((mspn (up σ 111 0 0) seed (ct n) q i).1.2.2) + 1)), (7, .int (if (((mwn ((mspn (up σ 111 0 0) seed (ct n) q i).2) (seed + (nI i)) (ct n) q) 123 24) - ((mwn ((mspn (up σ 111 0 0) seed (ct n) q i).2) (seed + (nI i)) (ct n) q) 122 24)) < ((mspn (up σ 111 0 0) seed (ct n) q i).1.2.1) then ((mspn (up σ 111 0 0) seed (ct n) q i).1.2.1) else (((mwn ((mspn (up σ 111 0 0) seed (ct n) q i).2) (seed + (nI i)) (ct n) q) 123 24) - ((mwn ((mspn (up σ 111 0 0) seed (ct n) q i).2) (seed + (nI i)) (ct n) q) 122 24)))), (6, .int (((mwn ((mspn (up σ 111 0 0) seed (ct n) q i).2) (seed + (nI i)) (ct n) q) 123 24) - ((mwn ((mspn (up σ 111 0 0) seed (ct n) q i).2) (seed + (nI i)) (ct n) q) 122 24))), (10, .int (((mwn ((mspn (up σ 111 0 0) seed (ct n) q i).2) (seed + (nI i)) (ct n) q) 123 24) - ((mwn ((mspn (up σ 111 0 0) seed (ct n) q i).2) (seed + (nI i)) (ct n) q) 122 24))), (0, .ref (G.1 111)), (1, .int seed), (2, .int many), (3, .int n), (4, .int q), (5, .int w), (9, .int (nI i))] d_Mo_span_150 (by decide) rfl ?_
            refine j_iinc hx [(9, .int ((nI i) + 1)), (8, .int (((mspn (up σ 111 0 0) seed (ct n) q i).1.2.2) + 1)), (7, .int (if (((mwn ((mspn (up σ 111 0 0) seed (ct n) q i).2) (seed + (nI i)) (ct n) q) 123 24) - ((mwn ((mspn (up σ 111 0 0) seed (ct n) q i).2) (seed + (nI i)) (ct n) q) 122 24)) < ((mspn (up σ 111 0 0) seed (ct n) q i).1.2.1) then ((mspn (up σ 111 0 0) seed (ct n) q i).1.2.1) else (((mwn ((mspn (up σ 111 0 0) seed (ct n) q i).2) (seed + (nI i)) (ct n) q) 123 24) - ((mwn ((mspn (up σ 111 0 0) seed (ct n) q i).2) (seed + (nI i)) (ct n) q) 122 24)))), (6, .int (((mwn ((mspn (up σ 111 0 0) seed (ct n) q i).2) (seed + (nI i)) (ct n) q) 123 24) - ((mwn ((mspn (up σ 111 0 0) seed (ct n) q i).2) (seed + (nI i)) (ct n) q) 122 24))), (10, .int (((mwn ((mspn (up σ 111 0 0) seed (ct n) q i).2) (seed + (nI i)) (ct n) q) 123 24) - ((mwn ((mspn (up σ 111 0 0) seed (ct n) q i).2) (seed + (nI i)) (ct n) q) 122 24))), (0, .ref (G.1 111)), (1, .int seed), (2, .int many), (3, .int n), (4, .int q), (5, .int w)] d_Mo_span_152 10 rfl rfl (by decide) rfl ?_
            refine j_goto (tgt := 62) hx d_Mo_span_155 (by decide) ?_
            refine J.lsub (ls' := [(0, .ref (G.1 111)), (1, .int seed), (2, .int many), (3, .int n), (4, .int q), (5, .int w), (6, .int (((mwn ((mspn (up σ 111 0 0) seed (ct n) q i).2) (seed + (nI i)) (ct n) q) 123 24) - ((mwn ((mspn (up σ 111 0 0) seed (ct n) q i).2) (seed + (nI i)) (ct n) q) 122 24))), (7, .int (if (((mwn ((mspn (up σ 111 0 0) seed (ct n) q i).2) (seed + (nI i)) (ct n) q) 123 24) - ((mwn ((mspn (up σ 111 0 0) seed (ct n) q i).2) (seed + (nI i)) (ct n) q) 122 24)) < ((mspn (up σ 111 0 0) seed (ct n) q i).1.2.1) then ((mspn (up σ 111 0 0) seed (ct n) q i).1.2.1) else (((mwn ((mspn (up σ 111 0 0) seed (ct n) q i).2) (seed + (nI i)) (ct n) q) 123 24) - ((mwn ((mspn (up σ 111 0 0) seed (ct n) q i).2) (seed + (nI i)) (ct n) q) 122 24)))), (8, .int (((mspn (up σ 111 0 0) seed (ct n) q i).1.2.2) + 1)), (9, .int ((nI i) + 1))]) [5, 6, 7, 8, 9, 10, 3, 2, 1, 0] rfl ?_
            refine J.to ?_ ?_ (ih62 _ ?_ (i + 1) hlt62 rfl)
            · first | (rfl) | fail
            · first | (simp only [nI_s]; first | (rw [mspn_a zc99, mspn_c, mspn_d zc141]; done) | (rw [mspn_a zc99, mspn_c, mspn_e zc141]; done) | (rw [mspn_b zc99, mspn_c, mspn_d zc141]; done) | (rw [mspn_b zc99, mspn_c, mspn_e zc141]; done)) | fail
            · first | (omega) | fail
  refine J.lsub (ls' := [(0, .ref (G.1 111)), (1, .int seed), (2, .int many), (3, .int n), (4, .int q), (5, .int w), (6, .int ((-1))), (7, .int 0), (8, .int 0), (9, .int 0)]) [4, 5, 6, 7, 8, 9, 3, 2, 1, 0] rfl ?_
  refine J.to ?_ ?_ (hl62 _ 0 (Nat.zero_le _) rfl)
  · first | (rfl) | fail
  · first | (rfl) | fail

set_option maxRecDepth 20000 in
set_option maxHeartbeats 4000000 in
theorem c_Mo_spanI {l : Launch} {G : Gz} (hG : zI G) (σ : St) (seed : Int32) (many : Int32) (n : Int32) (q : Int32) (w : Int32) (hbad : ¬ ((1 ≤ many ∧ many ≤ 20) ∧ ((1 ≤ n ∧ n ≤ 96) ∧ (0 ≤ q ∧ q ≤ 16)) ∧ (0 ≤ w ∧ w ≤ 2))) : MI l G y_Mo_span prog_14_method_104_code 11 .int 4 [.ref (G.1 111), .int seed, .int many, .int n, .int q, .int w] σ 0 (mrf σ 1 1) := by
  refine MI.of hG (by decide) (Nat.le_of_ble_eq_true rfl) (fun X hx hq => ?_)
  show J l G X 11 σ 0 [(0, .ref (G.1 111)), (1, .int seed), (2, .int many), (3, .int n), (4, .int q), (5, .int w)] []
  refine j_aload_n hx d_Mo_span_0 rfl 0 rfl ?_
  refine j_iconst (v := 0) hx d_Mo_span_1 (by decide) ?_
  refine j_put hx ck_Mo 0 (by decide) t_1418 (by decide) (sh_111 _ _) rfl (Nat.le_of_ble_eq_true rfl) (sh_111 _ _) d_Mo_span_2 ?_
  refine j_aload_n hx d_Mo_span_5 rfl 0 rfl ?_
  refine j_iload_n hx d_Mo_span_6 rfl 2 rfl ?_
  refine j_iconst (v := 1) hx d_Mo_span_7 (by decide) ?_
  refine j_bipush (v := 20) hx d_Mo_span_8 (by decide) ?_
  by_cases hn10 : 1 ≤ many ∧ many ≤ 20
  · skip
    refine j_callSi hx (c_Mo_in1 hG (up σ 111 0 0) many 1 20 (by exact hn10)) mo_Mo_in t_1582 t_1581 (by decide) rfl rfl (Nat.le_of_ble_eq_true rfl) d_Mo_span_10 ?_
    refine j_if_eq (tgt := 35) hx d_Mo_span_13 (by decide) (fun zc13 => absurd zc13 (by decide)) (fun _ => ?_)
    refine j_iload_n hx d_Mo_span_16 rfl 3 rfl ?_
    refine j_iload hx d_Mo_span_17 4 rfl ?_
    by_cases hn19 : (1 ≤ n ∧ n ≤ 96) ∧ (0 ≤ q ∧ q ≤ 16)
    · skip
      refine j_callSi hx (c_Mo_isWinter1 hG (up σ 111 0 0) n q (by exact hn19)) mo_Mo_isWinter t_1940 t_1939 (by decide) rfl rfl (Nat.le_of_ble_eq_true rfl) d_Mo_span_19 ?_
      refine j_if_eq (tgt := 35) hx d_Mo_span_22 (by decide) (fun zc22 => absurd zc22 (by decide)) (fun _ => ?_)
      refine j_iload hx d_Mo_span_25 5 rfl ?_
      refine j_iconst (v := 0) hx d_Mo_span_27 (by decide) ?_
      refine j_iconst (v := 2) hx d_Mo_span_28 (by decide) ?_
      by_cases hn29 : 0 ≤ w ∧ w ≤ 2
      · skip
        exact absurd ⟨hn10, hn19, hn29⟩ hbad
      refine j_callSi hx (c_Mo_in0 hG (up σ 111 0 0) w 0 2 (by exact hn29)) mo_Mo_in t_1582 t_1581 (by decide) rfl rfl (Nat.le_of_ble_eq_true rfl) d_Mo_span_29 ?_
      refine j_if_ne (tgt := 39) hx d_Mo_span_32 (by decide) (fun zc32 => absurd rfl zc32) (fun _ => ?_)
      refine j_iconst (v := 1) hx d_Mo_span_35 (by decide) ?_
      refine j_goto (tgt := 40) hx d_Mo_span_36 (by decide) ?_
      refine j_iconst (v := 1) hx d_Mo_span_40 (by decide) ?_
      refine j_iconst (v := 1) hx d_Mo_span_41 (by decide) ?_
      refine j_callVi hx (c_Mo_bad1 hG (up σ 111 0 0) 1 1 1 (by decide) (by exact up_rd) (by decide) (by decide)) mo_Mo_bad mv_Mo_bad t_1584 (by decide) rfl (by decide) (sh_111 _ _) rfl rfl (Nat.le_of_ble_eq_true rfl) d_Mo_span_42 ?_
      refine j_if_eq (tgt := 50) hx d_Mo_span_45 (by decide) (fun zc45 => absurd zc45 (by decide)) (fun _ => ?_)
      refine j_iconst (v := 0) hx d_Mo_span_48 (by decide) ?_
      exact j_iret hx hq rfl d_Mo_span_49 (by first | (rfl) | fail) (by first | (rfl) | fail)
    refine j_callSi hx (c_Mo_isWinter0 hG (up σ 111 0 0) n q (by exact hn19)) mo_Mo_isWinter t_1940 t_1939 (by decide) rfl rfl (Nat.le_of_ble_eq_true rfl) d_Mo_span_19 ?_
    refine j_if_eq (tgt := 35) hx d_Mo_span_22 (by decide) (fun _ => ?_) (fun zc22 => absurd (by decide) zc22)
    refine j_iconst (v := 1) hx d_Mo_span_35 (by decide) ?_
    refine j_goto (tgt := 40) hx d_Mo_span_36 (by decide) ?_
    refine j_iconst (v := 1) hx d_Mo_span_40 (by decide) ?_
    refine j_iconst (v := 1) hx d_Mo_span_41 (by decide) ?_
    refine j_callVi hx (c_Mo_bad1 hG (up σ 111 0 0) 1 1 1 (by decide) (by exact up_rd) (by decide) (by decide)) mo_Mo_bad mv_Mo_bad t_1584 (by decide) rfl (by decide) (sh_111 _ _) rfl rfl (Nat.le_of_ble_eq_true rfl) d_Mo_span_42 ?_
    refine j_if_eq (tgt := 50) hx d_Mo_span_45 (by decide) (fun zc45 => absurd zc45 (by decide)) (fun _ => ?_)
    refine j_iconst (v := 0) hx d_Mo_span_48 (by decide) ?_
    exact j_iret hx hq rfl d_Mo_span_49 (by first | (rfl) | fail) (by first | (rfl) | fail)
  refine j_callSi hx (c_Mo_in0 hG (up σ 111 0 0) many 1 20 (by exact hn10)) mo_Mo_in t_1582 t_1581 (by decide) rfl rfl (Nat.le_of_ble_eq_true rfl) d_Mo_span_10 ?_
  refine j_if_eq (tgt := 35) hx d_Mo_span_13 (by decide) (fun _ => ?_) (fun zc13 => absurd (by decide) zc13)
  refine j_iconst (v := 1) hx d_Mo_span_35 (by decide) ?_
  refine j_goto (tgt := 40) hx d_Mo_span_36 (by decide) ?_
  refine j_iconst (v := 1) hx d_Mo_span_40 (by decide) ?_
  refine j_iconst (v := 1) hx d_Mo_span_41 (by decide) ?_
  refine j_callVi hx (c_Mo_bad1 hG (up σ 111 0 0) 1 1 1 (by decide) (by exact up_rd) (by decide) (by decide)) mo_Mo_bad mv_Mo_bad t_1584 (by decide) rfl (by decide) (sh_111 _ _) rfl rfl (Nat.le_of_ble_eq_true rfl) d_Mo_span_42 ?_
  refine j_if_eq (tgt := 50) hx d_Mo_span_45 (by decide) (fun zc45 => absurd zc45 (by decide)) (fun _ => ?_)
  refine j_iconst (v := 0) hx d_Mo_span_48 (by decide) ?_
  exact j_iret hx hq rfl d_Mo_span_49 (by first | (rfl) | fail) (by first | (rfl) | fail)

set_option maxRecDepth 20000 in
set_option maxHeartbeats 4000000 in
theorem c_Mo_puts0 {l : Launch} {G : Gz} (hG : zI G) {o : Nat} (ho_o : isArr o 528) (σ : St) (v : Int32) (back : Int32) (hb : back = 0) (j : Nat) (hj : j < 528) (hsp : σ 111 41 = nI j) (ho : o ≠ 111) : MI l G y_Mo_puts prog_14_method_105_code 4 .int 1 [.ref (G.1 111), .ref (G.1 o), .int v, .int back] σ v (up (up σ o j v) 111 41 (nI (j + 1))) := by
  refine MI.of hG (by decide) (Nat.le_of_ble_eq_true rfl) (fun X hx hq => ?_)
  show J l G X 4 σ 0 [(0, .ref (G.1 111)), (1, .ref (G.1 o)), (2, .int v), (3, .int back)] []
  refine j_iload_n hx d_Mo_puts_0 rfl 3 rfl ?_
  refine j_if_ne (tgt := 11) hx d_Mo_puts_1 (by decide) (fun zc1 => ?_) (fun zc1 => ?_)
  · exact absurd hb zc1
  · skip
    refine j_aload_n hx d_Mo_puts_4 rfl 1 rfl ?_
    refine j_aload_n hx d_Mo_puts_5 rfl 0 rfl ?_
    refine j_get hx ck_Mo 41 (by decide) t_1459 (by decide) (sh_111 _ _) rfl d_Mo_puts_6 ?_
    refine j_iload_n hx d_Mo_puts_9 rfl 2 rfl ?_
    have hz10_1 : zin (σ 111 41) 528 j := by rw [hsp]; exact zin_nI hj (by decide)
    refine j_iastk hx ho_o hz10_1 d_Mo_puts_10 ?_
    refine j_aload_n hx d_Mo_puts_11 rfl 0 rfl ?_
    refine j_dup hx d_Mo_puts_12 rfl ?_
    refine j_get hx ck_Mo 41 (by decide) t_1459 (by decide) (sh_111 _ _) rfl d_Mo_puts_13 ?_
    refine j_iconst (v := 1) hx d_Mo_puts_16 (by decide) ?_
    refine j_iadd hx d_Mo_puts_17 ?_
    refine j_put hx ck_Mo 41 (by decide) t_1459 (by decide) (sh_111 _ _) rfl (Nat.le_of_ble_eq_true rfl) (sh_111 _ _) d_Mo_puts_18 ?_
    obtain ⟨s9_1, eg_1⟩ : ∃ z : St, z = up (up σ o j v) 111 41 (nI (j + 1)) := ⟨_, rfl⟩
    refine J.to (σ' := s9_1) (by rw [eg_1]; rw [up_o (Ne.symm ho), hsp, nI_s]) rfl ?_
    refine j_aload_n hx d_Mo_puts_21 rfl 1 rfl ?_
    refine j_aload_n hx d_Mo_puts_22 rfl 0 rfl ?_
    refine j_get hx ck_Mo 41 (by decide) t_1459 (by decide) (sh_111 _ _) rfl d_Mo_puts_23 ?_
    refine j_iconst (v := 1) hx d_Mo_puts_26 (by decide) ?_
    refine j_isub hx d_Mo_puts_27 ?_
    have hz28_2 : zin ((s9_1 111 41) - 1) 528 j := by rw [eg_1, up_rd]; exact zin_m9 hj
    refine j_ialdk hx ho_o hz28_2 d_Mo_puts_28 ?_
    exact j_iret hx hq rfl d_Mo_puts_29 (by first | (rw [eg_1, up_o ho, up_rd]) | fail) (by first | (rw [eg_1]) | fail)

set_option maxRecDepth 20000 in
set_option maxHeartbeats 4000000 in
theorem c_Mo_puts1 {l : Launch} {G : Gz} (hG : zI G) {o : Nat} (ho_o : isArr o 528) (σ : St) (v : Int32) (back : Int32) (hb : ¬ back = 0) (j : Nat) (hj : j < 528) (hsp : σ 111 41 = nI j) (ho : o ≠ 111) : MI l G y_Mo_puts prog_14_method_105_code 4 .int 1 [.ref (G.1 111), .ref (G.1 o), .int v, .int back] σ (σ o j) (up σ 111 41 (nI (j + 1))) := by
  refine MI.of hG (by decide) (Nat.le_of_ble_eq_true rfl) (fun X hx hq => ?_)
  show J l G X 4 σ 0 [(0, .ref (G.1 111)), (1, .ref (G.1 o)), (2, .int v), (3, .int back)] []
  refine j_iload_n hx d_Mo_puts_0 rfl 3 rfl ?_
  refine j_if_ne (tgt := 11) hx d_Mo_puts_1 (by decide) (fun zc1 => ?_) (fun zc1 => ?_)
  · skip
    refine j_aload_n hx d_Mo_puts_11 rfl 0 rfl ?_
    refine j_dup hx d_Mo_puts_12 rfl ?_
    refine j_get hx ck_Mo 41 (by decide) t_1459 (by decide) (sh_111 _ _) rfl d_Mo_puts_13 ?_
    refine j_iconst (v := 1) hx d_Mo_puts_16 (by decide) ?_
    refine j_iadd hx d_Mo_puts_17 ?_
    refine j_put hx ck_Mo 41 (by decide) t_1459 (by decide) (sh_111 _ _) rfl (Nat.le_of_ble_eq_true rfl) (sh_111 _ _) d_Mo_puts_18 ?_
    obtain ⟨s9_1, eg_1⟩ : ∃ z : St, z = up σ 111 41 (nI (j + 1)) := ⟨_, rfl⟩
    refine J.to (σ' := s9_1) (by rw [eg_1]; rw [hsp, nI_s]) rfl ?_
    refine j_aload_n hx d_Mo_puts_21 rfl 1 rfl ?_
    refine j_aload_n hx d_Mo_puts_22 rfl 0 rfl ?_
    refine j_get hx ck_Mo 41 (by decide) t_1459 (by decide) (sh_111 _ _) rfl d_Mo_puts_23 ?_
    refine j_iconst (v := 1) hx d_Mo_puts_26 (by decide) ?_
    refine j_isub hx d_Mo_puts_27 ?_
    have hz28_1 : zin ((s9_1 111 41) - 1) 528 j := by rw [eg_1, up_rd]; exact zin_m9 hj
    refine j_ialdk hx ho_o hz28_1 d_Mo_puts_28 ?_
    exact j_iret hx hq rfl d_Mo_puts_29 (by first | (rw [eg_1, up_o ho]) | fail) (by first | (rw [eg_1]) | fail)
  · exact absurd zc1 hb

set_option maxRecDepth 20000 in
set_option maxHeartbeats 4000000 in
theorem c_Mo_putsAll0 {l : Launch} {G : Gz} (hG : zI G) {o : Nat} (ho_o : isArr o 528) (σ : St) (back : Int32) (hb : back = 0) (ho1 : 607 ≤ o) (ho2 : o < 610) : MV l G y_Mo_putsAll prog_14_method_106_code 5 2 [.ref (G.1 111), .ref (G.1 o), .int back] σ (ims σ o 528) := by
  refine MV.of hG (by decide) (Nat.le_of_ble_eq_true rfl) (fun X hx hq => ?_)
  show J l G X 5 σ 0 [(0, .ref (G.1 111)), (1, .ref (G.1 o)), (2, .int back)] []
  refine j_aload_n hx d_Mo_putsAll_0 rfl 0 rfl ?_
  refine j_iconst (v := 0) hx d_Mo_putsAll_1 (by decide) ?_
  refine j_put hx ck_Mo 41 (by decide) t_1459 (by decide) (sh_111 _ _) rfl (Nat.le_of_ble_eq_true rfl) (sh_111 _ _) d_Mo_putsAll_2 ?_
  obtain ⟨s9_1, eg_1⟩ : ∃ z : St, z = ims σ o 0 := ⟨_, rfl⟩
  refine J.to (σ' := s9_1) (by rw [eg_1]; unfold ims; rw [fl_0]; rfl) rfl ?_
  refine j_aload_n hx d_Mo_putsAll_5 rfl 0 rfl ?_
  refine j_aload_n hx d_Mo_putsAll_6 rfl 0 rfl ?_
  refine j_aload_n hx d_Mo_putsAll_7 rfl 1 rfl ?_
  refine j_aload_n hx d_Mo_putsAll_8 rfl 0 rfl ?_
  refine j_get hx ck_Mo 38 (by decide) t_1456 (by decide) (sh_111 _ _) rfl d_Mo_putsAll_9 ?_
  refine j_iload_n hx d_Mo_putsAll_12 rfl 2 rfl ?_
  refine j_callVi hx (c_Mo_puts0 hG ho_o s9_1 (s9_1 111 38) back hb 0 (by omega) (by rw [eg_1]; exact ims_41) (by omega)) mo_Mo_puts mv_Mo_puts t_1963 (by decide) rfl (by decide) (sh_111 _ _) rfl rfl (Nat.le_of_ble_eq_true rfl) d_Mo_putsAll_13 ?_
  refine j_put hx ck_Mo 38 (by decide) t_1456 (by decide) (sh_111 _ _) rfl (Nat.le_of_ble_eq_true rfl) (sh_111 _ _) d_Mo_putsAll_16 ?_
  obtain ⟨s9_2, eg_2⟩ : ∃ z : St, z = ims σ o 1 := ⟨_, rfl⟩
  refine J.to (σ' := s9_2) (by rw [eg_2]; rw [eg_1, ims_next (by omega) (by rw [ims_f (by omega) (by decide)]; rfl)]; exact ims_38 (by omega) (ims_f (by omega) (by decide))) rfl ?_
  refine j_iconst (v := 0) hx d_Mo_putsAll_19 (by decide) ?_
  refine j_istore_n hx [(3, .int 0), (0, .ref (G.1 111)), (1, .ref (G.1 o)), (2, .int back)] d_Mo_putsAll_20 rfl (by decide) rfl ?_
  have hl21 : ∀ (N9 : Nat) (i : Nat), (i ≤ 31) → 31 - i = N9 → J l G X 5 (ims σ o (1 + i)) 21 [(0, .ref (G.1 111)), (1, .ref (G.1 o)), (2, .int back), (3, .int (nI i))] [] := by
    intro N9
    induction N9 using Nat.strongRecOn with
    | _ N9 ih21 =>
      intro i hi_i hm21
      refine j_iload_n hx d_Mo_putsAll_21 rfl 3 rfl ?_
      refine j_bipush (v := 31) hx d_Mo_putsAll_22 (by decide) ?_
      refine j_icmp_ge (tgt := 51) hx d_Mo_putsAll_24 (by decide) (fun zc24 => ?_) (fun zc24 => ?_)
      · skip
        obtain rfl := nt_end (n := 31) hi_i (by decide) zc24
        refine j_iconst (v := 0) hx d_Mo_putsAll_51 (by decide) ?_
        refine j_istore_n hx [(3, .int 0), (0, .ref (G.1 111)), (1, .ref (G.1 o)), (2, .int back)] d_Mo_putsAll_52 rfl (by decide) rfl ?_
        have hl53 : ∀ (N9 : Nat) (i : Nat), (i ≤ 16) → 16 - i = N9 → J l G X 5 (ims σ o (32 + 31 * i)) 53 [(0, .ref (G.1 111)), (1, .ref (G.1 o)), (2, .int back), (3, .int (nI i))] [] := by
          intro N9
          induction N9 using Nat.strongRecOn with
          | _ N9 ih53 =>
            intro i hi_i hm53
            refine j_iload_n hx d_Mo_putsAll_53 rfl 3 rfl ?_
            refine j_bipush (v := 16) hx d_Mo_putsAll_54 (by decide) ?_
            refine j_icmp_ge (tgt := 105) hx d_Mo_putsAll_56 (by decide) (fun zc56 => ?_) (fun zc56 => ?_)
            · skip
              obtain rfl := nt_end (n := 16) hi_i (by decide) zc56
              exact j_vret hx hq d_Mo_putsAll_105 (by first | (rfl) | fail)
            · skip
              have hlt53 := nt_go (n := 16) hi_i (by decide) zc56
              refine j_iconst (v := 0) hx d_Mo_putsAll_59 (by decide) ?_
              refine j_istore hx [(4, .int 0), (0, .ref (G.1 111)), (1, .ref (G.1 o)), (2, .int back), (3, .int (nI i))] d_Mo_putsAll_60 (by decide) rfl ?_
              have hl62 : ∀ (N9 : Nat) (j : Nat), (j ≤ 31) → 31 - j = N9 → J l G X 5 (ims σ o (32 + 31 * i + j)) 62 [(0, .ref (G.1 111)), (1, .ref (G.1 o)), (2, .int back), (3, .int (nI i)), (4, .int (nI j))] [] := by
                intro N9
                induction N9 using Nat.strongRecOn with
                | _ N9 ih62 =>
                  intro j hi_j hm62
                  refine j_iload hx d_Mo_putsAll_62 4 rfl ?_
                  refine j_bipush (v := 31) hx d_Mo_putsAll_64 (by decide) ?_
                  refine j_icmp_ge (tgt := 99) hx d_Mo_putsAll_66 (by decide) (fun zc66 => ?_) (fun zc66 => ?_)
                  · skip
                    obtain rfl := nt_end (n := 31) hi_j (by decide) zc66
                    refine j_iinc hx [(3, .int ((nI i) + 1)), (0, .ref (G.1 111)), (1, .ref (G.1 o)), (2, .int back), (4, .int (nI 31))] d_Mo_putsAll_99 3 rfl rfl (by decide) rfl ?_
                    refine j_goto (tgt := 53) hx d_Mo_putsAll_102 (by decide) ?_
                    refine J.lsub (ls' := [(0, .ref (G.1 111)), (1, .ref (G.1 o)), (2, .int back), (3, .int ((nI i) + 1))]) [1, 2, 3, 0] rfl ?_
                    refine J.to ?_ ?_ (ih53 _ ?_ (i + 1) hlt53 rfl)
                    · first | (rfl) | fail
                    · first | (simp only [nI_s]) | fail
                    · first | (omega) | fail
                  · skip
                    have hlt62 := nt_go (n := 31) hi_j (by decide) zc66
                    refine j_aload_n hx d_Mo_putsAll_69 rfl 0 rfl ?_
                    refine j_get hx ck_Mo 35 (by decide) t_1453 (by decide) (sh_111 _ _) rfl d_Mo_putsAll_70 ?_
                    refine j_iload_n hx d_Mo_putsAll_73 rfl 3 rfl ?_
                    have hz74_1 : zin (nI i) 16 i := by first | exact ⟨rfl, by decide⟩ | exact zin_nI (by omega) (by first | decide | omega) | exact zin_of (by omega) (by omega)
                    refine j_aaldk hx ias_before.1.1 (ias_before.2.1 _ _) hz74_1 d_Mo_putsAll_74 ?_
                    refine j_iload hx d_Mo_putsAll_75 4 rfl ?_
                    refine j_aload_n hx d_Mo_putsAll_77 rfl 0 rfl ?_
                    refine j_aload_n hx d_Mo_putsAll_78 rfl 1 rfl ?_
                    refine j_aload_n hx d_Mo_putsAll_79 rfl 0 rfl ?_
                    refine j_get hx ck_Mo 35 (by decide) t_1453 (by decide) (sh_111 _ _) rfl d_Mo_putsAll_80 ?_
                    refine j_iload_n hx d_Mo_putsAll_83 rfl 3 rfl ?_
                    have hz84_2 : zin (nI i) 16 i := by first | exact ⟨rfl, by decide⟩ | exact zin_nI (by omega) (by first | decide | omega) | exact zin_of (by omega) (by omega)
                    refine j_aaldk hx ias_before.1.1 (ias_before.2.1 _ _) hz84_2 d_Mo_putsAll_84 ?_
                    refine j_iload hx d_Mo_putsAll_85 4 rfl ?_
                    have hz87_3 : zin (nI j) 31 j := by first | exact ⟨rfl, by decide⟩ | exact zin_nI (by omega) (by first | decide | omega) | exact zin_of (by omega) (by omega)
                    refine j_ialdk hx (ias_before.2.2 _ hz84_2.2) hz87_3 d_Mo_putsAll_87 ?_
                    refine j_iload_n hx d_Mo_putsAll_88 rfl 2 rfl ?_
                    refine j_callVi hx (c_Mo_puts0 hG ho_o (ims σ o (32 + 31 * i + j)) ((ims σ o (32 + 31 * i + j)) (591 + i) j) back hb (32 + 31 * i + j) (by omega) (ims_41) (by omega)) mo_Mo_puts mv_Mo_puts t_1963 (by decide) rfl (by decide) (sh_111 _ _) rfl rfl (Nat.le_of_ble_eq_true rfl) d_Mo_putsAll_89 ?_
                    have hz92_4 : zin (nI j) 31 j := by first | exact ⟨rfl, by decide⟩ | exact zin_nI (by omega) (by first | decide | omega) | exact zin_of (by omega) (by omega)
                    refine j_iastk hx (ias_before.2.2 _ hz74_1.2) hz92_4 d_Mo_putsAll_92 ?_
                    obtain ⟨s9_3, eg_3⟩ : ∃ z : St, z = ims σ o (32 + 31 * i + (j + 1)) := ⟨_, rfl⟩
                    refine J.to (σ' := s9_3) (by rw [eg_3]; rw [ims_next (by omega) (by rw [ims_o (by omega) (by omega), imf_2 (by omega)])]; exact ims_q (by omega) (by omega) (by rw [ims_o (by omega) (by omega)])) rfl ?_
                    refine j_iinc hx [(4, .int ((nI j) + 1)), (0, .ref (G.1 111)), (1, .ref (G.1 o)), (2, .int back), (3, .int (nI i))] d_Mo_putsAll_93 4 rfl rfl (by decide) rfl ?_
                    refine j_goto (tgt := 62) hx d_Mo_putsAll_96 (by decide) ?_
                    refine J.lsub (ls' := [(0, .ref (G.1 111)), (1, .ref (G.1 o)), (2, .int back), (3, .int (nI i)), (4, .int ((nI j) + 1))]) [1, 2, 3, 4, 0] rfl ?_
                    refine J.to ?_ ?_ (ih62 _ ?_ (j + 1) hlt62 rfl)
                    · first | (exact eg_3) | fail
                    · first | (simp only [nI_s]) | fail
                    · first | (omega) | fail
              refine J.lsub (ls' := [(0, .ref (G.1 111)), (1, .ref (G.1 o)), (2, .int back), (3, .int (nI i)), (4, .int 0)]) [1, 2, 3, 4, 0] rfl ?_
              refine J.to ?_ ?_ (hl62 _ 0 (Nat.zero_le _) rfl)
              · first | (rfl) | fail
              · first | (first | rfl | (simp only [nI_s]; done) | (simp only [nI_s, it_s]; done) | (simp [nI_s, it_s, zc24, zc56]; done)) | fail
        refine J.lsub (ls' := [(0, .ref (G.1 111)), (1, .ref (G.1 o)), (2, .int back), (3, .int 0)]) [1, 2, 3, 0] rfl ?_
        refine J.to ?_ ?_ (hl53 _ 0 (Nat.zero_le _) rfl)
        · first | (rfl) | fail
        · first | (first | rfl | (simp only [nI_s]; done) | (simp only [nI_s, it_s]; done) | (simp [nI_s, it_s, zc24]; done)) | fail
      · skip
        have hlt21 := nt_go (n := 31) hi_i (by decide) zc24
        refine j_aload_n hx d_Mo_putsAll_27 rfl 0 rfl ?_
        refine j_get hx ck_Mo 33 (by decide) t_1451 (by decide) (sh_111 _ _) rfl d_Mo_putsAll_28 ?_
        refine j_iload_n hx d_Mo_putsAll_31 rfl 3 rfl ?_
        refine j_aload_n hx d_Mo_putsAll_32 rfl 0 rfl ?_
        refine j_aload_n hx d_Mo_putsAll_33 rfl 1 rfl ?_
        refine j_aload_n hx d_Mo_putsAll_34 rfl 0 rfl ?_
        refine j_get hx ck_Mo 33 (by decide) t_1451 (by decide) (sh_111 _ _) rfl d_Mo_putsAll_35 ?_
        refine j_iload_n hx d_Mo_putsAll_38 rfl 3 rfl ?_
        have hz39_5 : zin (nI i) 31 i := by first | exact ⟨rfl, by decide⟩ | exact zin_nI (by omega) (by first | decide | omega) | exact zin_of (by omega) (by omega)
        refine j_ialdk hx ia_122 hz39_5 d_Mo_putsAll_39 ?_
        refine j_iload_n hx d_Mo_putsAll_40 rfl 2 rfl ?_
        refine j_callVi hx (c_Mo_puts0 hG ho_o (ims σ o (1 + i)) ((ims σ o (1 + i)) 122 i) back hb (1 + i) (by omega) (ims_41) (by omega)) mo_Mo_puts mv_Mo_puts t_1963 (by decide) rfl (by decide) (sh_111 _ _) rfl rfl (Nat.le_of_ble_eq_true rfl) d_Mo_putsAll_41 ?_
        have hz44_6 : zin (nI i) 31 i := by first | exact ⟨rfl, by decide⟩ | exact zin_nI (by omega) (by first | decide | omega) | exact zin_of (by omega) (by omega)
        refine j_iastk hx ia_122 hz44_6 d_Mo_putsAll_44 ?_
        obtain ⟨s9_3, eg_3⟩ : ∃ z : St, z = ims σ o (1 + (i + 1)) := ⟨_, rfl⟩
        refine J.to (σ' := s9_3) (by rw [eg_3]; rw [ims_next (by omega) (by rw [ims_o (by omega) (by decide), imf_1 (by omega)])]; exact ims_q (by omega) (by decide) (by rw [ims_o (by omega) (by decide)])) rfl ?_
        refine j_iinc hx [(3, .int ((nI i) + 1)), (0, .ref (G.1 111)), (1, .ref (G.1 o)), (2, .int back)] d_Mo_putsAll_45 3 rfl rfl (by decide) rfl ?_
        refine j_goto (tgt := 21) hx d_Mo_putsAll_48 (by decide) ?_
        refine J.lsub (ls' := [(0, .ref (G.1 111)), (1, .ref (G.1 o)), (2, .int back), (3, .int ((nI i) + 1))]) [1, 2, 3, 0] rfl ?_
        refine J.to ?_ ?_ (ih21 _ ?_ (i + 1) hlt21 rfl)
        · first | (exact eg_3) | fail
        · first | (simp only [nI_s]) | fail
        · first | (omega) | fail
  refine J.lsub (ls' := [(0, .ref (G.1 111)), (1, .ref (G.1 o)), (2, .int back), (3, .int 0)]) [1, 2, 3, 0] rfl ?_
  refine J.to ?_ ?_ (hl21 _ 0 (Nat.zero_le _) rfl)
  · first | (rw [eg_2]) | fail
  · first | (first | rfl | (simp only [nI_s]; done) | (simp only [nI_s, it_s]; done) | (simp [nI_s, it_s, ]; done)) | fail

set_option maxRecDepth 20000 in
set_option maxHeartbeats 4000000 in
theorem c_Mo_putsAll1 {l : Launch} {G : Gz} (hG : zI G) {o : Nat} (ho_o : isArr o 528) (σ : St) (back : Int32) (hb : ¬ back = 0) (ho1 : 607 ≤ o) (ho2 : o < 610) : MV l G y_Mo_putsAll prog_14_method_106_code 5 2 [.ref (G.1 111), .ref (G.1 o), .int back] σ (rmS σ o) := by
  refine MV.of hG (by decide) (Nat.le_of_ble_eq_true rfl) (fun X hx hq => ?_)
  show J l G X 5 σ 0 [(0, .ref (G.1 111)), (1, .ref (G.1 o)), (2, .int back)] []
  refine j_aload_n hx d_Mo_putsAll_0 rfl 0 rfl ?_
  refine j_iconst (v := 0) hx d_Mo_putsAll_1 (by decide) ?_
  refine j_put hx ck_Mo 41 (by decide) t_1459 (by decide) (sh_111 _ _) rfl (Nat.le_of_ble_eq_true rfl) (sh_111 _ _) d_Mo_putsAll_2 ?_
  refine j_aload_n hx d_Mo_putsAll_5 rfl 0 rfl ?_
  refine j_aload_n hx d_Mo_putsAll_6 rfl 0 rfl ?_
  refine j_aload_n hx d_Mo_putsAll_7 rfl 1 rfl ?_
  refine j_aload_n hx d_Mo_putsAll_8 rfl 0 rfl ?_
  refine j_get hx ck_Mo 38 (by decide) t_1456 (by decide) (sh_111 _ _) rfl d_Mo_putsAll_9 ?_
  refine j_iload_n hx d_Mo_putsAll_12 rfl 2 rfl ?_
  refine j_callVi hx (c_Mo_puts1 hG ho_o (up σ 111 41 0) (up σ 111 41 0 111 38) back hb 0 (by omega) (up_rd) (by omega)) mo_Mo_puts mv_Mo_puts t_1963 (by decide) rfl (by decide) (sh_111 _ _) rfl rfl (Nat.le_of_ble_eq_true rfl) d_Mo_putsAll_13 ?_
  refine j_put hx ck_Mo 38 (by decide) t_1456 (by decide) (sh_111 _ _) rfl (Nat.le_of_ble_eq_true rfl) (sh_111 _ _) d_Mo_putsAll_16 ?_
  obtain ⟨s9_1, eg_1⟩ : ∃ z : St, z = rm1 σ o 0 := ⟨_, rfl⟩
  refine J.to (σ' := s9_1) (by rw [eg_1]; unfold rm1 rmA; rw [fl_0, up_up, up_cmk (by decide), up_o (by omega)]) rfl ?_
  refine j_iconst (v := 0) hx d_Mo_putsAll_19 (by decide) ?_
  refine j_istore_n hx [(3, .int 0), (0, .ref (G.1 111)), (1, .ref (G.1 o)), (2, .int back)] d_Mo_putsAll_20 rfl (by decide) rfl ?_
  have hl21 : ∀ (N9 : Nat) (i : Nat), (i ≤ 31) → 31 - i = N9 → J l G X 5 (rm1 σ o i) 21 [(0, .ref (G.1 111)), (1, .ref (G.1 o)), (2, .int back), (3, .int (nI i))] [] := by
    intro N9
    induction N9 using Nat.strongRecOn with
    | _ N9 ih21 =>
      intro i hi_i hm21
      refine j_iload_n hx d_Mo_putsAll_21 rfl 3 rfl ?_
      refine j_bipush (v := 31) hx d_Mo_putsAll_22 (by decide) ?_
      refine j_icmp_ge (tgt := 51) hx d_Mo_putsAll_24 (by decide) (fun zc24 => ?_) (fun zc24 => ?_)
      · skip
        obtain rfl := nt_end (n := 31) hi_i (by decide) zc24
        refine j_iconst (v := 0) hx d_Mo_putsAll_51 (by decide) ?_
        refine j_istore_n hx [(3, .int 0), (0, .ref (G.1 111)), (1, .ref (G.1 o)), (2, .int back)] d_Mo_putsAll_52 rfl (by decide) rfl ?_
        have hl53 : ∀ (N9 : Nat) (i : Nat), (i ≤ 16) → 16 - i = N9 → J l G X 5 (rm2 σ o i 0) 53 [(0, .ref (G.1 111)), (1, .ref (G.1 o)), (2, .int back), (3, .int (nI i))] [] := by
          intro N9
          induction N9 using Nat.strongRecOn with
          | _ N9 ih53 =>
            intro i hi_i hm53
            refine j_iload_n hx d_Mo_putsAll_53 rfl 3 rfl ?_
            refine j_bipush (v := 16) hx d_Mo_putsAll_54 (by decide) ?_
            refine j_icmp_ge (tgt := 105) hx d_Mo_putsAll_56 (by decide) (fun zc56 => ?_) (fun zc56 => ?_)
            · skip
              obtain rfl := nt_end (n := 16) hi_i (by decide) zc56
              exact j_vret hx hq d_Mo_putsAll_105 (by first | (exact rm2_e) | fail)
            · skip
              have hlt53 := nt_go (n := 16) hi_i (by decide) zc56
              refine j_iconst (v := 0) hx d_Mo_putsAll_59 (by decide) ?_
              refine j_istore hx [(4, .int 0), (0, .ref (G.1 111)), (1, .ref (G.1 o)), (2, .int back), (3, .int (nI i))] d_Mo_putsAll_60 (by decide) rfl ?_
              have hl62 : ∀ (N9 : Nat) (j : Nat), (j ≤ 31) → 31 - j = N9 → J l G X 5 (rm2 σ o i j) 62 [(0, .ref (G.1 111)), (1, .ref (G.1 o)), (2, .int back), (3, .int (nI i)), (4, .int (nI j))] [] := by
                intro N9
                induction N9 using Nat.strongRecOn with
                | _ N9 ih62 =>
                  intro j hi_j hm62
                  refine j_iload hx d_Mo_putsAll_62 4 rfl ?_
                  refine j_bipush (v := 31) hx d_Mo_putsAll_64 (by decide) ?_
                  refine j_icmp_ge (tgt := 99) hx d_Mo_putsAll_66 (by decide) (fun zc66 => ?_) (fun zc66 => ?_)
                  · skip
                    obtain rfl := nt_end (n := 31) hi_j (by decide) zc66
                    refine j_iinc hx [(3, .int ((nI i) + 1)), (0, .ref (G.1 111)), (1, .ref (G.1 o)), (2, .int back), (4, .int (nI 31))] d_Mo_putsAll_99 3 rfl rfl (by decide) rfl ?_
                    refine j_goto (tgt := 53) hx d_Mo_putsAll_102 (by decide) ?_
                    refine J.lsub (ls' := [(0, .ref (G.1 111)), (1, .ref (G.1 o)), (2, .int back), (3, .int ((nI i) + 1))]) [1, 2, 3, 0] rfl ?_
                    refine J.to ?_ ?_ (ih53 _ ?_ (i + 1) hlt53 rfl)
                    · first | (exact rm2_w) | fail
                    · first | (simp only [nI_s]) | fail
                    · first | (omega) | fail
                  · skip
                    have hlt62 := nt_go (n := 31) hi_j (by decide) zc66
                    refine j_aload_n hx d_Mo_putsAll_69 rfl 0 rfl ?_
                    refine j_get hx ck_Mo 35 (by decide) t_1453 (by decide) (sh_111 _ _) rfl d_Mo_putsAll_70 ?_
                    refine j_iload_n hx d_Mo_putsAll_73 rfl 3 rfl ?_
                    have hz74_1 : zin (nI i) 16 i := by first | exact ⟨rfl, by decide⟩ | exact zin_nI (by omega) (by first | decide | omega) | exact zin_of (by omega) (by omega)
                    refine j_aaldk hx ias_before.1.1 (ias_before.2.1 _ _) hz74_1 d_Mo_putsAll_74 ?_
                    refine j_iload hx d_Mo_putsAll_75 4 rfl ?_
                    refine j_aload_n hx d_Mo_putsAll_77 rfl 0 rfl ?_
                    refine j_aload_n hx d_Mo_putsAll_78 rfl 1 rfl ?_
                    refine j_aload_n hx d_Mo_putsAll_79 rfl 0 rfl ?_
                    refine j_get hx ck_Mo 35 (by decide) t_1453 (by decide) (sh_111 _ _) rfl d_Mo_putsAll_80 ?_
                    refine j_iload_n hx d_Mo_putsAll_83 rfl 3 rfl ?_
                    have hz84_2 : zin (nI i) 16 i := by first | exact ⟨rfl, by decide⟩ | exact zin_nI (by omega) (by first | decide | omega) | exact zin_of (by omega) (by omega)
                    refine j_aaldk hx ias_before.1.1 (ias_before.2.1 _ _) hz84_2 d_Mo_putsAll_84 ?_
                    refine j_iload hx d_Mo_putsAll_85 4 rfl ?_
                    have hz87_3 : zin (nI j) 31 j := by first | exact ⟨rfl, by decide⟩ | exact zin_nI (by omega) (by first | decide | omega) | exact zin_of (by omega) (by omega)
                    refine j_ialdk hx (ias_before.2.2 _ hz84_2.2) hz87_3 d_Mo_putsAll_87 ?_
                    refine j_iload_n hx d_Mo_putsAll_88 rfl 2 rfl ?_
                    refine j_callVi hx (c_Mo_puts1 hG ho_o (rm2 σ o i j) ((rm2 σ o i j) (591 + i) j) back hb (32 + 31 * i + j) (by omega) (rm2_41) (by omega)) mo_Mo_puts mv_Mo_puts t_1963 (by decide) rfl (by decide) (sh_111 _ _) rfl rfl (Nat.le_of_ble_eq_true rfl) d_Mo_putsAll_89 ?_
                    have hz92_4 : zin (nI j) 31 j := by first | exact ⟨rfl, by decide⟩ | exact zin_nI (by omega) (by first | decide | omega) | exact zin_of (by omega) (by omega)
                    refine j_iastk hx (ias_before.2.2 _ hz74_1.2) hz92_4 d_Mo_putsAll_92 ?_
                    obtain ⟨s9_2, eg_2⟩ : ∃ z : St, z = rm2 σ o i (j + 1) := ⟨_, rfl⟩
                    refine J.to (σ' := s9_2) (by rw [eg_2]; rw [rm2_o (by omega) (by omega) (by omega)]; exact rm2_s) rfl ?_
                    refine j_iinc hx [(4, .int ((nI j) + 1)), (0, .ref (G.1 111)), (1, .ref (G.1 o)), (2, .int back), (3, .int (nI i))] d_Mo_putsAll_93 4 rfl rfl (by decide) rfl ?_
                    refine j_goto (tgt := 62) hx d_Mo_putsAll_96 (by decide) ?_
                    refine J.lsub (ls' := [(0, .ref (G.1 111)), (1, .ref (G.1 o)), (2, .int back), (3, .int (nI i)), (4, .int ((nI j) + 1))]) [1, 2, 3, 4, 0] rfl ?_
                    refine J.to ?_ ?_ (ih62 _ ?_ (j + 1) hlt62 rfl)
                    · first | (exact eg_2) | fail
                    · first | (simp only [nI_s]) | fail
                    · first | (omega) | fail
              refine J.lsub (ls' := [(0, .ref (G.1 111)), (1, .ref (G.1 o)), (2, .int back), (3, .int (nI i)), (4, .int 0)]) [1, 2, 3, 4, 0] rfl ?_
              refine J.to ?_ ?_ (hl62 _ 0 (Nat.zero_le _) rfl)
              · first | (rfl) | fail
              · first | (first | rfl | (simp only [nI_s]; done) | (simp only [nI_s, it_s]; done) | (simp [nI_s, it_s, zc24, zc56]; done)) | fail
        refine J.lsub (ls' := [(0, .ref (G.1 111)), (1, .ref (G.1 o)), (2, .int back), (3, .int 0)]) [1, 2, 3, 0] rfl ?_
        refine J.to ?_ ?_ (hl53 _ 0 (Nat.zero_le _) rfl)
        · first | (exact rm1_e) | fail
        · first | (first | rfl | (simp only [nI_s]; done) | (simp only [nI_s, it_s]; done) | (simp [nI_s, it_s, zc24]; done)) | fail
      · skip
        have hlt21 := nt_go (n := 31) hi_i (by decide) zc24
        refine j_aload_n hx d_Mo_putsAll_27 rfl 0 rfl ?_
        refine j_get hx ck_Mo 33 (by decide) t_1451 (by decide) (sh_111 _ _) rfl d_Mo_putsAll_28 ?_
        refine j_iload_n hx d_Mo_putsAll_31 rfl 3 rfl ?_
        refine j_aload_n hx d_Mo_putsAll_32 rfl 0 rfl ?_
        refine j_aload_n hx d_Mo_putsAll_33 rfl 1 rfl ?_
        refine j_aload_n hx d_Mo_putsAll_34 rfl 0 rfl ?_
        refine j_get hx ck_Mo 33 (by decide) t_1451 (by decide) (sh_111 _ _) rfl d_Mo_putsAll_35 ?_
        refine j_iload_n hx d_Mo_putsAll_38 rfl 3 rfl ?_
        have hz39_5 : zin (nI i) 31 i := by first | exact ⟨rfl, by decide⟩ | exact zin_nI (by omega) (by first | decide | omega) | exact zin_of (by omega) (by omega)
        refine j_ialdk hx ia_122 hz39_5 d_Mo_putsAll_39 ?_
        refine j_iload_n hx d_Mo_putsAll_40 rfl 2 rfl ?_
        refine j_callVi hx (c_Mo_puts1 hG ho_o (rm1 σ o i) ((rm1 σ o i) 122 i) back hb (1 + i) (by omega) (rm1_41) (by omega)) mo_Mo_puts mv_Mo_puts t_1963 (by decide) rfl (by decide) (sh_111 _ _) rfl rfl (Nat.le_of_ble_eq_true rfl) d_Mo_putsAll_41 ?_
        have hz44_6 : zin (nI i) 31 i := by first | exact ⟨rfl, by decide⟩ | exact zin_nI (by omega) (by first | decide | omega) | exact zin_of (by omega) (by omega)
        refine j_iastk hx ia_122 hz44_6 d_Mo_putsAll_44 ?_
        obtain ⟨s9_2, eg_2⟩ : ∃ z : St, z = rm1 σ o (i + 1) := ⟨_, rfl⟩
        refine J.to (σ' := s9_2) (by rw [eg_2]; rw [rm1_o (by omega) (by omega)]; exact rm1_s) rfl ?_
        refine j_iinc hx [(3, .int ((nI i) + 1)), (0, .ref (G.1 111)), (1, .ref (G.1 o)), (2, .int back)] d_Mo_putsAll_45 3 rfl rfl (by decide) rfl ?_
        refine j_goto (tgt := 21) hx d_Mo_putsAll_48 (by decide) ?_
        refine J.lsub (ls' := [(0, .ref (G.1 111)), (1, .ref (G.1 o)), (2, .int back), (3, .int ((nI i) + 1))]) [1, 2, 3, 0] rfl ?_
        refine J.to ?_ ?_ (ih21 _ ?_ (i + 1) hlt21 rfl)
        · first | (exact eg_2) | fail
        · first | (simp only [nI_s]) | fail
        · first | (omega) | fail
  refine J.lsub (ls' := [(0, .ref (G.1 111)), (1, .ref (G.1 o)), (2, .int back), (3, .int 0)]) [1, 2, 3, 0] rfl ?_
  refine J.to ?_ ?_ (hl21 _ 0 (Nat.zero_le _) rfl)
  · first | (rw [eg_1]) | fail
  · first | (first | rfl | (simp only [nI_s]; done) | (simp only [nI_s, it_s]; done) | (simp [nI_s, it_s, ]; done)) | fail

set_option maxRecDepth 20000 in
set_option maxHeartbeats 4000000 in
theorem c_Mo_image0 {l : Launch} {G : Gz} (hG : zI G) (σ : St) (him : (up σ 111 0 0) 111 40 = 3) : MI l G y_Mo_image prog_14_method_107_code 1 .int 3 [.ref (G.1 111)] σ (-1) (t0 σ) := by
  refine MI.of hG (by decide) (Nat.le_of_ble_eq_true rfl) (fun X hx hq => ?_)
  show J l G X 1 σ 0 [(0, .ref (G.1 111))] []
  refine j_aload_n hx d_Mo_image_0 rfl 0 rfl ?_
  refine j_iconst (v := 0) hx d_Mo_image_1 (by decide) ?_
  refine j_put hx ck_Mo 0 (by decide) t_1418 (by decide) (sh_111 _ _) rfl (Nat.le_of_ble_eq_true rfl) (sh_111 _ _) d_Mo_image_2 ?_
  refine j_aload_n hx d_Mo_image_5 rfl 0 rfl ?_
  refine j_get hx ck_Mo 40 (by decide) t_1458 (by decide) (sh_111 _ _) rfl d_Mo_image_6 ?_
  refine j_iconst (v := 3) hx d_Mo_image_9 (by decide) ?_
  refine j_icmp_ne (tgt := 15) hx d_Mo_image_10 (by decide) (fun zc10 => ?_) (fun zc10 => ?_)
  · exact absurd him zc10
  · skip
    refine j_iconst (v := (-1)) hx d_Mo_image_13 (by decide) ?_
    exact j_iret hx hq rfl d_Mo_image_14 (by first | (rfl) | fail) (by first | (rfl) | fail)

set_option maxRecDepth 20000 in
set_option maxHeartbeats 4000000 in
theorem c_Mo_image1 {l : Launch} {G : Gz} (hG : zI G) (σ : St) (i : Nat) (hi3 : i < 3) (him : (up σ 111 0 0) 111 40 = nI i) : MI l G y_Mo_image prog_14_method_107_code 1 .int 3 [.ref (G.1 111)] σ (nI (i + 1)) (up (ims (up σ 111 0 0) (607 + i) 528) 111 40 (nI (i + 1))) := by
  refine MI.of hG (by decide) (Nat.le_of_ble_eq_true rfl) (fun X hx hq => ?_)
  show J l G X 1 σ 0 [(0, .ref (G.1 111))] []
  refine j_aload_n hx d_Mo_image_0 rfl 0 rfl ?_
  refine j_iconst (v := 0) hx d_Mo_image_1 (by decide) ?_
  refine j_put hx ck_Mo 0 (by decide) t_1418 (by decide) (sh_111 _ _) rfl (Nat.le_of_ble_eq_true rfl) (sh_111 _ _) d_Mo_image_2 ?_
  refine j_aload_n hx d_Mo_image_5 rfl 0 rfl ?_
  refine j_get hx ck_Mo 40 (by decide) t_1458 (by decide) (sh_111 _ _) rfl d_Mo_image_6 ?_
  refine j_iconst (v := 3) hx d_Mo_image_9 (by decide) ?_
  refine j_icmp_ne (tgt := 15) hx d_Mo_image_10 (by decide) (fun zc10 => ?_) (fun zc10 => ?_)
  · skip
    refine j_aload_n hx d_Mo_image_15 rfl 0 rfl ?_
    refine j_aload_n hx d_Mo_image_16 rfl 0 rfl ?_
    refine j_get hx ck_Mo 36 (by decide) t_1454 (by decide) (sh_111 _ _) rfl d_Mo_image_17 ?_
    refine j_aload_n hx d_Mo_image_20 rfl 0 rfl ?_
    refine j_get hx ck_Mo 40 (by decide) t_1458 (by decide) (sh_111 _ _) rfl d_Mo_image_21 ?_
    have hz24_1 : zin ((up σ 111 0 0) 111 40) 3 i := by rw [him]; exact zin_nI hi3 (by decide)
    refine j_aaldk hx ias_kept.1.1 (ias_kept.2.1 _ _) hz24_1 d_Mo_image_24 ?_
    refine j_iconst (v := 0) hx d_Mo_image_25 (by decide) ?_
    refine j_callVv hx (c_Mo_putsAll0 hG (ias_kept.2.2 _ hz24_1.2) (up σ 111 0 0) 0 (by rfl) (by omega) (by omega)) mo_Mo_putsAll mv_Mo_putsAll t_1959 (by decide) rfl (by decide) (sh_111 _ _) rfl rfl (Nat.le_of_ble_eq_true rfl) d_Mo_image_26 ?_
    refine j_aload_n hx d_Mo_image_29 rfl 0 rfl ?_
    refine j_dup hx d_Mo_image_30 rfl ?_
    refine j_get hx ck_Mo 40 (by decide) t_1458 (by decide) (sh_111 _ _) rfl d_Mo_image_31 ?_
    refine j_iconst (v := 1) hx d_Mo_image_34 (by decide) ?_
    refine j_iadd hx d_Mo_image_35 ?_
    refine j_put hx ck_Mo 40 (by decide) t_1458 (by decide) (sh_111 _ _) rfl (Nat.le_of_ble_eq_true rfl) (sh_111 _ _) d_Mo_image_36 ?_
    obtain ⟨s9_1, eg_1⟩ : ∃ z : St, z = up (ims (up σ 111 0 0) (607 + i) 528) 111 40 (nI (i + 1)) := ⟨_, rfl⟩
    refine J.to (σ' := s9_1) (by rw [eg_1]; rw [ims_f (by omega) (by decide), him, nI_s]) rfl ?_
    refine j_aload_n hx d_Mo_image_39 rfl 0 rfl ?_
    refine j_get hx ck_Mo 40 (by decide) t_1458 (by decide) (sh_111 _ _) rfl d_Mo_image_40 ?_
    exact j_iret hx hq rfl d_Mo_image_43 (by first | (rw [eg_1, up_rd]) | fail) (by first | (rw [eg_1]) | fail)
  · exact absurd ((show nI i = nI 3 from him.symm.trans zc10)) (by rw [znI_eq (by omega) (by omega)]; omega)

set_option maxRecDepth 20000 in
set_option maxHeartbeats 4000000 in
theorem c_Mo_restore0 {l : Launch} {G : Gz} (hG : zI G) (σ : St) (him : (up σ 111 0 0) 111 40 = 0) : MI l G y_Mo_restore prog_14_method_108_code 1 .int 3 [.ref (G.1 111)] σ (-1) (t0 σ) := by
  refine MI.of hG (by decide) (Nat.le_of_ble_eq_true rfl) (fun X hx hq => ?_)
  show J l G X 1 σ 0 [(0, .ref (G.1 111))] []
  refine j_aload_n hx d_Mo_restore_0 rfl 0 rfl ?_
  refine j_iconst (v := 0) hx d_Mo_restore_1 (by decide) ?_
  refine j_put hx ck_Mo 0 (by decide) t_1418 (by decide) (sh_111 _ _) rfl (Nat.le_of_ble_eq_true rfl) (sh_111 _ _) d_Mo_restore_2 ?_
  refine j_aload_n hx d_Mo_restore_5 rfl 0 rfl ?_
  refine j_get hx ck_Mo 40 (by decide) t_1458 (by decide) (sh_111 _ _) rfl d_Mo_restore_6 ?_
  refine j_if_ne (tgt := 14) hx d_Mo_restore_9 (by decide) (fun zc9 => ?_) (fun zc9 => ?_)
  · exact absurd him zc9
  · skip
    refine j_iconst (v := (-1)) hx d_Mo_restore_12 (by decide) ?_
    exact j_iret hx hq rfl d_Mo_restore_13 (by first | (rfl) | fail) (by first | (rfl) | fail)

set_option maxRecDepth 20000 in
set_option maxHeartbeats 4000000 in
theorem c_Mo_restore1 {l : Launch} {G : Gz} (hG : zI G) (σ : St) (i : Nat) (hi3 : i < 3) (him : (up σ 111 0 0) 111 40 = nI (i + 1)) : MI l G y_Mo_restore prog_14_method_108_code 1 .int 3 [.ref (G.1 111)] σ (nI i) (up (rmS (up (up σ 111 0 0) 111 40 (nI i)) (607 + i)) 111 39 0) := by
  refine MI.of hG (by decide) (Nat.le_of_ble_eq_true rfl) (fun X hx hq => ?_)
  show J l G X 1 σ 0 [(0, .ref (G.1 111))] []
  refine j_aload_n hx d_Mo_restore_0 rfl 0 rfl ?_
  refine j_iconst (v := 0) hx d_Mo_restore_1 (by decide) ?_
  refine j_put hx ck_Mo 0 (by decide) t_1418 (by decide) (sh_111 _ _) rfl (Nat.le_of_ble_eq_true rfl) (sh_111 _ _) d_Mo_restore_2 ?_
  refine j_aload_n hx d_Mo_restore_5 rfl 0 rfl ?_
  refine j_get hx ck_Mo 40 (by decide) t_1458 (by decide) (sh_111 _ _) rfl d_Mo_restore_6 ?_
  refine j_if_ne (tgt := 14) hx d_Mo_restore_9 (by decide) (fun zc9 => ?_) (fun zc9 => ?_)
  · skip
    refine j_aload_n hx d_Mo_restore_14 rfl 0 rfl ?_
    refine j_dup hx d_Mo_restore_15 rfl ?_
    refine j_get hx ck_Mo 40 (by decide) t_1458 (by decide) (sh_111 _ _) rfl d_Mo_restore_16 ?_
    refine j_iconst (v := 1) hx d_Mo_restore_19 (by decide) ?_
    refine j_isub hx d_Mo_restore_20 ?_
    refine j_put hx ck_Mo 40 (by decide) t_1458 (by decide) (sh_111 _ _) rfl (Nat.le_of_ble_eq_true rfl) (sh_111 _ _) d_Mo_restore_21 ?_
    obtain ⟨s9_1, eg_1⟩ : ∃ z : St, z = up (up σ 111 0 0) 111 40 (nI i) := ⟨_, rfl⟩
    refine J.to (σ' := s9_1) (by rw [eg_1]; rw [him, nI_m1 (by omega)]) rfl ?_
    refine j_aload_n hx d_Mo_restore_24 rfl 0 rfl ?_
    refine j_aload_n hx d_Mo_restore_25 rfl 0 rfl ?_
    refine j_get hx ck_Mo 36 (by decide) t_1454 (by decide) (sh_111 _ _) rfl d_Mo_restore_26 ?_
    refine j_aload_n hx d_Mo_restore_29 rfl 0 rfl ?_
    refine j_get hx ck_Mo 40 (by decide) t_1458 (by decide) (sh_111 _ _) rfl d_Mo_restore_30 ?_
    have hz33_1 : zin (s9_1 111 40) 3 i := by rw [eg_1, up_rd]; exact zin_nI hi3 (by decide)
    refine j_aaldk hx ias_kept.1.1 (ias_kept.2.1 _ _) hz33_1 d_Mo_restore_33 ?_
    refine j_iconst (v := 1) hx d_Mo_restore_34 (by decide) ?_
    refine j_callVv hx (c_Mo_putsAll1 hG (ias_kept.2.2 _ hz33_1.2) s9_1 1 (by decide) (by omega) (by omega)) mo_Mo_putsAll mv_Mo_putsAll t_1959 (by decide) rfl (by decide) (sh_111 _ _) rfl rfl (Nat.le_of_ble_eq_true rfl) d_Mo_restore_35 ?_
    refine j_aload_n hx d_Mo_restore_38 rfl 0 rfl ?_
    refine j_iconst (v := 0) hx d_Mo_restore_39 (by decide) ?_
    refine j_put hx ck_Mo 39 (by decide) t_1457 (by decide) (sh_111 _ _) rfl (Nat.le_of_ble_eq_true rfl) (sh_111 _ _) d_Mo_restore_40 ?_
    refine j_aload_n hx d_Mo_restore_43 rfl 0 rfl ?_
    refine j_get hx ck_Mo 40 (by decide) t_1458 (by decide) (sh_111 _ _) rfl d_Mo_restore_44 ?_
    exact j_iret hx hq rfl d_Mo_restore_47 (by first | (rw [eg_1, up_k (by decide)]; exact rmS_40) | fail) (by first | (rw [eg_1]) | fail)
  · exact absurd ((show nI (i + 1) = nI 0 from him.symm.trans zc9)) (by rw [znI_eq (by omega) (by omega)]; omega)

set_option maxRecDepth 20000 in
set_option maxHeartbeats 4000000 in
theorem c_Mo_undo0 {l : Launch} {G : Gz} (hG : zI G) (σ : St) (him : (up σ 111 0 0) 111 38 = 0) : MI l G y_Mo_undo prog_14_method_61_code 1 .int 3 [.ref (G.1 111)] σ (-1) (t0 σ) := by
  refine MI.of hG (by decide) (Nat.le_of_ble_eq_true rfl) (fun X hx hq => ?_)
  show J l G X 1 σ 0 [(0, .ref (G.1 111))] []
  refine j_aload_n hx d_Mo_undo_0 rfl 0 rfl ?_
  refine j_iconst (v := 0) hx d_Mo_undo_1 (by decide) ?_
  refine j_put hx ck_Mo 0 (by decide) t_1418 (by decide) (sh_111 _ _) rfl (Nat.le_of_ble_eq_true rfl) (sh_111 _ _) d_Mo_undo_2 ?_
  refine j_aload_n hx d_Mo_undo_5 rfl 0 rfl ?_
  refine j_get hx ck_Mo 38 (by decide) t_1456 (by decide) (sh_111 _ _) rfl d_Mo_undo_6 ?_
  refine j_if_ne (tgt := 14) hx d_Mo_undo_9 (by decide) (fun zc9 => ?_) (fun zc9 => ?_)
  · exact absurd him zc9
  · skip
    refine j_iconst (v := (-1)) hx d_Mo_undo_12 (by decide) ?_
    exact j_iret hx hq rfl d_Mo_undo_13 (by first | (rfl) | fail) (by first | (rfl) | fail)

set_option maxRecDepth 20000 in
set_option maxHeartbeats 4000000 in
theorem c_Mo_undo1 {l : Launch} {G : Gz} (hG : zI G) (σ : St) (i : Nat) (hi3 : i < 16) (him : (up σ 111 0 0) 111 38 = nI (i + 1)) : MI l G y_Mo_undo prog_14_method_61_code 1 .int 3 [.ref (G.1 111)] σ (nI i) (und σ i) := by
  refine MI.of hG (by decide) (Nat.le_of_ble_eq_true rfl) (fun X hx hq => ?_)
  show J l G X 1 σ 0 [(0, .ref (G.1 111))] []
  refine j_aload_n hx d_Mo_undo_0 rfl 0 rfl ?_
  refine j_iconst (v := 0) hx d_Mo_undo_1 (by decide) ?_
  refine j_put hx ck_Mo 0 (by decide) t_1418 (by decide) (sh_111 _ _) rfl (Nat.le_of_ble_eq_true rfl) (sh_111 _ _) d_Mo_undo_2 ?_
  refine j_aload_n hx d_Mo_undo_5 rfl 0 rfl ?_
  refine j_get hx ck_Mo 38 (by decide) t_1456 (by decide) (sh_111 _ _) rfl d_Mo_undo_6 ?_
  refine j_if_ne (tgt := 14) hx d_Mo_undo_9 (by decide) (fun zc9 => ?_) (fun zc9 => ?_)
  · skip
    refine j_aload_n hx d_Mo_undo_14 rfl 0 rfl ?_
    refine j_dup hx d_Mo_undo_15 rfl ?_
    refine j_get hx ck_Mo 38 (by decide) t_1456 (by decide) (sh_111 _ _) rfl d_Mo_undo_16 ?_
    refine j_iconst (v := 1) hx d_Mo_undo_19 (by decide) ?_
    refine j_isub hx d_Mo_undo_20 ?_
    refine j_put hx ck_Mo 38 (by decide) t_1456 (by decide) (sh_111 _ _) rfl (Nat.le_of_ble_eq_true rfl) (sh_111 _ _) d_Mo_undo_21 ?_
    obtain ⟨s9_1, eg_1⟩ : ∃ z : St, z = up (up σ 111 0 0) 111 38 (nI i) := ⟨_, rfl⟩
    refine J.to (σ' := s9_1) (by rw [eg_1]; rw [him, nI_m1 (by omega)]) rfl ?_
    refine j_aload_n hx d_Mo_undo_24 rfl 0 rfl ?_
    refine j_get hx ck_Mo 35 (by decide) t_1453 (by decide) (sh_111 _ _) rfl d_Mo_undo_25 ?_
    refine j_aload_n hx d_Mo_undo_28 rfl 0 rfl ?_
    refine j_get hx ck_Mo 38 (by decide) t_1456 (by decide) (sh_111 _ _) rfl d_Mo_undo_29 ?_
    have hz32_1 : zin (s9_1 111 38) 16 i := by rw [eg_1, up_rd]; exact zin_nI hi3 (by decide)
    refine j_aaldk hx ias_before.1.1 (ias_before.2.1 _ _) hz32_1 d_Mo_undo_32 ?_
    refine j_aload_n hx d_Mo_undo_33 rfl 0 rfl ?_
    refine j_get hx ck_Mo 33 (by decide) t_1451 (by decide) (sh_111 _ _) rfl d_Mo_undo_34 ?_
    refine j_callSv hx (c_Mo_copies hG (ias_before.2.2 _ hz32_1.2) ia_122 s9_1 (by omega)) mo_Mo_copies t_1710 t_1709 (by decide) rfl rfl (Nat.le_of_ble_eq_true rfl) d_Mo_undo_37 ?_
    refine j_aload_n hx d_Mo_undo_40 rfl 0 rfl ?_
    refine j_iconst (v := 0) hx d_Mo_undo_41 (by decide) ?_
    refine j_put hx ck_Mo 39 (by decide) t_1457 (by decide) (sh_111 _ _) rfl (Nat.le_of_ble_eq_true rfl) (sh_111 _ _) d_Mo_undo_42 ?_
    refine j_aload_n hx d_Mo_undo_45 rfl 0 rfl ?_
    refine j_get hx ck_Mo 38 (by decide) t_1456 (by decide) (sh_111 _ _) rfl d_Mo_undo_46 ?_
    exact j_iret hx hq rfl d_Mo_undo_49 (by first | (rw [up_k (by decide), fl_o (by decide), eg_1, up_rd]) | fail) (by first | (rw [eg_1]; unfold und; rw [up_o (show 591 + i ≠ 111 by omega), up_o (show 591 + i ≠ 111 by omega)]) | fail)
  · exact absurd ((show nI (i + 1) = nI 0 from him.symm.trans zc9)) (by rw [znI_eq (by omega) (by omega)]; omega)

set_option maxRecDepth 20000 in
set_option maxHeartbeats 4000000 in
theorem c_Mo_feed0 {l : Launch} {G : Gz} (hG : zI G) (σ : St) (fa : Int32) (fb : Int32) (fc : Int32) (fd : Int32) (fe : Int32) (hf : ¬ (up σ 111 0 0) 111 1 + 20 ≤ 600) : MI l G y_Mo_feed prog_14_method_9_code 8 .int 1 [.ref (G.1 111), .int fa, .int fb, .int fc, .int fd, .int fe] σ (-1) (t0 σ) := by
  refine MI.of hG (by decide) (Nat.le_of_ble_eq_true rfl) (fun X hx hq => ?_)
  show J l G X 8 σ 0 [(0, .ref (G.1 111)), (1, .int fa), (2, .int fb), (3, .int fc), (4, .int fd), (5, .int fe)] []
  refine j_aload_n hx d_Mo_feed_0 rfl 0 rfl ?_
  refine j_iconst (v := 0) hx d_Mo_feed_1 (by decide) ?_
  refine j_put hx ck_Mo 0 (by decide) t_1418 (by decide) (sh_111 _ _) rfl (Nat.le_of_ble_eq_true rfl) (sh_111 _ _) d_Mo_feed_2 ?_
  refine j_aload_n hx d_Mo_feed_5 rfl 0 rfl ?_
  refine j_get hx ck_Mo 1 (by decide) t_1419 (by decide) (sh_111 _ _) rfl d_Mo_feed_6 ?_
  refine j_bipush (v := 20) hx d_Mo_feed_9 (by decide) ?_
  refine j_iadd hx d_Mo_feed_11 ?_
  refine j_sipush (v := 600) hx d_Mo_feed_12 (by decide) ?_
  refine j_icmp_le (tgt := 20) hx d_Mo_feed_15 (by decide) (fun zc15 => ?_) (fun zc15 => ?_)
  · exact absurd zc15 hf
  · skip
    refine j_iconst (v := (-1)) hx d_Mo_feed_18 (by decide) ?_
    exact j_iret hx hq rfl d_Mo_feed_19 (by first | (rfl) | fail) (by first | (rfl) | fail)

set_option maxRecDepth 20000 in
set_option maxHeartbeats 4000000 in
theorem c_Mo_feed1 {l : Launch} {G : Gz} (hG : zI G) (σ : St) (fa : Int32) (fb : Int32) (fc : Int32) (fd : Int32) (fe : Int32) (t : Nat) (hf : (up σ 111 0 0) 111 1 + 20 ≤ 600) (ht : (up σ 111 0 0) 111 1 = nI t) (ht2 : t + 20 ≤ 600) : MI l G y_Mo_feed prog_14_method_9_code 8 .int 1 [.ref (G.1 111), .int fa, .int fb, .int fc, .int fd, .int fe] σ (nI (t + 20)) (fdm (up σ 111 0 0) t (fby fa fb fc fd fe) 20) := by
  refine MI.of hG (by decide) (Nat.le_of_ble_eq_true rfl) (fun X hx hq => ?_)
  show J l G X 8 σ 0 [(0, .ref (G.1 111)), (1, .int fa), (2, .int fb), (3, .int fc), (4, .int fd), (5, .int fe)] []
  refine j_aload_n hx d_Mo_feed_0 rfl 0 rfl ?_
  refine j_iconst (v := 0) hx d_Mo_feed_1 (by decide) ?_
  refine j_put hx ck_Mo 0 (by decide) t_1418 (by decide) (sh_111 _ _) rfl (Nat.le_of_ble_eq_true rfl) (sh_111 _ _) d_Mo_feed_2 ?_
  refine j_aload_n hx d_Mo_feed_5 rfl 0 rfl ?_
  refine j_get hx ck_Mo 1 (by decide) t_1419 (by decide) (sh_111 _ _) rfl d_Mo_feed_6 ?_
  refine j_bipush (v := 20) hx d_Mo_feed_9 (by decide) ?_
  refine j_iadd hx d_Mo_feed_11 ?_
  refine j_sipush (v := 600) hx d_Mo_feed_12 (by decide) ?_
  refine j_icmp_le (tgt := 20) hx d_Mo_feed_15 (by decide) (fun zc15 => ?_) (fun zc15 => ?_)
  · skip
    refine j_iconst (v := 0) hx d_Mo_feed_20 (by decide) ?_
    refine j_istore hx [(6, .int 0), (0, .ref (G.1 111)), (1, .int fa), (2, .int fb), (3, .int fc), (4, .int fd), (5, .int fe)] d_Mo_feed_21 (by decide) rfl ?_
    have hl23 : ∀ (N9 : Nat) (i : Nat), (i ≤ 20) → 20 - i = N9 → J l G X 8 (fdm (up σ 111 0 0) t (fby fa fb fc fd fe) i) 23 [(0, .ref (G.1 111)), (1, .int fa), (2, .int fb), (3, .int fc), (4, .int fd), (5, .int fe), (6, .int (nI i))] [] := by
      intro N9
      induction N9 using Nat.strongRecOn with
      | _ N9 ih23 =>
        intro i hi_i hm23
        have h19 := fdm_1 (t := t) (n := i) (f := (fby fa fb fc fd fe)) ht
        refine j_iload hx d_Mo_feed_23 6 rfl ?_
        refine j_bipush (v := 20) hx d_Mo_feed_25 (by decide) ?_
        refine j_icmp_ge (tgt := 120) hx d_Mo_feed_27 (by decide) (fun zc27 => ?_) (fun zc27 => ?_)
        · skip
          obtain rfl := nt_end (n := 20) hi_i (by decide) zc27
          refine j_aload_n hx d_Mo_feed_120 rfl 0 rfl ?_
          refine j_get hx ck_Mo 1 (by decide) t_1419 (by decide) (sh_111 _ _) rfl d_Mo_feed_121 ?_
          exact j_iret hx hq rfl d_Mo_feed_124 (by first | (exact fdm_1 ht) | fail) (by first | (rfl) | fail)
        · skip
          have hlt23 := nt_go (n := 20) hi_i (by decide) zc27
          refine j_iload hx d_Mo_feed_30 6 rfl ?_
          refine j_iconst (v := 4) hx d_Mo_feed_32 (by decide) ?_
          refine j_icmp_ge (tgt := 40) hx d_Mo_feed_33 (by decide) (fun zc33 => ?_) (fun zc33 => ?_)
          · skip
            refine j_iload hx d_Mo_feed_40 6 rfl ?_
            refine j_bipush (v := 8) hx d_Mo_feed_42 (by decide) ?_
            refine j_icmp_ge (tgt := 51) hx d_Mo_feed_44 (by decide) (fun zc44 => ?_) (fun zc44 => ?_)
            · skip
              refine j_iload hx d_Mo_feed_51 6 rfl ?_
              refine j_bipush (v := 12) hx d_Mo_feed_53 (by decide) ?_
              refine j_icmp_ge (tgt := 62) hx d_Mo_feed_55 (by decide) (fun zc55 => ?_) (fun zc55 => ?_)
              · skip
                refine j_iload hx d_Mo_feed_62 6 rfl ?_
                refine j_bipush (v := 16) hx d_Mo_feed_64 (by decide) ?_
                refine j_icmp_ge (tgt := 74) hx d_Mo_feed_66 (by decide) (fun zc66 => ?_) (fun zc66 => ?_)
                · skip
                  refine j_iload hx d_Mo_feed_74 5 rfl ?_
                  refine j_istore hx [(7, .int fe), (0, .ref (G.1 111)), (1, .int fa), (2, .int fb), (3, .int fc), (4, .int fd), (5, .int fe), (6, .int (nI i))] d_Mo_feed_76 (by decide) rfl ?_
                  obtain ⟨w7, ew7⟩ : ∃ z : Int32, z = fbv fa fb fc fd fe i := ⟨_, rfl⟩
                  refine J.to (ls' := [(7, .int w7), (0, .ref (G.1 111)), (1, .int fa), (2, .int fb), (3, .int fc), (4, .int fd), (5, .int fe), (6, .int (nI i))]) rfl (by rw [ew7]; unfold fbv; first | (rw [if_pos (by have := i_nle zc33; have h2 : nI i < nI 4 := this; rw [znI_lt (by omega) (by omega)] at h2; exact h2)]; done) | (rw [if_neg (by have h2 : nI 4 ≤ nI i := zc33; rw [znI_le (by omega) (by omega)] at h2; omega)]; first | (rw [if_pos (by have h2 : nI i < nI 8 := i_nle zc44; rw [znI_lt (by omega) (by omega)] at h2; exact h2)]; done) | (rw [if_neg (by have h2 : nI 8 ≤ nI i := zc44; rw [znI_le (by omega) (by omega)] at h2; omega)]; first | (rw [if_pos (by have h2 : nI i < nI 12 := i_nle zc55; rw [znI_lt (by omega) (by omega)] at h2; exact h2)]; done) | (rw [if_neg (by have h2 : nI 12 ≤ nI i := zc55; rw [znI_le (by omega) (by omega)] at h2; omega)]; first | (rw [if_pos (by have h2 : nI i < nI 16 := i_nle zc66; rw [znI_lt (by omega) (by omega)] at h2; exact h2)]; done) | (rw [if_neg (by have h2 : nI 16 ≤ nI i := zc66; rw [znI_le (by omega) (by omega)] at h2; omega)]; done))))) ?_
                  refine j_aload_n hx d_Mo_feed_78 rfl 1 rfl ?_
                  refine j_get hx ck_Mo 9 (by decide) t_1427 (by decide) (sh_111 _ _) rfl d_Mo_feed_79 ?_
                  refine j_aload_n hx d_Mo_feed_82 rfl 1 rfl ?_
                  refine j_get hx ck_Mo 1 (by decide) t_1419 (by decide) (sh_111 _ _) rfl d_Mo_feed_83 ?_
                  refine j_iload hx d_Mo_feed_86 0 rfl ?_
                  refine j_bipush (v := 24) hx d_Mo_feed_88 (by decide) ?_
                  refine j_bipush (v := 8) hx d_Mo_feed_90 (by decide) ?_
                  refine j_iload hx d_Mo_feed_92 7 rfl ?_
                  refine j_iconst (v := 4) hx d_Mo_feed_94 (by decide) ?_
                  refine j_irem hx d_Mo_feed_95 (by decide) ?_
                  refine j_imul hx d_Mo_feed_96 ?_
                  refine j_isub hx d_Mo_feed_97 ?_
                  refine j_ishr hx d_Mo_feed_98 ?_
                  refine j_sipush (v := 255) hx d_Mo_feed_99 (by decide) ?_
                  refine j_iand hx d_Mo_feed_102 ?_
                  have hz103_1 : zin ((fdm (up σ 111 0 0) t (fby fa fb fc fd fe) i) 111 1) 600 ((t + i)) := by rw [h19]; exact zin_nI (by omega) (by decide)
                  refine j_iastk hx ia_112 hz103_1 d_Mo_feed_103 ?_
                  refine j_aload_n hx d_Mo_feed_104 rfl 1 rfl ?_
                  refine j_dup hx d_Mo_feed_105 rfl ?_
                  refine j_get hx ck_Mo 1 (by decide) t_1419 (by decide) (sh_111 _ _) rfl d_Mo_feed_106 ?_
                  refine j_iconst (v := 1) hx d_Mo_feed_109 (by decide) ?_
                  refine j_iadd hx d_Mo_feed_110 ?_
                  refine j_put hx ck_Mo 1 (by decide) t_1419 (by decide) (sh_111 _ _) rfl (Nat.le_of_ble_eq_true rfl) (sh_111 _ _) d_Mo_feed_111 ?_
                  refine j_iinc hx [(6, .int ((nI i) + 1)), (7, .int w7), (0, .ref (G.1 111)), (1, .int fa), (2, .int fb), (3, .int fc), (4, .int fd), (5, .int fe)] d_Mo_feed_114 7 rfl rfl (by decide) rfl ?_
                  refine j_goto (tgt := 23) hx d_Mo_feed_117 (by decide) ?_
                  refine J.lsub (ls' := [(0, .ref (G.1 111)), (1, .int fa), (2, .int fb), (3, .int fc), (4, .int fd), (5, .int fe), (6, .int ((nI i) + 1))]) [2, 3, 4, 5, 6, 7, 0] rfl ?_
                  refine J.to ?_ ?_ (ih23 _ ?_ (i + 1) hlt23 rfl)
                  · first | (rw [ew7, up_o (by decide), h19, nI_s]; rfl) | fail
                  · first | (simp only [nI_s]) | fail
                  · first | (omega) | fail
                · skip
                  refine j_iload hx d_Mo_feed_69 4 rfl ?_
                  refine j_goto (tgt := 76) hx d_Mo_feed_71 (by decide) ?_
                  refine j_istore hx [(7, .int fd), (0, .ref (G.1 111)), (1, .int fa), (2, .int fb), (3, .int fc), (4, .int fd), (5, .int fe), (6, .int (nI i))] d_Mo_feed_76 (by decide) rfl ?_
                  obtain ⟨w7, ew7⟩ : ∃ z : Int32, z = fbv fa fb fc fd fe i := ⟨_, rfl⟩
                  refine J.to (ls' := [(7, .int w7), (0, .ref (G.1 111)), (1, .int fa), (2, .int fb), (3, .int fc), (4, .int fd), (5, .int fe), (6, .int (nI i))]) rfl (by rw [ew7]; unfold fbv; first | (rw [if_pos (by have := i_nle zc33; have h2 : nI i < nI 4 := this; rw [znI_lt (by omega) (by omega)] at h2; exact h2)]; done) | (rw [if_neg (by have h2 : nI 4 ≤ nI i := zc33; rw [znI_le (by omega) (by omega)] at h2; omega)]; first | (rw [if_pos (by have h2 : nI i < nI 8 := i_nle zc44; rw [znI_lt (by omega) (by omega)] at h2; exact h2)]; done) | (rw [if_neg (by have h2 : nI 8 ≤ nI i := zc44; rw [znI_le (by omega) (by omega)] at h2; omega)]; first | (rw [if_pos (by have h2 : nI i < nI 12 := i_nle zc55; rw [znI_lt (by omega) (by omega)] at h2; exact h2)]; done) | (rw [if_neg (by have h2 : nI 12 ≤ nI i := zc55; rw [znI_le (by omega) (by omega)] at h2; omega)]; first | (rw [if_pos (by have h2 : nI i < nI 16 := i_nle zc66; rw [znI_lt (by omega) (by omega)] at h2; exact h2)]; done) | (rw [if_neg (by have h2 : nI 16 ≤ nI i := zc66; rw [znI_le (by omega) (by omega)] at h2; omega)]; done))))) ?_
                  refine j_aload_n hx d_Mo_feed_78 rfl 1 rfl ?_
                  refine j_get hx ck_Mo 9 (by decide) t_1427 (by decide) (sh_111 _ _) rfl d_Mo_feed_79 ?_
                  refine j_aload_n hx d_Mo_feed_82 rfl 1 rfl ?_
                  refine j_get hx ck_Mo 1 (by decide) t_1419 (by decide) (sh_111 _ _) rfl d_Mo_feed_83 ?_
                  refine j_iload hx d_Mo_feed_86 0 rfl ?_
                  refine j_bipush (v := 24) hx d_Mo_feed_88 (by decide) ?_
                  refine j_bipush (v := 8) hx d_Mo_feed_90 (by decide) ?_
                  refine j_iload hx d_Mo_feed_92 7 rfl ?_
                  refine j_iconst (v := 4) hx d_Mo_feed_94 (by decide) ?_
                  refine j_irem hx d_Mo_feed_95 (by decide) ?_
                  refine j_imul hx d_Mo_feed_96 ?_
                  refine j_isub hx d_Mo_feed_97 ?_
                  refine j_ishr hx d_Mo_feed_98 ?_
                  refine j_sipush (v := 255) hx d_Mo_feed_99 (by decide) ?_
                  refine j_iand hx d_Mo_feed_102 ?_
                  have hz103_2 : zin ((fdm (up σ 111 0 0) t (fby fa fb fc fd fe) i) 111 1) 600 ((t + i)) := by rw [h19]; exact zin_nI (by omega) (by decide)
                  refine j_iastk hx ia_112 hz103_2 d_Mo_feed_103 ?_
                  refine j_aload_n hx d_Mo_feed_104 rfl 1 rfl ?_
                  refine j_dup hx d_Mo_feed_105 rfl ?_
                  refine j_get hx ck_Mo 1 (by decide) t_1419 (by decide) (sh_111 _ _) rfl d_Mo_feed_106 ?_
                  refine j_iconst (v := 1) hx d_Mo_feed_109 (by decide) ?_
                  refine j_iadd hx d_Mo_feed_110 ?_
                  refine j_put hx ck_Mo 1 (by decide) t_1419 (by decide) (sh_111 _ _) rfl (Nat.le_of_ble_eq_true rfl) (sh_111 _ _) d_Mo_feed_111 ?_
                  refine j_iinc hx [(6, .int ((nI i) + 1)), (7, .int w7), (0, .ref (G.1 111)), (1, .int fa), (2, .int fb), (3, .int fc), (4, .int fd), (5, .int fe)] d_Mo_feed_114 7 rfl rfl (by decide) rfl ?_
                  refine j_goto (tgt := 23) hx d_Mo_feed_117 (by decide) ?_
                  refine J.lsub (ls' := [(0, .ref (G.1 111)), (1, .int fa), (2, .int fb), (3, .int fc), (4, .int fd), (5, .int fe), (6, .int ((nI i) + 1))]) [2, 3, 4, 5, 6, 7, 0] rfl ?_
                  refine J.to ?_ ?_ (ih23 _ ?_ (i + 1) hlt23 rfl)
                  · first | (rw [ew7, up_o (by decide), h19, nI_s]; rfl) | fail
                  · first | (simp only [nI_s]) | fail
                  · first | (omega) | fail
              · skip
                refine j_iload_n hx d_Mo_feed_58 rfl 3 rfl ?_
                refine j_goto (tgt := 76) hx d_Mo_feed_59 (by decide) ?_
                refine j_istore hx [(7, .int fc), (0, .ref (G.1 111)), (1, .int fa), (2, .int fb), (3, .int fc), (4, .int fd), (5, .int fe), (6, .int (nI i))] d_Mo_feed_76 (by decide) rfl ?_
                obtain ⟨w7, ew7⟩ : ∃ z : Int32, z = fbv fa fb fc fd fe i := ⟨_, rfl⟩
                refine J.to (ls' := [(7, .int w7), (0, .ref (G.1 111)), (1, .int fa), (2, .int fb), (3, .int fc), (4, .int fd), (5, .int fe), (6, .int (nI i))]) rfl (by rw [ew7]; unfold fbv; first | (rw [if_pos (by have := i_nle zc33; have h2 : nI i < nI 4 := this; rw [znI_lt (by omega) (by omega)] at h2; exact h2)]; done) | (rw [if_neg (by have h2 : nI 4 ≤ nI i := zc33; rw [znI_le (by omega) (by omega)] at h2; omega)]; first | (rw [if_pos (by have h2 : nI i < nI 8 := i_nle zc44; rw [znI_lt (by omega) (by omega)] at h2; exact h2)]; done) | (rw [if_neg (by have h2 : nI 8 ≤ nI i := zc44; rw [znI_le (by omega) (by omega)] at h2; omega)]; first | (rw [if_pos (by have h2 : nI i < nI 12 := i_nle zc55; rw [znI_lt (by omega) (by omega)] at h2; exact h2)]; done) | (rw [if_neg (by have h2 : nI 12 ≤ nI i := zc55; rw [znI_le (by omega) (by omega)] at h2; omega)]; first | (rw [if_pos (by have h2 : nI i < nI 16 := i_nle zc66; rw [znI_lt (by omega) (by omega)] at h2; exact h2)]; done) | (rw [if_neg (by have h2 : nI 16 ≤ nI i := zc66; rw [znI_le (by omega) (by omega)] at h2; omega)]; done))))) ?_
                refine j_aload_n hx d_Mo_feed_78 rfl 1 rfl ?_
                refine j_get hx ck_Mo 9 (by decide) t_1427 (by decide) (sh_111 _ _) rfl d_Mo_feed_79 ?_
                refine j_aload_n hx d_Mo_feed_82 rfl 1 rfl ?_
                refine j_get hx ck_Mo 1 (by decide) t_1419 (by decide) (sh_111 _ _) rfl d_Mo_feed_83 ?_
                refine j_iload hx d_Mo_feed_86 0 rfl ?_
                refine j_bipush (v := 24) hx d_Mo_feed_88 (by decide) ?_
                refine j_bipush (v := 8) hx d_Mo_feed_90 (by decide) ?_
                refine j_iload hx d_Mo_feed_92 7 rfl ?_
                refine j_iconst (v := 4) hx d_Mo_feed_94 (by decide) ?_
                refine j_irem hx d_Mo_feed_95 (by decide) ?_
                refine j_imul hx d_Mo_feed_96 ?_
                refine j_isub hx d_Mo_feed_97 ?_
                refine j_ishr hx d_Mo_feed_98 ?_
                refine j_sipush (v := 255) hx d_Mo_feed_99 (by decide) ?_
                refine j_iand hx d_Mo_feed_102 ?_
                have hz103_3 : zin ((fdm (up σ 111 0 0) t (fby fa fb fc fd fe) i) 111 1) 600 ((t + i)) := by rw [h19]; exact zin_nI (by omega) (by decide)
                refine j_iastk hx ia_112 hz103_3 d_Mo_feed_103 ?_
                refine j_aload_n hx d_Mo_feed_104 rfl 1 rfl ?_
                refine j_dup hx d_Mo_feed_105 rfl ?_
                refine j_get hx ck_Mo 1 (by decide) t_1419 (by decide) (sh_111 _ _) rfl d_Mo_feed_106 ?_
                refine j_iconst (v := 1) hx d_Mo_feed_109 (by decide) ?_
                refine j_iadd hx d_Mo_feed_110 ?_
                refine j_put hx ck_Mo 1 (by decide) t_1419 (by decide) (sh_111 _ _) rfl (Nat.le_of_ble_eq_true rfl) (sh_111 _ _) d_Mo_feed_111 ?_
                refine j_iinc hx [(6, .int ((nI i) + 1)), (7, .int w7), (0, .ref (G.1 111)), (1, .int fa), (2, .int fb), (3, .int fc), (4, .int fd), (5, .int fe)] d_Mo_feed_114 7 rfl rfl (by decide) rfl ?_
                refine j_goto (tgt := 23) hx d_Mo_feed_117 (by decide) ?_
                refine J.lsub (ls' := [(0, .ref (G.1 111)), (1, .int fa), (2, .int fb), (3, .int fc), (4, .int fd), (5, .int fe), (6, .int ((nI i) + 1))]) [2, 3, 4, 5, 6, 7, 0] rfl ?_
                refine J.to ?_ ?_ (ih23 _ ?_ (i + 1) hlt23 rfl)
                · first | (rw [ew7, up_o (by decide), h19, nI_s]; rfl) | fail
                · first | (simp only [nI_s]) | fail
                · first | (omega) | fail
            · skip
              refine j_iload_n hx d_Mo_feed_47 rfl 2 rfl ?_
              refine j_goto (tgt := 76) hx d_Mo_feed_48 (by decide) ?_
              refine j_istore hx [(7, .int fb), (0, .ref (G.1 111)), (1, .int fa), (2, .int fb), (3, .int fc), (4, .int fd), (5, .int fe), (6, .int (nI i))] d_Mo_feed_76 (by decide) rfl ?_
              obtain ⟨w7, ew7⟩ : ∃ z : Int32, z = fbv fa fb fc fd fe i := ⟨_, rfl⟩
              refine J.to (ls' := [(7, .int w7), (0, .ref (G.1 111)), (1, .int fa), (2, .int fb), (3, .int fc), (4, .int fd), (5, .int fe), (6, .int (nI i))]) rfl (by rw [ew7]; unfold fbv; first | (rw [if_pos (by have := i_nle zc33; have h2 : nI i < nI 4 := this; rw [znI_lt (by omega) (by omega)] at h2; exact h2)]; done) | (rw [if_neg (by have h2 : nI 4 ≤ nI i := zc33; rw [znI_le (by omega) (by omega)] at h2; omega)]; first | (rw [if_pos (by have h2 : nI i < nI 8 := i_nle zc44; rw [znI_lt (by omega) (by omega)] at h2; exact h2)]; done) | (rw [if_neg (by have h2 : nI 8 ≤ nI i := zc44; rw [znI_le (by omega) (by omega)] at h2; omega)]; first | (rw [if_pos (by have h2 : nI i < nI 12 := i_nle zc55; rw [znI_lt (by omega) (by omega)] at h2; exact h2)]; done) | (rw [if_neg (by have h2 : nI 12 ≤ nI i := zc55; rw [znI_le (by omega) (by omega)] at h2; omega)]; first | (rw [if_pos (by have h2 : nI i < nI 16 := i_nle zc66; rw [znI_lt (by omega) (by omega)] at h2; exact h2)]; done) | (rw [if_neg (by have h2 : nI 16 ≤ nI i := zc66; rw [znI_le (by omega) (by omega)] at h2; omega)]; done))))) ?_
              refine j_aload_n hx d_Mo_feed_78 rfl 1 rfl ?_
              refine j_get hx ck_Mo 9 (by decide) t_1427 (by decide) (sh_111 _ _) rfl d_Mo_feed_79 ?_
              refine j_aload_n hx d_Mo_feed_82 rfl 1 rfl ?_
              refine j_get hx ck_Mo 1 (by decide) t_1419 (by decide) (sh_111 _ _) rfl d_Mo_feed_83 ?_
              refine j_iload hx d_Mo_feed_86 0 rfl ?_
              refine j_bipush (v := 24) hx d_Mo_feed_88 (by decide) ?_
              refine j_bipush (v := 8) hx d_Mo_feed_90 (by decide) ?_
              refine j_iload hx d_Mo_feed_92 7 rfl ?_
              refine j_iconst (v := 4) hx d_Mo_feed_94 (by decide) ?_
              refine j_irem hx d_Mo_feed_95 (by decide) ?_
              refine j_imul hx d_Mo_feed_96 ?_
              refine j_isub hx d_Mo_feed_97 ?_
              refine j_ishr hx d_Mo_feed_98 ?_
              refine j_sipush (v := 255) hx d_Mo_feed_99 (by decide) ?_
              refine j_iand hx d_Mo_feed_102 ?_
              have hz103_4 : zin ((fdm (up σ 111 0 0) t (fby fa fb fc fd fe) i) 111 1) 600 ((t + i)) := by rw [h19]; exact zin_nI (by omega) (by decide)
              refine j_iastk hx ia_112 hz103_4 d_Mo_feed_103 ?_
              refine j_aload_n hx d_Mo_feed_104 rfl 1 rfl ?_
              refine j_dup hx d_Mo_feed_105 rfl ?_
              refine j_get hx ck_Mo 1 (by decide) t_1419 (by decide) (sh_111 _ _) rfl d_Mo_feed_106 ?_
              refine j_iconst (v := 1) hx d_Mo_feed_109 (by decide) ?_
              refine j_iadd hx d_Mo_feed_110 ?_
              refine j_put hx ck_Mo 1 (by decide) t_1419 (by decide) (sh_111 _ _) rfl (Nat.le_of_ble_eq_true rfl) (sh_111 _ _) d_Mo_feed_111 ?_
              refine j_iinc hx [(6, .int ((nI i) + 1)), (7, .int w7), (0, .ref (G.1 111)), (1, .int fa), (2, .int fb), (3, .int fc), (4, .int fd), (5, .int fe)] d_Mo_feed_114 7 rfl rfl (by decide) rfl ?_
              refine j_goto (tgt := 23) hx d_Mo_feed_117 (by decide) ?_
              refine J.lsub (ls' := [(0, .ref (G.1 111)), (1, .int fa), (2, .int fb), (3, .int fc), (4, .int fd), (5, .int fe), (6, .int ((nI i) + 1))]) [2, 3, 4, 5, 6, 7, 0] rfl ?_
              refine J.to ?_ ?_ (ih23 _ ?_ (i + 1) hlt23 rfl)
              · first | (rw [ew7, up_o (by decide), h19, nI_s]; rfl) | fail
              · first | (simp only [nI_s]) | fail
              · first | (omega) | fail
          · skip
            refine j_iload_n hx d_Mo_feed_36 rfl 1 rfl ?_
            refine j_goto (tgt := 76) hx d_Mo_feed_37 (by decide) ?_
            refine j_istore hx [(7, .int fa), (0, .ref (G.1 111)), (1, .int fa), (2, .int fb), (3, .int fc), (4, .int fd), (5, .int fe), (6, .int (nI i))] d_Mo_feed_76 (by decide) rfl ?_
            obtain ⟨w7, ew7⟩ : ∃ z : Int32, z = fbv fa fb fc fd fe i := ⟨_, rfl⟩
            refine J.to (ls' := [(7, .int w7), (0, .ref (G.1 111)), (1, .int fa), (2, .int fb), (3, .int fc), (4, .int fd), (5, .int fe), (6, .int (nI i))]) rfl (by rw [ew7]; unfold fbv; first | (rw [if_pos (by have := i_nle zc33; have h2 : nI i < nI 4 := this; rw [znI_lt (by omega) (by omega)] at h2; exact h2)]; done) | (rw [if_neg (by have h2 : nI 4 ≤ nI i := zc33; rw [znI_le (by omega) (by omega)] at h2; omega)]; first | (rw [if_pos (by have h2 : nI i < nI 8 := i_nle zc44; rw [znI_lt (by omega) (by omega)] at h2; exact h2)]; done) | (rw [if_neg (by have h2 : nI 8 ≤ nI i := zc44; rw [znI_le (by omega) (by omega)] at h2; omega)]; first | (rw [if_pos (by have h2 : nI i < nI 12 := i_nle zc55; rw [znI_lt (by omega) (by omega)] at h2; exact h2)]; done) | (rw [if_neg (by have h2 : nI 12 ≤ nI i := zc55; rw [znI_le (by omega) (by omega)] at h2; omega)]; first | (rw [if_pos (by have h2 : nI i < nI 16 := i_nle zc66; rw [znI_lt (by omega) (by omega)] at h2; exact h2)]; done) | (rw [if_neg (by have h2 : nI 16 ≤ nI i := zc66; rw [znI_le (by omega) (by omega)] at h2; omega)]; done))))) ?_
            refine j_aload_n hx d_Mo_feed_78 rfl 1 rfl ?_
            refine j_get hx ck_Mo 9 (by decide) t_1427 (by decide) (sh_111 _ _) rfl d_Mo_feed_79 ?_
            refine j_aload_n hx d_Mo_feed_82 rfl 1 rfl ?_
            refine j_get hx ck_Mo 1 (by decide) t_1419 (by decide) (sh_111 _ _) rfl d_Mo_feed_83 ?_
            refine j_iload hx d_Mo_feed_86 0 rfl ?_
            refine j_bipush (v := 24) hx d_Mo_feed_88 (by decide) ?_
            refine j_bipush (v := 8) hx d_Mo_feed_90 (by decide) ?_
            refine j_iload hx d_Mo_feed_92 7 rfl ?_
            refine j_iconst (v := 4) hx d_Mo_feed_94 (by decide) ?_
            refine j_irem hx d_Mo_feed_95 (by decide) ?_
            refine j_imul hx d_Mo_feed_96 ?_
            refine j_isub hx d_Mo_feed_97 ?_
            refine j_ishr hx d_Mo_feed_98 ?_
            refine j_sipush (v := 255) hx d_Mo_feed_99 (by decide) ?_
            refine j_iand hx d_Mo_feed_102 ?_
            have hz103_5 : zin ((fdm (up σ 111 0 0) t (fby fa fb fc fd fe) i) 111 1) 600 ((t + i)) := by rw [h19]; exact zin_nI (by omega) (by decide)
            refine j_iastk hx ia_112 hz103_5 d_Mo_feed_103 ?_
            refine j_aload_n hx d_Mo_feed_104 rfl 1 rfl ?_
            refine j_dup hx d_Mo_feed_105 rfl ?_
            refine j_get hx ck_Mo 1 (by decide) t_1419 (by decide) (sh_111 _ _) rfl d_Mo_feed_106 ?_
            refine j_iconst (v := 1) hx d_Mo_feed_109 (by decide) ?_
            refine j_iadd hx d_Mo_feed_110 ?_
            refine j_put hx ck_Mo 1 (by decide) t_1419 (by decide) (sh_111 _ _) rfl (Nat.le_of_ble_eq_true rfl) (sh_111 _ _) d_Mo_feed_111 ?_
            refine j_iinc hx [(6, .int ((nI i) + 1)), (7, .int w7), (0, .ref (G.1 111)), (1, .int fa), (2, .int fb), (3, .int fc), (4, .int fd), (5, .int fe)] d_Mo_feed_114 7 rfl rfl (by decide) rfl ?_
            refine j_goto (tgt := 23) hx d_Mo_feed_117 (by decide) ?_
            refine J.lsub (ls' := [(0, .ref (G.1 111)), (1, .int fa), (2, .int fb), (3, .int fc), (4, .int fd), (5, .int fe), (6, .int ((nI i) + 1))]) [2, 3, 4, 5, 6, 7, 0] rfl ?_
            refine J.to ?_ ?_ (ih23 _ ?_ (i + 1) hlt23 rfl)
            · first | (rw [ew7, up_o (by decide), h19, nI_s]; rfl) | fail
            · first | (simp only [nI_s]) | fail
            · first | (omega) | fail
    refine J.lsub (ls' := [(0, .ref (G.1 111)), (1, .int fa), (2, .int fb), (3, .int fc), (4, .int fd), (5, .int fe), (6, .int 0)]) [1, 2, 3, 4, 5, 6, 0] rfl ?_
    refine J.to ?_ ?_ (hl23 _ 0 (Nat.zero_le _) rfl)
    · first | (rfl) | fail
    · first | (first | rfl | (simp only [nI_s]; done) | (simp only [nI_s, it_s]; done) | (simp [nI_s, it_s, zc15]; done)) | fail
  · exact absurd hf zc15

