/-! ===== steps: steps 32, rows 511 .. ===== -/
abbrev sN (t : St) : Nat := (t 111 32).toInt.toNat
def pW (t : St) : Prop := pB t ∧ (t 111 2).toInt ≤ 150 ∧ (t 111 5 = 0 → 0 ≤ (t 111 32).toInt ∧ 2 * (t 111 32).toInt ≤ (t 111 4).toInt) ∧ ((0 ≤ (t 115 2).toInt ∧ (t 115 2).toInt ≤ 3) ∧ (0 ≤ (t 115 3).toInt ∧ (t 115 3).toInt ≤ 6)) ∧ ∀ s, s < 80 → 0 ≤ (t (511 + s) 1).toInt
/-- t' comes from t by reading steps: rows below r stand, a bytes gained, two for each step and g more -/
def okq (r : Nat) (a g : Int) (t u : St) : Prop := pB u ∧ u 111 2 = t 111 2 ∧ u 111 8 = t 111 8 ∧ (∀ o, o ≠ 111 → (o < 511 ∨ 591 ≤ o) → u o = t o) ∧ ((∀ s, s < 80 → 0 ≤ (t (511 + s) 1).toInt) → ∀ s, s < 80 → 0 ≤ (u (511 + s) 1).toInt) ∧ (u 111 5 = 0 → t 111 5 = 0 ∧ (t 111 32).toInt ≤ (u 111 32).toInt ∧ (t 111 4).toInt + a ≤ (u 111 4).toInt ∧ 2 * (u 111 32).toInt + (t 111 4).toInt + g ≤ 2 * (t 111 32).toInt + (u 111 4).toInt ∧ ∀ s, s < r → u (511 + s) = t (511 + s))
theorem okq.rf {r : Nat} {t : St} (h : pB t) : okq r 0 0 t t := ⟨h, rfl, rfl, fun _ _ _ => rfl, id, fun z => ⟨z, by omega, by omega, by omega, fun _ _ => rfl⟩⟩
theorem okq.tr {r : Nat} {a g a' g' : Int} {t u v : St} (h : okq r a g t u) (h2 : okq r a' g' u v) : okq r (a + a') (g + g') t v := by
  refine ⟨h2.1, h2.2.1.trans h.2.1, h2.2.2.1.trans h.2.2.1, fun o p q => (h2.2.2.2.1 o p q).trans (h.2.2.2.1 o p q), fun z => h2.2.2.2.2.1 (h.2.2.2.2.1 z), fun z => ?_⟩
  obtain ⟨p, q, x, s, f⟩ := h2.2.2.2.2.2 z
  obtain ⟨p', q', x', s', f'⟩ := h.2.2.2.2.2 p
  exact ⟨p', by omega, by omega, by omega, fun i hi => (f i hi).trans (f' i hi)⟩
theorem okq.wk {r r' : Nat} {a g a' g' : Int} {t u : St} (h : okq r a g t u) (hr : r' ≤ r) (ha : a' ≤ a) (hg : g' ≤ g) : okq r' a' g' t u := by
  refine ⟨h.1, h.2.1, h.2.2.1, h.2.2.2.1, h.2.2.2.2.1, fun z => ?_⟩
  obtain ⟨p, q, x, s, f⟩ := h.2.2.2.2.2 z
  exact ⟨p, by omega, by omega, by omega, fun i hi => f i (by omega)⟩
theorem okq.tr2 {r : Nat} {a g a' g' : Int} {t u v : St} (h : okq r a g t u) (h2 : okq (sN u) a' g' u v) (hr : r ≤ sN t) : okq r (a + a') (g + g') t v := by
  have hr' : r ≤ (t 111 32).toInt.toNat := hr
  refine ⟨h2.1, h2.2.1.trans h.2.1, h2.2.2.1.trans h.2.2.1, fun o p q => (h2.2.2.2.1 o p q).trans (h.2.2.2.1 o p q), fun z => h2.2.2.2.2.1 (h.2.2.2.2.1 z), fun z => ?_⟩
  obtain ⟨p, q, x, s, f⟩ := h2.2.2.2.2.2 z
  obtain ⟨p', q', x', s', f'⟩ := h.2.2.2.2.2 p
  exact ⟨p', by omega, by omega, by omega, fun i hi => (f i (by show i < (u 111 32).toInt.toNat; omega)).trans (f' i hi)⟩
theorem okr.q {r : Nat} {g : Int} {t u : St} (h : okr g t u) (h8 : u 111 8 = t 111 8) (h32 : u 111 32 = t 111 32) (ho : ∀ o, o ≠ 111 → u o = t o) : okq r g g t u := by
  refine ⟨h.1, h.2.1, h8, fun o p _ => ho o p, fun z s hs => by rw [ho _ (by omega)]; exact z s hs, fun z => ?_⟩
  obtain ⟨p, q⟩ := h.2.2 z
  exact ⟨p, by rw [h32]; omega, q, by rw [h32]; omega, fun s _ => ho _ (by omega)⟩
theorem okq.pW {r : Nat} {a g : Int} {t u : St} (h : okq r a g t u) (hW : pW t) (hg : 0 ≤ g) : pW u := by
  refine ⟨h.1, by rw [h.2.1]; exact hW.2.1, fun z => ?_, by rw [h.2.2.2.1 115 (by decide) (by decide)]; exact hW.2.2.2.1, h.2.2.2.2.1 hW.2.2.2.2⟩
  obtain ⟨p, q, x, s, f⟩ := h.2.2.2.2.2 z
  have := hW.2.2.1 p
  exact ⟨by omega, by omega⟩
theorem mbl_q {r : Nat} {t : St} (h : pB t) : okq r 0 0 t (mbl t) := okr.q (okr_bl h) (mbl_k (by decide)) (mbl_k (by decide)) (fun _ p => mbl_o p)
theorem mbz_o2 {t : St} {o : Nat} (h : o ≠ 111) : mbz t o = t o := by
  unfold mbz; split
  · exact mbl_o h
  · rfl
theorem mbz_q {r : Nat} {t : St} (h : pB t) : okq r 0 0 t (mbz t) := by
  unfold mbz; split
  · exact mbl_q h
  · exact okq.rf h
theorem msk_o {t : St} {o : Nat} (h : o ≠ 111) : msk t o = t o := by unfold msk; exact up_o h
theorem msk_q1 {r : Nat} {t : St} (h : pB t) (hw : ¬ wlen (t 111 2) (t 112) (t 111 4) = 0) : okq r 1 1 t (msk t) := okr.q (okr_sk1 h hw) (msk_k (by decide)) (msk_k (by decide)) (fun _ p => msk_o p)
theorem msg_q {r : Nat} {t : St} {c : Int32} (h : pB t) (h0 : 0 ≤ c) : okq r 1 1 t (msg t c) := okr.q (okr_sg h h0) (msg_k (by decide) (by decide) (by decide)) (msg_k (by decide) (by decide) (by decide)) (fun _ p => msg_o p)
theorem mnS_q {r : Nat} {t : St} {lo hi : Int32} (h : pB t) : okq r 1 1 t (mnS t lo hi) := okr.q (okr_nu h) (mnS_k (by decide) (by decide) (by decide)) (mnS_k (by decide) (by decide) (by decide)) (fun _ p => mnS_o p)
theorem mnV_rng {t : St} {hi : Int32} : 0 ≤ (mnV t 0 hi).toInt ∧ (mnV t 0 hi = 0 ∨ (mnV t 0 hi).toInt ≤ hi.toInt) := by
  unfold mnV
  split
  · split
    · rename_i h
      have hb : ¬ b2 ((0 : Int32) ≤ mnv (mn1 t) ∧ mnv (mn1 t) ≤ hi) = 0 := fun z => by
        unfold mn3 at h; rw [if_pos z] at h; exact absurd h (wr_5 (by decide))
      obtain ⟨p, q⟩ := b2_nz hb
      rw [i_le] at p q
      exact ⟨p, Or.inr q⟩
    · exact ⟨by decide, Or.inl rfl⟩
  · exact ⟨by decide, Or.inl rfl⟩
theorem okq_up {r i k : Nat} {a g : Int} {t u : St} {v : Int32} (h : okq r a g t u) (hr : r ≤ i) (hi : i < 80) (hv : k = 1 → 0 ≤ v.toInt) : okq r a g t (up u (511 + i) k v) := by
  have e : (up u (511 + i) k v) 111 = u 111 := up_o (show 111 ≠ 511 + i by omega)
  refine ⟨by have := h.1; unfold pB at *; rw [e]; exact this, by rw [e]; exact h.2.1, by rw [e]; exact h.2.2.1, fun o p q => by rw [up_o (show o ≠ 511 + i by omega)]; exact h.2.2.2.1 o p q, fun z s hs => ?_, fun z => ?_⟩
  · have h9 := h.2.2.2.2.1 z s hs
    by_cases hq : s = i
    · subst hq
      by_cases h1 : k = 1
      · subst h1; rw [up_rd]; exact hv rfl
      · rw [up_k (Ne.symm h1)]; exact h9
    · rw [up_o (show 511 + s ≠ 511 + i by omega)]; exact h9
  · rw [e] at z ⊢
    obtain ⟨p, q, x, s, f⟩ := h.2.2.2.2.2 z
    exact ⟨p, q, x, s, fun j hj => by rw [up_o (show 511 + j ≠ 511 + i by omega)]; exact f j hj⟩
theorem mnO_q {r i k : Nat} {a g : Int} {t u : St} {hi : Int32} (h : okq r a g t u) (hr : r ≤ i) (hi8 : i < 80) : okq r (a + 1) (g + 1) t (mnO u (511 + i) k 0 hi) := by
  unfold mnO; exact okq_up (okq.tr h (mnS_q h.1)) hr hi8 (fun _ => mnV_rng.1)
theorem okq_st {r : Nat} {a g : Int} {t u : St} (h : okq r a g t u) (hs : u 111 5 = 0 → 0 ≤ (u 111 32).toInt ∧ (u 111 32).toInt < 80) : okq r a (g - 2) t (up u 111 32 (u 111 32 + 1)) := by
  have e : ∀ k, k ≠ 32 → (up u 111 32 (u 111 32 + 1)) 111 k = u 111 k := fun k hk => up_k hk
  refine ⟨by have := h.1; unfold pB at *; rw [e 4 (by decide), e 2 (by decide)]; exact this, by rw [e 2 (by decide)]; exact h.2.1, by rw [e 8 (by decide)]; exact h.2.2.1, fun o p q => by rw [up_o p]; exact h.2.2.2.1 o p q, fun z s hs => by rw [up_o (by omega)]; exact h.2.2.2.2.1 z s hs, fun z => ?_⟩
  rw [e 5 (by decide)] at z
  have h9 := hs z
  have e2 : (u 111 32 + 1).toInt = (u 111 32).toInt + 1 := i_add rfl rfl (by omega) (by omega)
  obtain ⟨p, q, x, s, f⟩ := h.2.2.2.2.2 z
  rw [up_rd, e 4 (by decide), e2]
  exact ⟨p, by omega, by omega, by omega, fun j hj => by rw [up_o (by omega)]; exact f j hj⟩
theorem okq_par {r : Nat} {a g : Int} {u v : St} (h : ¬ b2 (mop u 111 5 = 0) = 0) (hv : okq r a g (mop u) v) : okq r a g u (mcl8 v) := by
  have hm := (mop_1 h).2.2
  have h8 : (mop u) 111 8 = u 111 8 + 1 := by rw [hm, up_rd]
  have e : ∀ k, k ≠ 8 → mop u 111 k = u 111 k := fun k hk => by rw [hm, up_k hk]
  have eo : ∀ o, o ≠ 111 → mop u o = u o := fun o ho => by rw [hm, up_o ho]
  have f : ∀ k, k ≠ 8 → mcl8 v 111 k = v 111 k := fun k hk => up_k hk
  have fo : ∀ o, o ≠ 111 → mcl8 v o = v o := fun o ho => up_o ho
  refine ⟨?_, ?_, ?_, fun o p q => by rw [fo o p, hv.2.2.2.1 o p q, eo o p], fun z s hs => ?_, fun z => ?_⟩
  · have := hv.1; unfold pB at *; rw [f 4 (by decide), f 2 (by decide)]; exact this
  · rw [f 2 (by decide), hv.2.1, e 2 (by decide)]
  · unfold mcl8; rw [up_rd, hv.2.2.1, h8]; exact Int32.add_sub_cancel _ _
  · rw [fo _ (by omega)]; exact hv.2.2.2.2.1 (fun j hj => by rw [eo _ (by omega)]; exact z j hj) s hs
  · rw [f 5 (by decide)] at z
    obtain ⟨p, q, x, s, w⟩ := hv.2.2.2.2.2 z
    rw [e 5 (by decide)] at p; rw [e 32 (by decide)] at q s; rw [e 4 (by decide)] at x s
    rw [f 32 (by decide), f 4 (by decide)]
    exact ⟨p, q, x, s, fun j hj => by rw [fo _ (by omega), w j hj, eo _ (by omega)]⟩
/-! nests -/
theorem gok_fr {σ t : St} : ∀ (d a b : Nat), (∀ s, a ≤ s → s < b → t (511 + s) = σ (511 + s)) → gok σ d a b → gok t d a b := by
  intro d
  induction d with
  | zero =>
    intro a b he h s h1 h2
    have e1 := he s h1 h2
    have := h s h1 h2
    unfold gst mgE at *
    rw [e1]; exact this
  | succ d ih =>
    intro a b he h s h1 h2
    have e1 := he s h1 h2
    have h9 := h s h1 h2
    refine ⟨by have := h9.1; unfold gst at *; rw [e1]; exact this, by have := h9.2.1; unfold mgE at *; rw [e1]; exact this, fun h6 => ?_⟩
    rw [e1] at h6
    have := ih (s + 1) (mgE σ s) (fun j hk hj => he j (by omega) (by have := h9.2.1.2; omega)) (h9.2.2 h6)
    unfold mgE at *; rw [e1]; exact this
theorem gok_mono {σ : St} : ∀ (d a b : Nat), gok σ d a b → gok σ (d + 1) a b := by
  intro d
  induction d with
  | zero => intro a b h s h1 h2; exact ⟨(h s h1 h2).1, (h s h1 h2).2.1, fun h6 => absurd h6 (h s h1 h2).2.2⟩
  | succ d ih => intro a b h s h1 h2; exact ⟨(h s h1 h2).1, (h s h1 h2).2.1, fun h6 => ih _ _ ((h s h1 h2).2.2 h6)⟩
theorem gok_e {σ : St} {d a b : Nat} (h : b ≤ a) : gok σ d a b := by
  cases d with
  | zero => intro s h1 h2; omega
  | succ d => intro s h1 h2; omega
theorem gok_join {σ : St} {d a b c : Nat} (h1 : gok σ d a b) (h2 : gok σ d b c) (hbc : b ≤ c) : gok σ d a c := by
  cases d with
  | zero =>
    intro s p q
    rcases Nat.lt_or_ge s b with z | z
    · have := h1 s p z; exact ⟨this.1, ⟨this.2.1.1, by have := this.2.1.2; omega⟩, this.2.2⟩
    · exact h2 s z q
  | succ d =>
    intro s p q
    rcases Nat.lt_or_ge s b with z | z
    · have := h1 s p z; exact ⟨this.1, ⟨this.2.1.1, by have := this.2.1.2; omega⟩, this.2.2⟩
    · exact h2 s z q
theorem gok_cons {t : St} {n i b : Nat} (hg : gst t i) (hi : i < b) (he : mgE t i = b) (h6 : t (511 + i) 0 = 6 → n ≠ 0 ∧ gok t (n - 1) (i + 1) b) (h0 : ¬ t (511 + i) 0 = 6 → b = i + 1) : gok t n i b := by
  cases n with
  | zero =>
    intro s p q
    have hk : ¬ t (511 + i) 0 = 6 := fun z => (h6 z).1 rfl
    have hs : s = i := by have := h0 hk; omega
    subst hs
    exact ⟨hg, ⟨by omega, by omega⟩, hk⟩
  | succ n =>
    intro s p q
    by_cases hs : s = i
    · subst hs
      exact ⟨hg, ⟨by omega, by omega⟩, fun z => by rw [he]; exact (h6 z).2⟩
    · have hk : t (511 + i) 0 = 6 := Decidable.byContradiction (fun z => by have := h0 z; omega)
      have hn := (h6 hk).2
      rw [Nat.add_sub_cancel] at hn
      have h9 := gok_1 hn (show i + 1 ≤ s by omega) q
      refine ⟨h9.1, h9.2, fun z => ?_⟩
      have h8 := gok_2 hn (show i + 1 ≤ s by omega) q z
      have := gok_mono _ _ _ h8.2
      rw [show n - 1 + 1 = n by omega] at this
      exact this
/-! one step -/
def wq2 (u : St) (k : Int32) : St := up (up (msk u) 111 32 (msk u 111 32 + 1)) (511 + sN (msk u)) 0 k
def wqR (c : St → Bool) (rec : St → St) : Nat → St → St
  | 0, s => s
  | n + 1, s => if s 111 5 = 0 ∧ c s = true then wqR c rec n (mbl (rec s)) else s
def wqc1 (s : St) : Bool := decide (¬ mbt (s 111 2) (s 112) (s 111 4) = 93)
def wqc2 (s : St) : Bool := decide (s 111 4 < s 111 2)
def wq6 (u : St) (o : Nat) : St := mbl (msg (mnO u o 1 0 30) 91)
def wqB (rec : St → St) (u : St) (k : Int32) (o : Nat) : St := if k = 0 ∨ k = 1 then mnO u o 1 0 (u 115 1 - 1) else if k = 2 then mnO (mnO u o 1 0 (u 115 2 - 1)) o 2 0 ((mnO u o 1 0 (u 115 2 - 1)) 115 0 - 1) else if k = 3 then mnO u o 1 0 (u 115 3 - 1) else if k = 6 then mcl8 (msg (wqR wqc1 rec 151 (wq6 u o)) 93) else u
def wqE (v : St) (o : Nat) : St := msg (up v o 3 (v 111 32)) 59
def wqG (rec : St → St) (u : St) (k : Int32) : St := wqE (wqB rec (wq2 u k) k (511 + sN (msk u))) (511 + sN (msk u))
def wqF (rec : St → St) (t : St) : St := if mzV t = -1 then wr (mbz t) 1 (mbz t 111 4) else if mzV t = 6 then (if b2 (mop (mbz t) 111 5 = 0) = 0 then mop (mbz t) else wqG rec (mop (mbz t)) 6) else wqG rec (mbz t) (mzV t)
def wqN : Nat → St → St
  | 0 => wqF (fun s => s)
  | n + 1 => wqF (wqN n)
theorem mzV_rng {t : St} : mzV t = -1 ∨ mzV t = 0 ∨ mzV t = 1 ∨ mzV t = 2 ∨ mzV t = 3 ∨ mzV t = 4 ∨ mzV t = 5 ∨ mzV t = 6 := by
  unfold mzV
  repeat' split
  all_goals simp
theorem mz_f {t : St} (h : ¬ mzV t = -1) : t 111 5 = 0 ∧ ¬ wlen (mbz t 111 2) (mbz t 112) (mbz t 111 4) = 0 := by
  have k : ∀ c : Int32, ¬ c = 0 → ¬ (t 111 5 = 0 ∧ ¬ wlen (mbz t 111 2) (mbz t 112) (mbz t 111 4) = 0) → b2 (mIs t c) = 0 := fun c hc hw => b2_f (fun z => hw ⟨z.1, mIs_w z hc⟩)
  apply Decidable.byContradiction
  intro hw
  apply h
  unfold mzV
  rw [if_pos (k _ (by decide) hw), if_pos (k _ (by decide) hw), if_pos (k _ (by decide) hw), if_pos (k _ (by decide) hw), if_pos (k _ (by decide) hw), if_pos (k _ (by decide) hw), if_pos (k _ (by decide) hw)]
abbrev rqF (rec : St → St) (n : Nat) (op : Int32) : Prop := ∀ t : St, pW t → t 111 8 = op → okq (sN t) 2 0 t (rec t) ∧ (rec t 111 5 = 0 → gok (rec t) n (sN t) (sN (rec t)))
theorem wqR_q {c : St → Bool} {rec : St → St} {n : Nat} {op : Int32} (hf : rqF rec n op) : ∀ (m : Nat) (s : St), pW s → s 111 8 = op → okq (sN s) 0 0 s (wqR c rec m s) ∧ (wqR c rec m s 111 5 = 0 → gok (wqR c rec m s) n (sN s) (sN (wqR c rec m s))) := by
  intro m
  induction m with
  | zero => intro s hW _; exact ⟨okq.rf hW.1, fun _ => gok_e (Nat.le_refl _)⟩
  | succ m ih =>
    intro s hW ho
    rw [wqR]
    split
    · obtain ⟨h1, h2⟩ := hf s hW ho
      have hb := mbl_q (r := sN s) h1.1
      have h3 := okq.tr h1 hb
      have hW3 := okq.pW h3 hW (by omega)
      obtain ⟨h4, h5⟩ := ih (mbl (rec s)) hW3 (by rw [h3.2.2.1]; exact ho)
      have h6 := okq.tr2 h3 h4 (Nat.le_refl _)
      refine ⟨okq.wk h6 (Nat.le_refl _) (by omega) (by omega), fun z => ?_⟩
      obtain ⟨p, q, x, y, f⟩ := h4.2.2.2.2.2 z
      have e32 : mbl (rec s) 111 32 = rec s 111 32 := mbl_k (by decide)
      have g1 := h2 (by rw [← (mbl_k (t := rec s) (show 5 ≠ 4 by decide))]; exact p)
      have g2 : gok (wqR c rec m (mbl (rec s))) n (sN s) (sN (mbl (rec s))) := by
        refine gok_fr n _ _ (fun j _ hj => ?_) (by rw [show sN (mbl (rec s)) = sN (rec s) by unfold sN; rw [e32]]; exact g1)
        rw [f j hj, mbl_o (by omega)]
      exact gok_join g2 (h5 z) (by unfold sN; omega)
    · exact ⟨okq.rf hW.1, fun _ => gok_e (Nat.le_refl _)⟩

theorem wqE_q {r i : Nat} {a g : Int} {t v : St} (h : okq r a g t v) (hr : r ≤ i) (hi : i < 80) : okq r (a + 1) (g + 1) t (wqE v (511 + i)) := by
  unfold wqE
  have h1 := okq_up (k := 3) (v := v 111 32) h hr hi (fun z => absurd z (by decide))
  exact okq.tr h1 (msg_q h1.1 (by decide))
theorem wqE_f {v : St} {o k : Nat} (ho : o ≠ 111) : (wqE v o) 111 5 = 0 → v 111 5 = 0 := by
  intro z
  unfold wqE msg at z
  have e : up v o 3 (v 111 32) 111 5 = v 111 5 := by rw [up_o (Ne.symm ho)]
  split at z
  · rename_i q; rw [← e]; exact q
  · rename_i q; exact absurd z q
theorem wqE_r {v : St} {o k : Nat} (ho : o ≠ 111) (hk : k ≠ 3) : wqE v o o k = v o k := by
  unfold wqE; rw [msg_o ho, up_k hk]
theorem wqE_3 {v : St} {o : Nat} (ho : o ≠ 111) : wqE v o o 3 = v 111 32 := by
  unfold wqE; rw [msg_o ho, up_rd]
theorem wqE_o {v : St} {o o' : Nat} (ho : o' ≠ 111) (hn : o' ≠ o) : wqE v o o' = v o' := by
  unfold wqE; rw [msg_o ho, up_o hn]
theorem wqE_32 {v : St} {o : Nat} (ho : o ≠ 111) : wqE v o 111 32 = v 111 32 := by
  unfold wqE; rw [msg_k (by decide) (by decide) (by decide), up_o (Ne.symm ho)]
theorem mnO_r0 {u : St} {o k f : Nat} {hi : Int32} (ho : o ≠ 111) (hf : f ≠ k) : mnO u o k 0 hi o f = u o f := by
  unfold mnO; rw [up_k hf, mnS_o ho]
theorem mnO_r1 {u : St} {o k : Nat} {hi : Int32} : mnO u o k 0 hi o k = mnV u 0 hi := by unfold mnO; exact up_rd
theorem mnV_lt {u : St} {c : Int32} {M : Int} (hM : 0 < M) (hc : c.toInt ≤ M) (h0 : -2147483648 ≤ c.toInt - 1) (h9 : c.toInt - 1 < 2147483648) : (mnV u 0 (c - 1)).toInt < M := by
  have e : (c - 1).toInt = c.toInt - 1 := i_sub rfl rfl h0 h9
  rcases (mnV_rng (t := u) (hi := c - 1)).2 with z | z
  · rw [z]; exact hM
  · omega
/-- where a step begins: the word is there -/
def wqP (i : Nat) (u : St) : Prop := pW u ∧ u 111 5 = 0 ∧ sN u = i ∧ ¬ wlen (u 111 2) (u 112) (u 111 4) = 0
theorem wq2_q {i : Nat} {u : St} {k : Int32} (h : wqP i u) : i < 80 ∧ sN (msk u) = i ∧ okq i 1 (-1) u (wq2 u k) ∧ wq2 u k (511 + i) 0 = k ∧ (∀ o, o ≠ 111 → (o < 511 ∨ 591 ≤ o) → wq2 u k o = u o) ∧ (wq2 u k 111 32).toInt = i + 1 ∧ wq2 u k 111 5 = 0 := by
  obtain ⟨hW, h5, hi, hw⟩ := h
  have h1 := msk_q1 (r := i) hW.1 hw
  have e32 : msk u 111 32 = u 111 32 := msk_k (by decide)
  have e5 : msk u 111 5 = u 111 5 := msk_k (by decide)
  have hs := hW.2.2.1 h5
  have hb := hW.1.2.1
  have hc := hW.2.1
  have hi' : (u 111 32).toInt.toNat = i := hi
  have hN : sN (msk u) = i := by unfold sN; rw [e32]; exact hi
  have h2 := okq_st h1 (fun _ => by rw [e32]; omega)
  have h3 := okq_up (i := i) (k := 0) (v := k) h2 (Nat.le_refl _) (by omega) (fun z => absurd z (by decide))
  have e2 : (u 111 32 + 1).toInt = (u 111 32).toInt + 1 := i_add rfl rfl (by omega) (by omega)
  unfold wq2
  rw [hN]
  refine ⟨by omega, rfl, okq.wk h3 (Nat.le_refl _) (by omega) (by omega), up_rd, fun o p q => ?_, ?_, ?_⟩
  · rw [up_o (by omega), up_o p, msk_o p]
  · rw [up_o (by omega), up_rd, e32, e2]; omega
  · rw [up_o (by omega), up_k (by decide), e5]; exact h5
/-- what a step's body keeps: row i as it must be -/
def wqK (n i : Nat) (k : Int32) (v : St) : Prop := v 111 5 = 0 → v (511 + i) 0 = k ∧ (k = 2 → (v (511 + i) 1).toInt < 3) ∧ (k = 3 → (v (511 + i) 1).toInt < 6) ∧ (k = 6 → n ≠ 0 ∧ gok v (n - 1) (i + 1) (sN v)) ∧ (¬ k = 6 → sN v = i + 1) ∧ i + 1 ≤ sN v
theorem wqG_q {n i : Nat} {k : Int32} {t v : St} (hi : i < 80) (h : okq i 1 (-1) t v) (hW : pW t) (hK : wqK n i k v) : okq i 2 0 t (wqE v (511 + i)) ∧ (wqE v (511 + i) 111 5 = 0 → gok (wqE v (511 + i)) n i (sN (wqE v (511 + i)))) := by
  have h1 := wqE_q h (Nat.le_refl _) hi
  refine ⟨okq.wk h1 (Nat.le_refl _) (by omega) (by omega), fun z => ?_⟩
  have hv := wqE_f (k := 0) (show 511 + i ≠ 111 by omega) z
  obtain ⟨k0, k2, k3, k6, kn, hl⟩ := hK hv
  have e32 : wqE v (511 + i) 111 32 = v 111 32 := wqE_32 (by omega)
  have hN : sN (wqE v (511 + i)) = sN v := by unfold sN; rw [e32]
  rw [hN]
  have r0 : wqE v (511 + i) (511 + i) 0 = k := by rw [wqE_r (by omega) (by decide)]; exact k0
  have r1 : wqE v (511 + i) (511 + i) 1 = v (511 + i) 1 := wqE_r (by omega) (by decide)
  have r3 : wqE v (511 + i) (511 + i) 3 = v 111 32 := wqE_3 (by omega)
  have hnn := h1.2.2.2.2.1 hW.2.2.2.2 i hi
  have hl' : i + 1 ≤ (v 111 32).toInt.toNat := hl
  have hE : mgE (wqE v (511 + i)) i = sN v := by unfold mgE; rw [r3]
  refine gok_cons ⟨hnn, fun q => ?_, fun q => ?_, by rw [r3]; omega⟩ (by omega) hE (fun q => ?_) (fun q => ?_)
  · rw [r0] at q; rw [r1]; exact k2 q
  · rw [r0] at q; rw [r1]; exact k3 q
  · rw [r0] at q
    refine ⟨(k6 q).1, ?_⟩
    have hg := (k6 q).2
    exact gok_fr _ _ _ (fun j p _ => wqE_o (by omega) (by omega)) hg
  · rw [r0] at q; exact kn q
theorem mnO_32 {u : St} {o k : Nat} {hi : Int32} (ho : o ≠ 111) : mnO u o k 0 hi 111 32 = u 111 32 := by
  unfold mnO; rw [up_o (Ne.symm ho), mnS_k (by decide) (by decide) (by decide)]
theorem wqK_n {n i : Nat} {k : Int32} {u v : St} (h : wqP i u) (h32 : v 111 32 = wq2 u k 111 32) (h0 : v (511 + i) 0 = k) (h2 : k = 2 → (v (511 + i) 1).toInt < 3) (h3 : k = 3 → (v (511 + i) 1).toInt < 6) (h6 : ¬ k = 6) : wqK n i k v := by
  have e := (wq2_q (k := k) h).2.2.2.2.2.1
  have hN : sN v = i + 1 := by unfold sN; rw [h32]; omega
  exact fun _ => ⟨h0, h2, h3, fun z => absurd z h6, fun _ => hN, by omega⟩
theorem wqB_n {n i : Nat} {k : Int32} {rec : St → St} {u : St} (h : wqP i u) (hk : k = 0 ∨ k = 1 ∨ k = 2 ∨ k = 3 ∨ k = 4 ∨ k = 5) : okq i 1 (-1) u (wqB rec (wq2 u k) k (511 + i)) ∧ wqK n i k (wqB rec (wq2 u k) k (511 + i)) := by
  obtain ⟨hi, hN, h1, hr0, hfo, h32, h5⟩ := wq2_q (k := k) h
  have e115 : wq2 u k 115 = u 115 := hfo 115 (by decide) (by decide)
  have b2 := h.1.2.2.2.1.1
  have b3 := h.1.2.2.2.1.2
  have hu : ∀ hi' : Int32, okq i 1 (-1) u (mnO (wq2 u k) (511 + i) 1 0 hi') := fun hi' => okq.wk (mnO_q h1 (Nat.le_refl _) hi) (Nat.le_refl _) (by omega) (by omega)
  have hm : ∀ hi' : Int32, (mnO (wq2 u k) (511 + i) 1 0 hi') (511 + i) 0 = k := fun hi' => by rw [mnO_r0 (by omega) (by decide)]; exact hr0
  have h3 : ∀ hi' : Int32, (mnO (wq2 u k) (511 + i) 1 0 hi') 111 32 = wq2 u k 111 32 := fun hi' => mnO_32 (by omega)
  rcases hk with q | q | q | q | q | q
  · have e : wqB rec (wq2 u k) k (511 + i) = mnO (wq2 u k) (511 + i) 1 0 (wq2 u k 115 1 - 1) := by unfold wqB; exact if_pos (Or.inl q)
    rw [e]; exact ⟨hu _, wqK_n h (h3 _) (hm _) (fun z => absurd (q.symm.trans z) (by decide)) (fun z => absurd (q.symm.trans z) (by decide)) (fun z => absurd (q.symm.trans z) (by decide))⟩
  · have e : wqB rec (wq2 u k) k (511 + i) = mnO (wq2 u k) (511 + i) 1 0 (wq2 u k 115 1 - 1) := by unfold wqB; exact if_pos (Or.inr q)
    rw [e]; exact ⟨hu _, wqK_n h (h3 _) (hm _) (fun z => absurd (q.symm.trans z) (by decide)) (fun z => absurd (q.symm.trans z) (by decide)) (fun z => absurd (q.symm.trans z) (by decide))⟩
  · have e : wqB rec (wq2 u k) k (511 + i) = mnO (mnO (wq2 u k) (511 + i) 1 0 (wq2 u k 115 2 - 1)) (511 + i) 2 0 ((mnO (wq2 u k) (511 + i) 1 0 (wq2 u k 115 2 - 1)) 115 0 - 1) := by
      unfold wqB; rw [if_neg (by rw [q]; decide), if_pos q]
    rw [e]
    refine ⟨okq.wk (mnO_q (hu _) (Nat.le_refl _) hi) (Nat.le_refl _) (by omega) (by omega), wqK_n h ?_ ?_ (fun _ => ?_) (fun z => absurd (q.symm.trans z) (by decide)) (fun z => absurd (q.symm.trans z) (by decide))⟩
    · rw [mnO_32 (by omega)]; exact h3 _
    · rw [mnO_r0 (by omega) (by decide)]; exact hm _
    · rw [mnO_r0 (by omega) (by decide), mnO_r1, e115]
      exact mnV_lt (by decide) b2.2 (by omega) (by omega)
  · have e : wqB rec (wq2 u k) k (511 + i) = mnO (wq2 u k) (511 + i) 1 0 (wq2 u k 115 3 - 1) := by unfold wqB; rw [if_neg (by rw [q]; decide), if_neg (by rw [q]; decide), if_pos q]
    rw [e]; refine ⟨hu _, wqK_n h (h3 _) (hm _) (fun z => absurd (q.symm.trans z) (by decide)) (fun _ => ?_) (fun z => absurd (q.symm.trans z) (by decide))⟩
    rw [mnO_r1, e115]
    exact mnV_lt (by decide) b3.2 (by omega) (by omega)
  · have e : wqB rec (wq2 u k) k (511 + i) = wq2 u k := by unfold wqB; rw [if_neg (by rw [q]; decide), if_neg (by rw [q]; decide), if_neg (by rw [q]; decide), if_neg (by rw [q]; decide)]
    rw [e]; exact ⟨h1, wqK_n h rfl hr0 (fun z => absurd (q.symm.trans z) (by decide)) (fun z => absurd (q.symm.trans z) (by decide)) (fun z => absurd (q.symm.trans z) (by decide))⟩
  · have e : wqB rec (wq2 u k) k (511 + i) = wq2 u k := by unfold wqB; rw [if_neg (by rw [q]; decide), if_neg (by rw [q]; decide), if_neg (by rw [q]; decide), if_neg (by rw [q]; decide)]
    rw [e]; exact ⟨h1, wqK_n h rfl hr0 (fun z => absurd (q.symm.trans z) (by decide)) (fun z => absurd (q.symm.trans z) (by decide)) (fun z => absurd (q.symm.trans z) (by decide))⟩
theorem wq6_q {i : Nat} {u : St} (h : wqP i u) : okq i 3 1 u (wq6 (wq2 u 6) (511 + i)) ∧ pW (wq6 (wq2 u 6) (511 + i)) ∧ wq6 (wq2 u 6) (511 + i) 111 8 = u 111 8 ∧ sN (wq6 (wq2 u 6) (511 + i)) = i + 1 ∧ wq6 (wq2 u 6) (511 + i) (511 + i) 0 = 6 := by
  obtain ⟨hi, hN, h1, hr0, hfo, h32, h5⟩ := wq2_q (k := 6) h
  have h2 := mnO_q (k := 1) (hi := 30) h1 (Nat.le_refl _) hi
  have h3 := okq.tr h2 (msg_q (c := 91) h2.1 (by decide))
  have h4 := okq.wk (okq.tr h3 (mbl_q h3.1)) (Nat.le_refl i) (show (3 : Int) ≤ 1 + 1 + 1 + 0 by decide) (show (1 : Int) ≤ -1 + 1 + 1 + 0 by decide)
  have e32 : wq6 (wq2 u 6) (511 + i) 111 32 = wq2 u 6 111 32 := by unfold wq6; rw [mbl_k (by decide), msg_k (by decide) (by decide) (by decide), mnO_32 (by omega)]
  refine ⟨h4, okq.pW h4 h.1 (by omega), h4.2.2.1, by unfold sN; rw [e32]; omega, ?_⟩
  unfold wq6; rw [mbl_o (by omega), msg_o (by omega), mnO_r0 (by omega) (by decide)]; exact hr0
theorem wqB_6 {n i : Nat} {op : Int32} {rec : St → St} {u : St} (h : wqP i (mop u)) (hm : ¬ b2 (mop u 111 5 = 0) = 0) (ho : mop u 111 8 = op) (hn : n ≠ 0) (hf : rqF rec (n - 1) op) : okq i 1 (-1) u (wqB rec (wq2 (mop u) 6) 6 (511 + i)) ∧ wqK n i 6 (wqB rec (wq2 (mop u) 6) 6 (511 + i)) := by
  obtain ⟨h1, hW, h8, hN, hr0⟩ := wq6_q h
  obtain ⟨h2, h3⟩ := wqR_q (c := wqc1) hf 151 _ hW (by rw [h8]; exact ho)
  have h4 := okq.tr h1 (okq.wk h2 (show i ≤ _ by rw [hN]; omega) (Int.le_refl _) (Int.le_refl _))
  have h5 := okq.tr h4 (msg_q (c := 93) h4.1 (by decide))
  have h6 := okq_par hm h5
  have e : wqB rec (wq2 (mop u) 6) 6 (511 + i) = mcl8 (msg (wqR wqc1 rec 151 (wq6 (wq2 (mop u) 6) (511 + i))) 93) := by
    unfold wqB; rw [if_neg (by decide), if_neg (by decide), if_neg (by decide), if_pos rfl]
  rw [e]
  refine ⟨okq.wk h6 (Nat.le_refl _) (by omega) (by omega), fun z => ?_⟩
  have z1 : msg (wqR wqc1 rec 151 (wq6 (wq2 (mop u) 6) (511 + i))) 93 111 5 = 0 := by unfold mcl8 at z; rw [up_k (by decide)] at z; exact z
  have z2 := ((msg_q (r := i) (c := 93) h4.1 (by decide)).2.2.2.2.2 z1).1
  obtain ⟨p, q, x, y, f⟩ := h2.2.2.2.2.2 z2
  have g := h3 z2
  rw [hN] at g f
  have hN' : (wq6 (wq2 (mop u) 6) (511 + i) 111 32).toInt.toNat = i + 1 := hN
  have ro : ∀ j, mcl8 (msg (wqR wqc1 rec 151 (wq6 (wq2 (mop u) 6) (511 + i))) 93) (511 + j) = wqR wqc1 rec 151 (wq6 (wq2 (mop u) 6) (511 + i)) (511 + j) := fun j => by unfold mcl8; rw [up_o (by omega), msg_o (by omega)]
  have e32 : mcl8 (msg (wqR wqc1 rec 151 (wq6 (wq2 (mop u) 6) (511 + i))) 93) 111 32 = wqR wqc1 rec 151 (wq6 (wq2 (mop u) 6) (511 + i)) 111 32 := by unfold mcl8; rw [up_k (by decide), msg_k (by decide) (by decide) (by decide)]
  have hS : sN (mcl8 (msg (wqR wqc1 rec 151 (wq6 (wq2 (mop u) 6) (511 + i))) 93)) = sN (wqR wqc1 rec 151 (wq6 (wq2 (mop u) 6) (511 + i))) := by unfold sN; rw [e32]
  refine ⟨by rw [ro, f i (by omega)]; exact hr0, fun z => absurd z (by decide), fun z => absurd z (by decide), fun _ => ⟨hn, ?_⟩, fun z => absurd rfl z, ?_⟩
  · rw [hS]; exact gok_fr _ _ _ (fun j _ _ => ro j) g
  · rw [hS]; unfold sN; omega
theorem mop_oo {u : St} {o : Nat} (h : o ≠ 111) : mop u o = u o := by
  unfold mop; split
  · exact wr_o h
  · split
    · exact up_o h
    · rfl
theorem mop_0q {r : Nat} {u : St} (hp : pB u) (h : b2 (mop u 111 5 = 0) = 0) : okq r 2 0 u (mop u) := by
  have h1 := mop_0 (a := 0) (g := 0) hp h
  exact ⟨h1.1, h1.2.1, h1.2.2.1, fun o p _ => mop_oo p, fun z s hs => by rw [mop_oo (by omega)]; exact z s hs, fun z => absurd z (b2_z h)⟩
theorem mop_W {u : St} (hW : pW u) (h : ¬ b2 (mop u 111 5 = 0) = 0) : pW (mop u) ∧ mop u 111 8 = u 111 8 + 1 := by
  have hm := (mop_1 h).2.2
  have e : ∀ k, k ≠ 8 → mop u 111 k = u 111 k := fun k hk => by rw [hm, up_k hk]
  refine ⟨?_, by rw [hm, up_rd]⟩
  unfold pW pB at *
  rw [e 4 (by decide), e 2 (by decide), e 5 (by decide), e 32 (by decide), mop_oo (by decide)]
  exact ⟨hW.1, hW.2.1, hW.2.2.1, hW.2.2.2.1, fun s hs => by rw [mop_oo (by omega)]; exact hW.2.2.2.2 s hs⟩
theorem wqF_q {rec : St → St} {n : Nat} {op : Int32} (hn : n = 0 → op = 6) (hf : ¬ op = 6 → rqF rec (n - 1) (op + 1)) : rqF (wqF rec) n op := by
  intro t hW ho
  have hz := mbz_q (r := sN t) hW.1
  have hW2 := okq.pW hz hW (by omega)
  have ho2 : mbz t 111 8 = op := by rw [hz.2.2.1]; exact ho
  have e32 : mbz t 111 32 = t 111 32 := by
    unfold mbz; split
    · exact mbl_k (by decide)
    · rfl
  have hN : sN (mbz t) = sN t := by unfold sN; rw [e32]
  have K : ∀ v, okq (sN t) 2 0 (mbz t) v → okq (sN t) 2 0 t v := fun v h => okq.wk (okq.tr hz h) (Nat.le_refl _) (by omega) (by omega)
  unfold wqF
  split
  · exact ⟨K _ (okq.wk (okr.q (okr_wr hW2.1 (by decide) 2) (wr_k (by decide) (by decide)) (wr_k (by decide) (by decide)) (fun _ p => wr_o p)) (Nat.le_refl _) (Int.le_refl _) (by omega)), fun z => absurd z (wr_5 (by decide))⟩
  · rename_i hv
    obtain ⟨t5, hw⟩ := mz_f hv
    have h5 : mbz t 111 5 = 0 := mbz_5.trans t5
    split
    · split
      · rename_i h; exact ⟨K _ (mop_0q hW2.1 h), fun z => absurd z (b2_z h)⟩
      · rename_i h
        have hm := mop_1 h
        have hM := mop_W hW2 h
        have n0 : ¬ op = 6 := by rw [← ho2]; exact hm.2.1
        have e : ∀ k, k ≠ 8 → mop (mbz t) 111 k = mbz t 111 k := fun k hk => by rw [hm.2.2, up_k hk]
        have hP : wqP (sN t) (mop (mbz t)) := ⟨hM.1, by rw [e 5 (by decide)]; exact h5, by unfold sN; rw [e 32 (by decide), e32], by rw [e 2 (by decide), e 4 (by decide), mop_oo (by decide)]; exact hw⟩
        obtain ⟨a, b⟩ := wqB_6 (n := n) hP h (by rw [hM.2, ho2]) (fun z => n0 (hn z)) (hf n0)
        have hr := wq2_q (k := 6) hP
        obtain ⟨c, d⟩ := wqG_q hr.1 a hW2 b
        unfold wqG; rw [hr.2.1]
        exact ⟨K _ c, d⟩
    · rename_i h6
      have hP : wqP (sN t) (mbz t) := ⟨hW2, h5, hN, hw⟩
      have hk : mzV t = 0 ∨ mzV t = 1 ∨ mzV t = 2 ∨ mzV t = 3 ∨ mzV t = 4 ∨ mzV t = 5 := by
        rcases mzV_rng (t := t) with z | z | z | z | z | z | z | z
        · exact absurd z hv
        · exact Or.inl z
        · exact Or.inr (Or.inl z)
        · exact Or.inr (Or.inr (Or.inl z))
        · exact Or.inr (Or.inr (Or.inr (Or.inl z)))
        · exact Or.inr (Or.inr (Or.inr (Or.inr (Or.inl z))))
        · exact Or.inr (Or.inr (Or.inr (Or.inr (Or.inr z))))
        · exact absurd z h6
      obtain ⟨a, b⟩ := wqB_n (n := n) (rec := rec) hP hk
      have hr := wq2_q (k := mzV t) hP
      obtain ⟨c, d⟩ := wqG_q hr.1 a hW2 b
      unfold wqG; rw [hr.2.1]
      exact ⟨K _ c, d⟩
theorem wqN_q : ∀ (n : Nat) (op : Int32), op = nI (6 - n) → n ≤ 6 → rqF (wqN n) n op := by
  intro n
  induction n with
  | zero => intro op h _; exact wqF_q (fun _ => h) (fun h6 => absurd (show op = 6 from h) h6)
  | succ n ih => intro op h hn; exact wqF_q (fun z => absurd z (by omega)) (fun _ => ih (op + 1) (by rw [h, nI_s]; congr 1; omega) (by omega))
theorem wqR_stop {c : St → Bool} {rec : St → St} {m : Nat} {t : St} (h : ¬ (t 111 5 = 0 ∧ c t = true)) : wqR c rec m t = t := by
  cases m with
  | zero => rfl
  | succ m => rw [wqR, if_neg h]
theorem wqR_go {c : St → Bool} {rec : St → St} {n m : Nat} {op : Int32} {t : St} (hf : rqF rec n op) (hW : pW t) (ho : t 111 8 = op) (hf9 : t 111 5 = 0 → (t 111 2).toInt - (t 111 4).toInt < m) (h : t 111 5 = 0 ∧ c t = true) :
    wqR c rec m t = wqR c rec (m - 1) (mbl (rec t)) ∧ 0 < m ∧ pW (mbl (rec t)) ∧ (mbl (rec t)) 111 8 = op ∧ ((mbl (rec t)) 111 5 = 0 → ((mbl (rec t)) 111 2).toInt - ((mbl (rec t)) 111 4).toInt < (m - 1 : Nat)) := by
  have h1 := hf9 h.1
  have h2 := hW.1.2.1
  have h3 := (hf t hW ho).1
  have h4 := okq.tr h3 (mbl_q h3.1)
  obtain ⟨q, rfl⟩ : ∃ q, m = q + 1 := ⟨m - 1, by omega⟩
  refine ⟨by rw [wqR, if_pos h]; rfl, by omega, okq.pW h4 hW (by omega), h4.2.2.1.trans ho, fun z => ?_⟩
  have h5 := h4.2.2.2.2.2 z
  rw [h4.2.1]; omega
theorem pB_up {v : St} {o k : Nat} {x : Int32} (h : pB v) (ho : o ≠ 111) : pB (up v o k x) := by
  unfold pB at *; rw [up_o (Ne.symm ho)]; exact h
theorem mcl8_p {v : St} (h : pB v) : pB (mcl8 v) := by
  unfold mcl8 pB at *; rw [up_k (by decide), up_k (by decide)]; exact h
theorem wqF_n {rec : St → St} {t : St} {k : Int32} (h : mzV t = k) (h1 : ¬ k = -1) (h6 : ¬ k = 6) : wqF rec t = wqG rec (mbz t) k := by
  unfold wqF; rw [h, if_neg h1, if_neg h6]
theorem wqF_6 {rec : St → St} {t : St} (h : mzV t = 6) (hm : ¬ b2 (mop (mbz t) 111 5 = 0) = 0) : wqF rec t = wqG rec (mop (mbz t)) 6 := by
  unfold wqF; rw [h, if_neg (by decide), if_pos rfl, if_neg hm]
theorem wqF_60 {rec : St → St} {t : St} (h : mzV t = 6) (hm : b2 (mop (mbz t) 111 5 = 0) = 0) : wqF rec t = mop (mbz t) := by
  unfold wqF; rw [h, if_neg (by decide), if_pos rfl, if_pos hm]
theorem wqF_m {rec : St → St} {t : St} (h : mzV t = -1) : wqF rec t = wr (mbz t) 1 (mbz t 111 4) := by
  unfold wqF; rw [if_pos h]

set_option maxRecDepth 20000 in
set_option maxHeartbeats 600000 in
theorem c_Mo_readsStep {l : Launch} {G : Gz} (hG : zI G) (σ : St) {kr n : Nat} {op : Int32} (hW : pW σ) (ho : σ 111 8 = op) (rec : St → St) (hrec : ¬ op = 6 → ∀ t : St, pW t → t 111 8 = op + 1 → MV l G y_Mo_readsStep prog_14_method_43_code 3 kr [.ref (G.1 111)] t (rec t)) (hf : ¬ op = 6 → rqF rec (n - 1) (op + 1)) : MV l G y_Mo_readsStep prog_14_method_43_code 3 (kr + 6) [.ref (G.1 111)] σ (wqF rec σ) := by
  refine MV.of hG (by decide) (Nat.le_of_ble_eq_true rfl) (fun X hx hq => ?_)
  show J l G X 3 σ 0 [(0, .ref (G.1 111))] []
  refine j_aload_n hx d_Mo_readsStep_0 rfl 0 rfl ?_
  refine j_callVi hx (c_Mo_stepHere hG σ (by exact hW.1)) mo_Mo_stepHere mv_Mo_stepHere t_1705 (by omega) rfl (by decide) (sh_111 _ _) rfl rfl (Nat.le_of_ble_eq_true rfl) d_Mo_readsStep_1 ?_
  obtain ⟨s9_1, eg_1⟩ : ∃ z : St, z = mbz σ := ⟨_, rfl⟩
  refine J.to (σ' := s9_1) (by rw [eg_1]; first | done | rfl) rfl ?_
  have hz := mbz_q (r := sN σ) hW.1
  have hWz := okq.pW hz hW (by omega)
  have hoz : mbz σ 111 8 = op := by rw [hz.2.2.1]; exact ho
  have e32z : mbz σ 111 32 = σ 111 32 := by
    unfold mbz; split
    · exact mbl_k (by decide)
    · rfl
  have hp1 : pB s9_1 := by rw [eg_1]; exact hWz.1
  refine j_istore_n hx [(1, .int (mzV σ)), (0, .ref (G.1 111))] d_Mo_readsStep_4 rfl (by decide) rfl ?_
  by_cases hkm1 : mzV σ = (-1)
  · skip
    refine J.to (ls' := [(1, .int ((-1))), (0, .ref (G.1 111))]) rfl (by rw [hkm1]) ?_
    refine j_iload_n hx d_Mo_readsStep_5 rfl 0 rfl ?_
    refine j_iconst (v := (-1)) hx d_Mo_readsStep_6 (by decide) ?_
    refine j_icmp_ne (tgt := 19) hx d_Mo_readsStep_7 (by decide) (fun zc7 => absurd rfl zc7) (fun _ => ?_)
    refine j_aload_n hx d_Mo_readsStep_10 rfl 1 rfl ?_
    refine j_iconst (v := 1) hx d_Mo_readsStep_11 (by decide) ?_
    refine j_aload_n hx d_Mo_readsStep_12 rfl 1 rfl ?_
    refine j_get hx ck_Mo 4 (by decide) t_1422 (by decide) (sh_111 _ _) rfl d_Mo_readsStep_13 ?_
    refine j_callVv hx (c_Mo_wrong hG s9_1 1 (s9_1 111 4)) mo_Mo_wrong mv_Mo_wrong t_1622 (by omega) rfl (by decide) (sh_111 _ _) rfl rfl (Nat.le_of_ble_eq_true rfl) d_Mo_readsStep_16 ?_
    obtain ⟨s9_2, eg_2⟩ : ∃ z : St, z = wr (mbz σ) 1 (mbz σ 111 4) := ⟨_, rfl⟩
    refine J.to (σ' := s9_2) (by rw [eg_2]; rw [eg_1]) rfl ?_
    refine j_iload_n hx d_Mo_readsStep_19 rfl 0 rfl ?_
    refine j_bipush (v := 6) hx d_Mo_readsStep_20 (by decide) ?_
    refine j_icmp_ne (tgt := 33) hx d_Mo_readsStep_22 (by decide) (fun _ => ?_) (fun zc22 => absurd zc22 (by decide))
    refine j_aload_n hx d_Mo_readsStep_33 rfl 1 rfl ?_
    refine j_get hx ck_Mo 5 (by decide) t_1423 (by decide) (sh_111 _ _) rfl d_Mo_readsStep_34 ?_
    refine j_if_eq (tgt := 41) hx d_Mo_readsStep_37 (by decide) (fun zc37 => ?_) (fun zc37 => ?_)
    · exact absurd zc37 (by rw [eg_2]; exact wr_5 (by decide))
    · skip
      exact j_vret hx hq d_Mo_readsStep_40 (by first | (rw [wqF_m hkm1]; exact eg_2) | fail)
  by_cases hk0 : mzV σ = 0
  · skip
    refine J.to (ls' := [(1, .int 0), (0, .ref (G.1 111))]) rfl (by rw [hk0]) ?_
    refine j_iload_n hx d_Mo_readsStep_5 rfl 0 rfl ?_
    refine j_iconst (v := (-1)) hx d_Mo_readsStep_6 (by decide) ?_
    refine j_icmp_ne (tgt := 19) hx d_Mo_readsStep_7 (by decide) (fun _ => ?_) (fun zc7 => absurd zc7 (by decide))
    refine j_iload_n hx d_Mo_readsStep_19 rfl 0 rfl ?_
    refine j_bipush (v := 6) hx d_Mo_readsStep_20 (by decide) ?_
    refine j_icmp_ne (tgt := 33) hx d_Mo_readsStep_22 (by decide) (fun _ => ?_) (fun zc22 => absurd zc22 (by decide))
    obtain ⟨t5, hwz⟩ := mz_f (t := σ) (by rw [hk0]; decide)
    have h5z : mbz σ 111 5 = 0 := mbz_5.trans t5
    have hP : wqP (sN σ) s9_1 := by rw [eg_1]; exact ⟨hWz, h5z, by unfold sN; rw [e32z], hwz⟩
    have hR9 := wq2_q (k := 0) hP
    have hi8 := hR9.1
    refine j_aload_n hx d_Mo_readsStep_33 rfl 1 rfl ?_
    refine j_get hx ck_Mo 5 (by decide) t_1423 (by decide) (sh_111 _ _) rfl d_Mo_readsStep_34 ?_
    refine j_if_eq (tgt := 41) hx d_Mo_readsStep_37 (by decide) (fun zc37 => ?_) (fun zc37 => ?_)
    · skip
      refine j_aload_n hx d_Mo_readsStep_41 rfl 1 rfl ?_
      refine j_callVv hx (c_Mo_skipWord hG s9_1 (by exact hP.1.1)) mo_Mo_skipWord mv_Mo_skipWord t_1629 (by omega) rfl (by decide) (sh_111 _ _) rfl rfl (Nat.le_of_ble_eq_true rfl) d_Mo_readsStep_42 ?_
      refine j_aload_n hx d_Mo_readsStep_45 rfl 1 rfl ?_
      refine j_get hx ck_Mo 31 (by decide) t_1449 (by decide) (sh_111 _ _) rfl d_Mo_readsStep_46 ?_
      refine j_aload_n hx d_Mo_readsStep_49 rfl 1 rfl ?_
      refine j_get hx ck_Mo 32 (by decide) t_1450 (by decide) (sh_111 _ _) rfl d_Mo_readsStep_50 ?_
      have hz53_1 : zin ((msk s9_1) 111 32) 80 ((sN σ)) := by rw [← hR9.2.1]; exact zin_of (by rw [msk_k (by decide)]; exact (hP.1.2.2.1 hP.2.1).1) (by rw [msk_k (by decide)]; have := (hP.1.2.2.1 hP.2.1).2; have := hP.1.1.2.1; have := hP.1.2.1; omega)
      refine j_aaldk hx ias_step.1.1 (ias_step.2.1 _ _) hz53_1 d_Mo_readsStep_53 ?_
      refine j_astore_n hx [(2, .ref (G.1 (511 + (sN σ)))), (1, .int 0), (0, .ref (G.1 111))] d_Mo_readsStep_54 rfl (by decide) rfl ?_
      refine j_aload_n hx d_Mo_readsStep_55 rfl 2 rfl ?_
      refine j_dup hx d_Mo_readsStep_56 rfl ?_
      refine j_get hx ck_Mo 32 (by decide) t_1450 (by decide) (sh_111 _ _) rfl d_Mo_readsStep_57 ?_
      refine j_iconst (v := 1) hx d_Mo_readsStep_60 (by decide) ?_
      refine j_iadd hx d_Mo_readsStep_61 ?_
      refine j_put hx ck_Mo 32 (by decide) t_1450 (by decide) (sh_111 _ _) rfl (Nat.le_of_ble_eq_true rfl) (sh_111 _ _) d_Mo_readsStep_62 ?_
      refine j_aload_n hx d_Mo_readsStep_65 rfl 0 rfl ?_
      refine j_iconst (v := 0) hx d_Mo_readsStep_66 (by decide) ?_
      refine j_iload_n hx d_Mo_readsStep_67 rfl 1 rfl ?_
      have hz68_2 : zin (0) 4 0 := by first | exact ⟨rfl, by decide⟩ | exact zin_nI (by omega) (by first | decide | omega) | exact zin_of (by omega) (by omega)
      refine j_iastk hx (ias_step.2.2 _ hz53_1.2) hz68_2 d_Mo_readsStep_68 ?_
      obtain ⟨s9_2, eg_2⟩ : ∃ z : St, z = wq2 s9_1 0 := ⟨_, rfl⟩
      refine J.to (σ' := s9_2) (by rw [eg_2]; unfold wq2; rw [hR9.2.1]) rfl ?_
      have hp2 : pB s9_2 := by rw [eg_2]; exact hR9.2.2.1.1
      refine j_iload_n hx d_Mo_readsStep_69 rfl 1 rfl ?_
      refine j_iconst (v := 2) hx d_Mo_readsStep_70 (by decide) ?_
      refine j_icmp_ge (tgt := 90) hx d_Mo_readsStep_71 (by decide) (fun zc71 => absurd zc71 (by decide)) (fun _ => ?_)
      refine j_aload_n hx d_Mo_readsStep_74 rfl 0 rfl ?_
      refine j_iconst (v := 1) hx d_Mo_readsStep_75 (by decide) ?_
      refine j_aload_n hx d_Mo_readsStep_76 rfl 2 rfl ?_
      refine j_iconst (v := 0) hx d_Mo_readsStep_77 (by decide) ?_
      refine j_aload_n hx d_Mo_readsStep_78 rfl 2 rfl ?_
      refine j_get hx ck_Mo 12 (by decide) t_1430 (by decide) (sh_111 _ _) rfl d_Mo_readsStep_79 ?_
      refine j_iconst (v := 1) hx d_Mo_readsStep_82 (by decide) ?_
      have hz83_3 : zin (1) 6 1 := by first | exact ⟨rfl, by decide⟩ | exact zin_nI (by omega) (by first | decide | omega) | exact zin_of (by omega) (by omega)
      refine j_ialdk hx ia_115 hz83_3 d_Mo_readsStep_83 ?_
      refine j_iconst (v := 1) hx d_Mo_readsStep_84 (by decide) ?_
      refine j_isub hx d_Mo_readsStep_85 ?_
      refine j_callVi hx (c_Mo_number hG s9_2 0 ((s9_2 115 1) - 1) (by exact hp2)) mo_Mo_number mv_Mo_number t_1633 (by omega) rfl (by decide) (sh_111 _ _) rfl rfl (Nat.le_of_ble_eq_true rfl) d_Mo_readsStep_86 ?_
      have hz89_4 : zin (1) 4 1 := by first | exact ⟨rfl, by decide⟩ | exact zin_nI (by omega) (by first | decide | omega) | exact zin_of (by omega) (by omega)
      refine j_iastk hx (ias_step.2.2 _ hz53_1.2) hz89_4 d_Mo_readsStep_89 ?_
      obtain ⟨s9_3, eg_3⟩ : ∃ z : St, z = mnO s9_2 (511 + sN σ) 1 0 (s9_2 115 1 - 1) := ⟨_, rfl⟩
      refine J.to (σ' := s9_3) (by rw [eg_3]; first | done | rfl) rfl ?_
      have hp3 : pB s9_3 := by rw [eg_3]; unfold mnO; exact pB_up (mnS_p hp2) (by omega)
      refine j_iload_n hx d_Mo_readsStep_90 rfl 1 rfl ?_
      refine j_iconst (v := 2) hx d_Mo_readsStep_91 (by decide) ?_
      refine j_icmp_ne (tgt := 127) hx d_Mo_readsStep_92 (by decide) (fun _ => ?_) (fun zc92 => absurd zc92 (by decide))
      refine j_iload_n hx d_Mo_readsStep_127 rfl 1 rfl ?_
      refine j_iconst (v := 3) hx d_Mo_readsStep_128 (by decide) ?_
      refine j_icmp_ne (tgt := 148) hx d_Mo_readsStep_129 (by decide) (fun _ => ?_) (fun zc129 => absurd zc129 (by decide))
      refine j_iload_n hx d_Mo_readsStep_148 rfl 1 rfl ?_
      refine j_bipush (v := 6) hx d_Mo_readsStep_149 (by decide) ?_
      refine j_icmp_ne (tgt := 221) hx d_Mo_readsStep_151 (by decide) (fun _ => ?_) (fun zc151 => absurd zc151 (by decide))
      refine j_aload_n hx d_Mo_readsStep_221 rfl 0 rfl ?_
      refine j_iconst (v := 3) hx d_Mo_readsStep_222 (by decide) ?_
      refine j_aload_n hx d_Mo_readsStep_223 rfl 2 rfl ?_
      refine j_get hx ck_Mo 32 (by decide) t_1450 (by decide) (sh_111 _ _) rfl d_Mo_readsStep_224 ?_
      have hz227_5 : zin (3) 4 3 := by first | exact ⟨rfl, by decide⟩ | exact zin_nI (by omega) (by first | decide | omega) | exact zin_of (by omega) (by omega)
      refine j_iastk hx (ias_step.2.2 _ hz53_1.2) hz227_5 d_Mo_readsStep_227 ?_
      refine j_aload_n hx d_Mo_readsStep_228 rfl 2 rfl ?_
      refine j_bipush (v := 59) hx d_Mo_readsStep_229 (by decide) ?_
      refine j_callVv hx (c_Mo_sign hG (up s9_3 (511 + (sN σ)) 3 (s9_3 111 32)) 59 (by exact pB_up hp3 (by omega))) mo_Mo_sign mv_Mo_sign t_1641 (by omega) rfl (by decide) (sh_111 _ _) rfl rfl (Nat.le_of_ble_eq_true rfl) d_Mo_readsStep_231 ?_
      exact j_vret hx hq d_Mo_readsStep_234 (by first | (rw [wqF_n hk0 (by decide) (by decide)]; unfold wqG; rw [← eg_1, hR9.2.1, ← eg_2]; unfold wqB; rw [if_pos (Or.inl rfl), ← eg_3]; rfl) | fail)
    · exact absurd hP.2.1 zc37
  by_cases hk1 : mzV σ = 1
  · skip
    refine J.to (ls' := [(1, .int 1), (0, .ref (G.1 111))]) rfl (by rw [hk1]) ?_
    refine j_iload_n hx d_Mo_readsStep_5 rfl 0 rfl ?_
    refine j_iconst (v := (-1)) hx d_Mo_readsStep_6 (by decide) ?_
    refine j_icmp_ne (tgt := 19) hx d_Mo_readsStep_7 (by decide) (fun _ => ?_) (fun zc7 => absurd zc7 (by decide))
    refine j_iload_n hx d_Mo_readsStep_19 rfl 0 rfl ?_
    refine j_bipush (v := 6) hx d_Mo_readsStep_20 (by decide) ?_
    refine j_icmp_ne (tgt := 33) hx d_Mo_readsStep_22 (by decide) (fun _ => ?_) (fun zc22 => absurd zc22 (by decide))
    obtain ⟨t5, hwz⟩ := mz_f (t := σ) (by rw [hk1]; decide)
    have h5z : mbz σ 111 5 = 0 := mbz_5.trans t5
    have hP : wqP (sN σ) s9_1 := by rw [eg_1]; exact ⟨hWz, h5z, by unfold sN; rw [e32z], hwz⟩
    have hR9 := wq2_q (k := 1) hP
    have hi8 := hR9.1
    refine j_aload_n hx d_Mo_readsStep_33 rfl 1 rfl ?_
    refine j_get hx ck_Mo 5 (by decide) t_1423 (by decide) (sh_111 _ _) rfl d_Mo_readsStep_34 ?_
    refine j_if_eq (tgt := 41) hx d_Mo_readsStep_37 (by decide) (fun zc37 => ?_) (fun zc37 => ?_)
    · skip
      refine j_aload_n hx d_Mo_readsStep_41 rfl 1 rfl ?_
      refine j_callVv hx (c_Mo_skipWord hG s9_1 (by exact hP.1.1)) mo_Mo_skipWord mv_Mo_skipWord t_1629 (by omega) rfl (by decide) (sh_111 _ _) rfl rfl (Nat.le_of_ble_eq_true rfl) d_Mo_readsStep_42 ?_
      refine j_aload_n hx d_Mo_readsStep_45 rfl 1 rfl ?_
      refine j_get hx ck_Mo 31 (by decide) t_1449 (by decide) (sh_111 _ _) rfl d_Mo_readsStep_46 ?_
      refine j_aload_n hx d_Mo_readsStep_49 rfl 1 rfl ?_
      refine j_get hx ck_Mo 32 (by decide) t_1450 (by decide) (sh_111 _ _) rfl d_Mo_readsStep_50 ?_
      have hz53_6 : zin ((msk s9_1) 111 32) 80 ((sN σ)) := by rw [← hR9.2.1]; exact zin_of (by rw [msk_k (by decide)]; exact (hP.1.2.2.1 hP.2.1).1) (by rw [msk_k (by decide)]; have := (hP.1.2.2.1 hP.2.1).2; have := hP.1.1.2.1; have := hP.1.2.1; omega)
      refine j_aaldk hx ias_step.1.1 (ias_step.2.1 _ _) hz53_6 d_Mo_readsStep_53 ?_
      refine j_astore_n hx [(2, .ref (G.1 (511 + (sN σ)))), (1, .int 1), (0, .ref (G.1 111))] d_Mo_readsStep_54 rfl (by decide) rfl ?_
      refine j_aload_n hx d_Mo_readsStep_55 rfl 2 rfl ?_
      refine j_dup hx d_Mo_readsStep_56 rfl ?_
      refine j_get hx ck_Mo 32 (by decide) t_1450 (by decide) (sh_111 _ _) rfl d_Mo_readsStep_57 ?_
      refine j_iconst (v := 1) hx d_Mo_readsStep_60 (by decide) ?_
      refine j_iadd hx d_Mo_readsStep_61 ?_
      refine j_put hx ck_Mo 32 (by decide) t_1450 (by decide) (sh_111 _ _) rfl (Nat.le_of_ble_eq_true rfl) (sh_111 _ _) d_Mo_readsStep_62 ?_
      refine j_aload_n hx d_Mo_readsStep_65 rfl 0 rfl ?_
      refine j_iconst (v := 0) hx d_Mo_readsStep_66 (by decide) ?_
      refine j_iload_n hx d_Mo_readsStep_67 rfl 1 rfl ?_
      have hz68_7 : zin (0) 4 0 := by first | exact ⟨rfl, by decide⟩ | exact zin_nI (by omega) (by first | decide | omega) | exact zin_of (by omega) (by omega)
      refine j_iastk hx (ias_step.2.2 _ hz53_6.2) hz68_7 d_Mo_readsStep_68 ?_
      obtain ⟨s9_2, eg_2⟩ : ∃ z : St, z = wq2 s9_1 1 := ⟨_, rfl⟩
      refine J.to (σ' := s9_2) (by rw [eg_2]; unfold wq2; rw [hR9.2.1]) rfl ?_
      have hp2 : pB s9_2 := by rw [eg_2]; exact hR9.2.2.1.1
      refine j_iload_n hx d_Mo_readsStep_69 rfl 1 rfl ?_
      refine j_iconst (v := 2) hx d_Mo_readsStep_70 (by decide) ?_
      refine j_icmp_ge (tgt := 90) hx d_Mo_readsStep_71 (by decide) (fun zc71 => absurd zc71 (by decide)) (fun _ => ?_)
      refine j_aload_n hx d_Mo_readsStep_74 rfl 0 rfl ?_
      refine j_iconst (v := 1) hx d_Mo_readsStep_75 (by decide) ?_
      refine j_aload_n hx d_Mo_readsStep_76 rfl 2 rfl ?_
      refine j_iconst (v := 0) hx d_Mo_readsStep_77 (by decide) ?_
      refine j_aload_n hx d_Mo_readsStep_78 rfl 2 rfl ?_
      refine j_get hx ck_Mo 12 (by decide) t_1430 (by decide) (sh_111 _ _) rfl d_Mo_readsStep_79 ?_
      refine j_iconst (v := 1) hx d_Mo_readsStep_82 (by decide) ?_
      have hz83_8 : zin (1) 6 1 := by first | exact ⟨rfl, by decide⟩ | exact zin_nI (by omega) (by first | decide | omega) | exact zin_of (by omega) (by omega)
      refine j_ialdk hx ia_115 hz83_8 d_Mo_readsStep_83 ?_
      refine j_iconst (v := 1) hx d_Mo_readsStep_84 (by decide) ?_
      refine j_isub hx d_Mo_readsStep_85 ?_
      refine j_callVi hx (c_Mo_number hG s9_2 0 ((s9_2 115 1) - 1) (by exact hp2)) mo_Mo_number mv_Mo_number t_1633 (by omega) rfl (by decide) (sh_111 _ _) rfl rfl (Nat.le_of_ble_eq_true rfl) d_Mo_readsStep_86 ?_
      have hz89_9 : zin (1) 4 1 := by first | exact ⟨rfl, by decide⟩ | exact zin_nI (by omega) (by first | decide | omega) | exact zin_of (by omega) (by omega)
      refine j_iastk hx (ias_step.2.2 _ hz53_6.2) hz89_9 d_Mo_readsStep_89 ?_
      obtain ⟨s9_3, eg_3⟩ : ∃ z : St, z = mnO s9_2 (511 + sN σ) 1 0 (s9_2 115 1 - 1) := ⟨_, rfl⟩
      refine J.to (σ' := s9_3) (by rw [eg_3]; first | done | rfl) rfl ?_
      have hp3 : pB s9_3 := by rw [eg_3]; unfold mnO; exact pB_up (mnS_p hp2) (by omega)
      refine j_iload_n hx d_Mo_readsStep_90 rfl 1 rfl ?_
      refine j_iconst (v := 2) hx d_Mo_readsStep_91 (by decide) ?_
      refine j_icmp_ne (tgt := 127) hx d_Mo_readsStep_92 (by decide) (fun _ => ?_) (fun zc92 => absurd zc92 (by decide))
      refine j_iload_n hx d_Mo_readsStep_127 rfl 1 rfl ?_
      refine j_iconst (v := 3) hx d_Mo_readsStep_128 (by decide) ?_
      refine j_icmp_ne (tgt := 148) hx d_Mo_readsStep_129 (by decide) (fun _ => ?_) (fun zc129 => absurd zc129 (by decide))
      refine j_iload_n hx d_Mo_readsStep_148 rfl 1 rfl ?_
      refine j_bipush (v := 6) hx d_Mo_readsStep_149 (by decide) ?_
      refine j_icmp_ne (tgt := 221) hx d_Mo_readsStep_151 (by decide) (fun _ => ?_) (fun zc151 => absurd zc151 (by decide))
      refine j_aload_n hx d_Mo_readsStep_221 rfl 0 rfl ?_
      refine j_iconst (v := 3) hx d_Mo_readsStep_222 (by decide) ?_
      refine j_aload_n hx d_Mo_readsStep_223 rfl 2 rfl ?_
      refine j_get hx ck_Mo 32 (by decide) t_1450 (by decide) (sh_111 _ _) rfl d_Mo_readsStep_224 ?_
      have hz227_10 : zin (3) 4 3 := by first | exact ⟨rfl, by decide⟩ | exact zin_nI (by omega) (by first | decide | omega) | exact zin_of (by omega) (by omega)
      refine j_iastk hx (ias_step.2.2 _ hz53_6.2) hz227_10 d_Mo_readsStep_227 ?_
      refine j_aload_n hx d_Mo_readsStep_228 rfl 2 rfl ?_
      refine j_bipush (v := 59) hx d_Mo_readsStep_229 (by decide) ?_
      refine j_callVv hx (c_Mo_sign hG (up s9_3 (511 + (sN σ)) 3 (s9_3 111 32)) 59 (by exact pB_up hp3 (by omega))) mo_Mo_sign mv_Mo_sign t_1641 (by omega) rfl (by decide) (sh_111 _ _) rfl rfl (Nat.le_of_ble_eq_true rfl) d_Mo_readsStep_231 ?_
      exact j_vret hx hq d_Mo_readsStep_234 (by first | (rw [wqF_n hk1 (by decide) (by decide)]; unfold wqG; rw [← eg_1, hR9.2.1, ← eg_2]; unfold wqB; rw [if_pos (Or.inr rfl), ← eg_3]; rfl) | fail)
    · exact absurd hP.2.1 zc37
  by_cases hk2 : mzV σ = 2
  · skip
    refine J.to (ls' := [(1, .int 2), (0, .ref (G.1 111))]) rfl (by rw [hk2]) ?_
    refine j_iload_n hx d_Mo_readsStep_5 rfl 0 rfl ?_
    refine j_iconst (v := (-1)) hx d_Mo_readsStep_6 (by decide) ?_
    refine j_icmp_ne (tgt := 19) hx d_Mo_readsStep_7 (by decide) (fun _ => ?_) (fun zc7 => absurd zc7 (by decide))
    refine j_iload_n hx d_Mo_readsStep_19 rfl 0 rfl ?_
    refine j_bipush (v := 6) hx d_Mo_readsStep_20 (by decide) ?_
    refine j_icmp_ne (tgt := 33) hx d_Mo_readsStep_22 (by decide) (fun _ => ?_) (fun zc22 => absurd zc22 (by decide))
    obtain ⟨t5, hwz⟩ := mz_f (t := σ) (by rw [hk2]; decide)
    have h5z : mbz σ 111 5 = 0 := mbz_5.trans t5
    have hP : wqP (sN σ) s9_1 := by rw [eg_1]; exact ⟨hWz, h5z, by unfold sN; rw [e32z], hwz⟩
    have hR9 := wq2_q (k := 2) hP
    have hi8 := hR9.1
    refine j_aload_n hx d_Mo_readsStep_33 rfl 1 rfl ?_
    refine j_get hx ck_Mo 5 (by decide) t_1423 (by decide) (sh_111 _ _) rfl d_Mo_readsStep_34 ?_
    refine j_if_eq (tgt := 41) hx d_Mo_readsStep_37 (by decide) (fun zc37 => ?_) (fun zc37 => ?_)
    · skip
      refine j_aload_n hx d_Mo_readsStep_41 rfl 1 rfl ?_
      refine j_callVv hx (c_Mo_skipWord hG s9_1 (by exact hP.1.1)) mo_Mo_skipWord mv_Mo_skipWord t_1629 (by omega) rfl (by decide) (sh_111 _ _) rfl rfl (Nat.le_of_ble_eq_true rfl) d_Mo_readsStep_42 ?_
      refine j_aload_n hx d_Mo_readsStep_45 rfl 1 rfl ?_
      refine j_get hx ck_Mo 31 (by decide) t_1449 (by decide) (sh_111 _ _) rfl d_Mo_readsStep_46 ?_
      refine j_aload_n hx d_Mo_readsStep_49 rfl 1 rfl ?_
      refine j_get hx ck_Mo 32 (by decide) t_1450 (by decide) (sh_111 _ _) rfl d_Mo_readsStep_50 ?_
      have hz53_11 : zin ((msk s9_1) 111 32) 80 ((sN σ)) := by rw [← hR9.2.1]; exact zin_of (by rw [msk_k (by decide)]; exact (hP.1.2.2.1 hP.2.1).1) (by rw [msk_k (by decide)]; have := (hP.1.2.2.1 hP.2.1).2; have := hP.1.1.2.1; have := hP.1.2.1; omega)
      refine j_aaldk hx ias_step.1.1 (ias_step.2.1 _ _) hz53_11 d_Mo_readsStep_53 ?_
      refine j_astore_n hx [(2, .ref (G.1 (511 + (sN σ)))), (1, .int 2), (0, .ref (G.1 111))] d_Mo_readsStep_54 rfl (by decide) rfl ?_
      refine j_aload_n hx d_Mo_readsStep_55 rfl 2 rfl ?_
      refine j_dup hx d_Mo_readsStep_56 rfl ?_
      refine j_get hx ck_Mo 32 (by decide) t_1450 (by decide) (sh_111 _ _) rfl d_Mo_readsStep_57 ?_
      refine j_iconst (v := 1) hx d_Mo_readsStep_60 (by decide) ?_
      refine j_iadd hx d_Mo_readsStep_61 ?_
      refine j_put hx ck_Mo 32 (by decide) t_1450 (by decide) (sh_111 _ _) rfl (Nat.le_of_ble_eq_true rfl) (sh_111 _ _) d_Mo_readsStep_62 ?_
      refine j_aload_n hx d_Mo_readsStep_65 rfl 0 rfl ?_
      refine j_iconst (v := 0) hx d_Mo_readsStep_66 (by decide) ?_
      refine j_iload_n hx d_Mo_readsStep_67 rfl 1 rfl ?_
      have hz68_12 : zin (0) 4 0 := by first | exact ⟨rfl, by decide⟩ | exact zin_nI (by omega) (by first | decide | omega) | exact zin_of (by omega) (by omega)
      refine j_iastk hx (ias_step.2.2 _ hz53_11.2) hz68_12 d_Mo_readsStep_68 ?_
      obtain ⟨s9_2, eg_2⟩ : ∃ z : St, z = wq2 s9_1 2 := ⟨_, rfl⟩
      refine J.to (σ' := s9_2) (by rw [eg_2]; unfold wq2; rw [hR9.2.1]) rfl ?_
      have hp2 : pB s9_2 := by rw [eg_2]; exact hR9.2.2.1.1
      refine j_iload_n hx d_Mo_readsStep_69 rfl 1 rfl ?_
      refine j_iconst (v := 2) hx d_Mo_readsStep_70 (by decide) ?_
      refine j_icmp_ge (tgt := 90) hx d_Mo_readsStep_71 (by decide) (fun _ => ?_) (fun zc71 => absurd (by decide) zc71)
      refine j_iload_n hx d_Mo_readsStep_90 rfl 1 rfl ?_
      refine j_iconst (v := 2) hx d_Mo_readsStep_91 (by decide) ?_
      refine j_icmp_ne (tgt := 127) hx d_Mo_readsStep_92 (by decide) (fun zc92 => absurd rfl zc92) (fun _ => ?_)
      refine j_aload_n hx d_Mo_readsStep_95 rfl 0 rfl ?_
      refine j_iconst (v := 1) hx d_Mo_readsStep_96 (by decide) ?_
      refine j_aload_n hx d_Mo_readsStep_97 rfl 2 rfl ?_
      refine j_iconst (v := 0) hx d_Mo_readsStep_98 (by decide) ?_
      refine j_aload_n hx d_Mo_readsStep_99 rfl 2 rfl ?_
      refine j_get hx ck_Mo 12 (by decide) t_1430 (by decide) (sh_111 _ _) rfl d_Mo_readsStep_100 ?_
      refine j_iconst (v := 2) hx d_Mo_readsStep_103 (by decide) ?_
      have hz104_13 : zin (2) 6 2 := by first | exact ⟨rfl, by decide⟩ | exact zin_nI (by omega) (by first | decide | omega) | exact zin_of (by omega) (by omega)
      refine j_ialdk hx ia_115 hz104_13 d_Mo_readsStep_104 ?_
      refine j_iconst (v := 1) hx d_Mo_readsStep_105 (by decide) ?_
      refine j_isub hx d_Mo_readsStep_106 ?_
      refine j_callVi hx (c_Mo_number hG s9_2 0 ((s9_2 115 2) - 1) (by exact hp2)) mo_Mo_number mv_Mo_number t_1633 (by omega) rfl (by decide) (sh_111 _ _) rfl rfl (Nat.le_of_ble_eq_true rfl) d_Mo_readsStep_107 ?_
      have hz110_14 : zin (1) 4 1 := by first | exact ⟨rfl, by decide⟩ | exact zin_nI (by omega) (by first | decide | omega) | exact zin_of (by omega) (by omega)
      refine j_iastk hx (ias_step.2.2 _ hz53_11.2) hz110_14 d_Mo_readsStep_110 ?_
      obtain ⟨s9_3, eg_3⟩ : ∃ z : St, z = mnO s9_2 (511 + sN σ) 1 0 (s9_2 115 2 - 1) := ⟨_, rfl⟩
      refine J.to (σ' := s9_3) (by rw [eg_3]; first | done | rfl) rfl ?_
      have hp3 : pB s9_3 := by rw [eg_3]; unfold mnO; exact pB_up (mnS_p hp2) (by omega)
      refine j_aload_n hx d_Mo_readsStep_111 rfl 0 rfl ?_
      refine j_iconst (v := 2) hx d_Mo_readsStep_112 (by decide) ?_
      refine j_aload_n hx d_Mo_readsStep_113 rfl 2 rfl ?_
      refine j_iconst (v := 0) hx d_Mo_readsStep_114 (by decide) ?_
      refine j_aload_n hx d_Mo_readsStep_115 rfl 2 rfl ?_
      refine j_get hx ck_Mo 12 (by decide) t_1430 (by decide) (sh_111 _ _) rfl d_Mo_readsStep_116 ?_
      refine j_iconst (v := 0) hx d_Mo_readsStep_119 (by decide) ?_
      have hz120_15 : zin (0) 6 0 := by first | exact ⟨rfl, by decide⟩ | exact zin_nI (by omega) (by first | decide | omega) | exact zin_of (by omega) (by omega)
      refine j_ialdk hx ia_115 hz120_15 d_Mo_readsStep_120 ?_
      refine j_iconst (v := 1) hx d_Mo_readsStep_121 (by decide) ?_
      refine j_isub hx d_Mo_readsStep_122 ?_
      refine j_callVi hx (c_Mo_number hG s9_3 0 ((s9_3 115 0) - 1) (by exact hp3)) mo_Mo_number mv_Mo_number t_1633 (by omega) rfl (by decide) (sh_111 _ _) rfl rfl (Nat.le_of_ble_eq_true rfl) d_Mo_readsStep_123 ?_
      have hz126_16 : zin (2) 4 2 := by first | exact ⟨rfl, by decide⟩ | exact zin_nI (by omega) (by first | decide | omega) | exact zin_of (by omega) (by omega)
      refine j_iastk hx (ias_step.2.2 _ hz53_11.2) hz126_16 d_Mo_readsStep_126 ?_
      obtain ⟨s9_4, eg_4⟩ : ∃ z : St, z = mnO s9_3 (511 + sN σ) 2 0 (s9_3 115 0 - 1) := ⟨_, rfl⟩
      refine J.to (σ' := s9_4) (by rw [eg_4]; first | done | rfl) rfl ?_
      have hp4 : pB s9_4 := by rw [eg_4]; unfold mnO; exact pB_up (mnS_p hp3) (by omega)
      refine j_iload_n hx d_Mo_readsStep_127 rfl 1 rfl ?_
      refine j_iconst (v := 3) hx d_Mo_readsStep_128 (by decide) ?_
      refine j_icmp_ne (tgt := 148) hx d_Mo_readsStep_129 (by decide) (fun _ => ?_) (fun zc129 => absurd zc129 (by decide))
      refine j_iload_n hx d_Mo_readsStep_148 rfl 1 rfl ?_
      refine j_bipush (v := 6) hx d_Mo_readsStep_149 (by decide) ?_
      refine j_icmp_ne (tgt := 221) hx d_Mo_readsStep_151 (by decide) (fun _ => ?_) (fun zc151 => absurd zc151 (by decide))
      refine j_aload_n hx d_Mo_readsStep_221 rfl 0 rfl ?_
      refine j_iconst (v := 3) hx d_Mo_readsStep_222 (by decide) ?_
      refine j_aload_n hx d_Mo_readsStep_223 rfl 2 rfl ?_
      refine j_get hx ck_Mo 32 (by decide) t_1450 (by decide) (sh_111 _ _) rfl d_Mo_readsStep_224 ?_
      have hz227_17 : zin (3) 4 3 := by first | exact ⟨rfl, by decide⟩ | exact zin_nI (by omega) (by first | decide | omega) | exact zin_of (by omega) (by omega)
      refine j_iastk hx (ias_step.2.2 _ hz53_11.2) hz227_17 d_Mo_readsStep_227 ?_
      refine j_aload_n hx d_Mo_readsStep_228 rfl 2 rfl ?_
      refine j_bipush (v := 59) hx d_Mo_readsStep_229 (by decide) ?_
      refine j_callVv hx (c_Mo_sign hG (up s9_4 (511 + (sN σ)) 3 (s9_4 111 32)) 59 (by exact pB_up hp4 (by omega))) mo_Mo_sign mv_Mo_sign t_1641 (by omega) rfl (by decide) (sh_111 _ _) rfl rfl (Nat.le_of_ble_eq_true rfl) d_Mo_readsStep_231 ?_
      exact j_vret hx hq d_Mo_readsStep_234 (by first | (rw [wqF_n hk2 (by decide) (by decide)]; unfold wqG; rw [← eg_1, hR9.2.1, ← eg_2]; unfold wqB; rw [if_neg (by decide), if_pos rfl, ← eg_3, ← eg_4]; rfl) | fail)
    · exact absurd hP.2.1 zc37
  by_cases hk3 : mzV σ = 3
  · skip
    refine J.to (ls' := [(1, .int 3), (0, .ref (G.1 111))]) rfl (by rw [hk3]) ?_
    refine j_iload_n hx d_Mo_readsStep_5 rfl 0 rfl ?_
    refine j_iconst (v := (-1)) hx d_Mo_readsStep_6 (by decide) ?_
    refine j_icmp_ne (tgt := 19) hx d_Mo_readsStep_7 (by decide) (fun _ => ?_) (fun zc7 => absurd zc7 (by decide))
    refine j_iload_n hx d_Mo_readsStep_19 rfl 0 rfl ?_
    refine j_bipush (v := 6) hx d_Mo_readsStep_20 (by decide) ?_
    refine j_icmp_ne (tgt := 33) hx d_Mo_readsStep_22 (by decide) (fun _ => ?_) (fun zc22 => absurd zc22 (by decide))
    obtain ⟨t5, hwz⟩ := mz_f (t := σ) (by rw [hk3]; decide)
    have h5z : mbz σ 111 5 = 0 := mbz_5.trans t5
    have hP : wqP (sN σ) s9_1 := by rw [eg_1]; exact ⟨hWz, h5z, by unfold sN; rw [e32z], hwz⟩
    have hR9 := wq2_q (k := 3) hP
    have hi8 := hR9.1
    refine j_aload_n hx d_Mo_readsStep_33 rfl 1 rfl ?_
    refine j_get hx ck_Mo 5 (by decide) t_1423 (by decide) (sh_111 _ _) rfl d_Mo_readsStep_34 ?_
    refine j_if_eq (tgt := 41) hx d_Mo_readsStep_37 (by decide) (fun zc37 => ?_) (fun zc37 => ?_)
    · skip
      refine j_aload_n hx d_Mo_readsStep_41 rfl 1 rfl ?_
      refine j_callVv hx (c_Mo_skipWord hG s9_1 (by exact hP.1.1)) mo_Mo_skipWord mv_Mo_skipWord t_1629 (by omega) rfl (by decide) (sh_111 _ _) rfl rfl (Nat.le_of_ble_eq_true rfl) d_Mo_readsStep_42 ?_
      refine j_aload_n hx d_Mo_readsStep_45 rfl 1 rfl ?_
      refine j_get hx ck_Mo 31 (by decide) t_1449 (by decide) (sh_111 _ _) rfl d_Mo_readsStep_46 ?_
      refine j_aload_n hx d_Mo_readsStep_49 rfl 1 rfl ?_
      refine j_get hx ck_Mo 32 (by decide) t_1450 (by decide) (sh_111 _ _) rfl d_Mo_readsStep_50 ?_
      have hz53_18 : zin ((msk s9_1) 111 32) 80 ((sN σ)) := by rw [← hR9.2.1]; exact zin_of (by rw [msk_k (by decide)]; exact (hP.1.2.2.1 hP.2.1).1) (by rw [msk_k (by decide)]; have := (hP.1.2.2.1 hP.2.1).2; have := hP.1.1.2.1; have := hP.1.2.1; omega)
      refine j_aaldk hx ias_step.1.1 (ias_step.2.1 _ _) hz53_18 d_Mo_readsStep_53 ?_
      refine j_astore_n hx [(2, .ref (G.1 (511 + (sN σ)))), (1, .int 3), (0, .ref (G.1 111))] d_Mo_readsStep_54 rfl (by decide) rfl ?_
      refine j_aload_n hx d_Mo_readsStep_55 rfl 2 rfl ?_
      refine j_dup hx d_Mo_readsStep_56 rfl ?_
      refine j_get hx ck_Mo 32 (by decide) t_1450 (by decide) (sh_111 _ _) rfl d_Mo_readsStep_57 ?_
      refine j_iconst (v := 1) hx d_Mo_readsStep_60 (by decide) ?_
      refine j_iadd hx d_Mo_readsStep_61 ?_
      refine j_put hx ck_Mo 32 (by decide) t_1450 (by decide) (sh_111 _ _) rfl (Nat.le_of_ble_eq_true rfl) (sh_111 _ _) d_Mo_readsStep_62 ?_
      refine j_aload_n hx d_Mo_readsStep_65 rfl 0 rfl ?_
      refine j_iconst (v := 0) hx d_Mo_readsStep_66 (by decide) ?_
      refine j_iload_n hx d_Mo_readsStep_67 rfl 1 rfl ?_
      have hz68_19 : zin (0) 4 0 := by first | exact ⟨rfl, by decide⟩ | exact zin_nI (by omega) (by first | decide | omega) | exact zin_of (by omega) (by omega)
      refine j_iastk hx (ias_step.2.2 _ hz53_18.2) hz68_19 d_Mo_readsStep_68 ?_
      obtain ⟨s9_2, eg_2⟩ : ∃ z : St, z = wq2 s9_1 3 := ⟨_, rfl⟩
      refine J.to (σ' := s9_2) (by rw [eg_2]; unfold wq2; rw [hR9.2.1]) rfl ?_
      have hp2 : pB s9_2 := by rw [eg_2]; exact hR9.2.2.1.1
      refine j_iload_n hx d_Mo_readsStep_69 rfl 1 rfl ?_
      refine j_iconst (v := 2) hx d_Mo_readsStep_70 (by decide) ?_
      refine j_icmp_ge (tgt := 90) hx d_Mo_readsStep_71 (by decide) (fun _ => ?_) (fun zc71 => absurd (by decide) zc71)
      refine j_iload_n hx d_Mo_readsStep_90 rfl 1 rfl ?_
      refine j_iconst (v := 2) hx d_Mo_readsStep_91 (by decide) ?_
      refine j_icmp_ne (tgt := 127) hx d_Mo_readsStep_92 (by decide) (fun _ => ?_) (fun zc92 => absurd zc92 (by decide))
      refine j_iload_n hx d_Mo_readsStep_127 rfl 1 rfl ?_
      refine j_iconst (v := 3) hx d_Mo_readsStep_128 (by decide) ?_
      refine j_icmp_ne (tgt := 148) hx d_Mo_readsStep_129 (by decide) (fun zc129 => absurd rfl zc129) (fun _ => ?_)
      refine j_aload_n hx d_Mo_readsStep_132 rfl 0 rfl ?_
      refine j_iconst (v := 1) hx d_Mo_readsStep_133 (by decide) ?_
      refine j_aload_n hx d_Mo_readsStep_134 rfl 2 rfl ?_
      refine j_iconst (v := 0) hx d_Mo_readsStep_135 (by decide) ?_
      refine j_aload_n hx d_Mo_readsStep_136 rfl 2 rfl ?_
      refine j_get hx ck_Mo 12 (by decide) t_1430 (by decide) (sh_111 _ _) rfl d_Mo_readsStep_137 ?_
      refine j_iconst (v := 3) hx d_Mo_readsStep_140 (by decide) ?_
      have hz141_20 : zin (3) 6 3 := by first | exact ⟨rfl, by decide⟩ | exact zin_nI (by omega) (by first | decide | omega) | exact zin_of (by omega) (by omega)
      refine j_ialdk hx ia_115 hz141_20 d_Mo_readsStep_141 ?_
      refine j_iconst (v := 1) hx d_Mo_readsStep_142 (by decide) ?_
      refine j_isub hx d_Mo_readsStep_143 ?_
      refine j_callVi hx (c_Mo_number hG s9_2 0 ((s9_2 115 3) - 1) (by exact hp2)) mo_Mo_number mv_Mo_number t_1633 (by omega) rfl (by decide) (sh_111 _ _) rfl rfl (Nat.le_of_ble_eq_true rfl) d_Mo_readsStep_144 ?_
      have hz147_21 : zin (1) 4 1 := by first | exact ⟨rfl, by decide⟩ | exact zin_nI (by omega) (by first | decide | omega) | exact zin_of (by omega) (by omega)
      refine j_iastk hx (ias_step.2.2 _ hz53_18.2) hz147_21 d_Mo_readsStep_147 ?_
      obtain ⟨s9_3, eg_3⟩ : ∃ z : St, z = mnO s9_2 (511 + sN σ) 1 0 (s9_2 115 3 - 1) := ⟨_, rfl⟩
      refine J.to (σ' := s9_3) (by rw [eg_3]; first | done | rfl) rfl ?_
      have hp3 : pB s9_3 := by rw [eg_3]; unfold mnO; exact pB_up (mnS_p hp2) (by omega)
      refine j_iload_n hx d_Mo_readsStep_148 rfl 1 rfl ?_
      refine j_bipush (v := 6) hx d_Mo_readsStep_149 (by decide) ?_
      refine j_icmp_ne (tgt := 221) hx d_Mo_readsStep_151 (by decide) (fun _ => ?_) (fun zc151 => absurd zc151 (by decide))
      refine j_aload_n hx d_Mo_readsStep_221 rfl 0 rfl ?_
      refine j_iconst (v := 3) hx d_Mo_readsStep_222 (by decide) ?_
      refine j_aload_n hx d_Mo_readsStep_223 rfl 2 rfl ?_
      refine j_get hx ck_Mo 32 (by decide) t_1450 (by decide) (sh_111 _ _) rfl d_Mo_readsStep_224 ?_
      have hz227_22 : zin (3) 4 3 := by first | exact ⟨rfl, by decide⟩ | exact zin_nI (by omega) (by first | decide | omega) | exact zin_of (by omega) (by omega)
      refine j_iastk hx (ias_step.2.2 _ hz53_18.2) hz227_22 d_Mo_readsStep_227 ?_
      refine j_aload_n hx d_Mo_readsStep_228 rfl 2 rfl ?_
      refine j_bipush (v := 59) hx d_Mo_readsStep_229 (by decide) ?_
      refine j_callVv hx (c_Mo_sign hG (up s9_3 (511 + (sN σ)) 3 (s9_3 111 32)) 59 (by exact pB_up hp3 (by omega))) mo_Mo_sign mv_Mo_sign t_1641 (by omega) rfl (by decide) (sh_111 _ _) rfl rfl (Nat.le_of_ble_eq_true rfl) d_Mo_readsStep_231 ?_
      exact j_vret hx hq d_Mo_readsStep_234 (by first | (rw [wqF_n hk3 (by decide) (by decide)]; unfold wqG; rw [← eg_1, hR9.2.1, ← eg_2]; unfold wqB; rw [if_neg (by decide), if_neg (by decide), if_pos rfl, ← eg_3]; rfl) | fail)
    · exact absurd hP.2.1 zc37
  by_cases hk4 : mzV σ = 4
  · skip
    refine J.to (ls' := [(1, .int 4), (0, .ref (G.1 111))]) rfl (by rw [hk4]) ?_
    refine j_iload_n hx d_Mo_readsStep_5 rfl 0 rfl ?_
    refine j_iconst (v := (-1)) hx d_Mo_readsStep_6 (by decide) ?_
    refine j_icmp_ne (tgt := 19) hx d_Mo_readsStep_7 (by decide) (fun _ => ?_) (fun zc7 => absurd zc7 (by decide))
    refine j_iload_n hx d_Mo_readsStep_19 rfl 0 rfl ?_
    refine j_bipush (v := 6) hx d_Mo_readsStep_20 (by decide) ?_
    refine j_icmp_ne (tgt := 33) hx d_Mo_readsStep_22 (by decide) (fun _ => ?_) (fun zc22 => absurd zc22 (by decide))
    obtain ⟨t5, hwz⟩ := mz_f (t := σ) (by rw [hk4]; decide)
    have h5z : mbz σ 111 5 = 0 := mbz_5.trans t5
    have hP : wqP (sN σ) s9_1 := by rw [eg_1]; exact ⟨hWz, h5z, by unfold sN; rw [e32z], hwz⟩
    have hR9 := wq2_q (k := 4) hP
    have hi8 := hR9.1
    refine j_aload_n hx d_Mo_readsStep_33 rfl 1 rfl ?_
    refine j_get hx ck_Mo 5 (by decide) t_1423 (by decide) (sh_111 _ _) rfl d_Mo_readsStep_34 ?_
    refine j_if_eq (tgt := 41) hx d_Mo_readsStep_37 (by decide) (fun zc37 => ?_) (fun zc37 => ?_)
    · skip
      refine j_aload_n hx d_Mo_readsStep_41 rfl 1 rfl ?_
      refine j_callVv hx (c_Mo_skipWord hG s9_1 (by exact hP.1.1)) mo_Mo_skipWord mv_Mo_skipWord t_1629 (by omega) rfl (by decide) (sh_111 _ _) rfl rfl (Nat.le_of_ble_eq_true rfl) d_Mo_readsStep_42 ?_
      refine j_aload_n hx d_Mo_readsStep_45 rfl 1 rfl ?_
      refine j_get hx ck_Mo 31 (by decide) t_1449 (by decide) (sh_111 _ _) rfl d_Mo_readsStep_46 ?_
      refine j_aload_n hx d_Mo_readsStep_49 rfl 1 rfl ?_
      refine j_get hx ck_Mo 32 (by decide) t_1450 (by decide) (sh_111 _ _) rfl d_Mo_readsStep_50 ?_
      have hz53_23 : zin ((msk s9_1) 111 32) 80 ((sN σ)) := by rw [← hR9.2.1]; exact zin_of (by rw [msk_k (by decide)]; exact (hP.1.2.2.1 hP.2.1).1) (by rw [msk_k (by decide)]; have := (hP.1.2.2.1 hP.2.1).2; have := hP.1.1.2.1; have := hP.1.2.1; omega)
      refine j_aaldk hx ias_step.1.1 (ias_step.2.1 _ _) hz53_23 d_Mo_readsStep_53 ?_
      refine j_astore_n hx [(2, .ref (G.1 (511 + (sN σ)))), (1, .int 4), (0, .ref (G.1 111))] d_Mo_readsStep_54 rfl (by decide) rfl ?_
      refine j_aload_n hx d_Mo_readsStep_55 rfl 2 rfl ?_
      refine j_dup hx d_Mo_readsStep_56 rfl ?_
      refine j_get hx ck_Mo 32 (by decide) t_1450 (by decide) (sh_111 _ _) rfl d_Mo_readsStep_57 ?_
      refine j_iconst (v := 1) hx d_Mo_readsStep_60 (by decide) ?_
      refine j_iadd hx d_Mo_readsStep_61 ?_
      refine j_put hx ck_Mo 32 (by decide) t_1450 (by decide) (sh_111 _ _) rfl (Nat.le_of_ble_eq_true rfl) (sh_111 _ _) d_Mo_readsStep_62 ?_
      refine j_aload_n hx d_Mo_readsStep_65 rfl 0 rfl ?_
      refine j_iconst (v := 0) hx d_Mo_readsStep_66 (by decide) ?_
      refine j_iload_n hx d_Mo_readsStep_67 rfl 1 rfl ?_
      have hz68_24 : zin (0) 4 0 := by first | exact ⟨rfl, by decide⟩ | exact zin_nI (by omega) (by first | decide | omega) | exact zin_of (by omega) (by omega)
      refine j_iastk hx (ias_step.2.2 _ hz53_23.2) hz68_24 d_Mo_readsStep_68 ?_
      obtain ⟨s9_2, eg_2⟩ : ∃ z : St, z = wq2 s9_1 4 := ⟨_, rfl⟩
      refine J.to (σ' := s9_2) (by rw [eg_2]; unfold wq2; rw [hR9.2.1]) rfl ?_
      have hp2 : pB s9_2 := by rw [eg_2]; exact hR9.2.2.1.1
      refine j_iload_n hx d_Mo_readsStep_69 rfl 1 rfl ?_
      refine j_iconst (v := 2) hx d_Mo_readsStep_70 (by decide) ?_
      refine j_icmp_ge (tgt := 90) hx d_Mo_readsStep_71 (by decide) (fun _ => ?_) (fun zc71 => absurd (by decide) zc71)
      refine j_iload_n hx d_Mo_readsStep_90 rfl 1 rfl ?_
      refine j_iconst (v := 2) hx d_Mo_readsStep_91 (by decide) ?_
      refine j_icmp_ne (tgt := 127) hx d_Mo_readsStep_92 (by decide) (fun _ => ?_) (fun zc92 => absurd zc92 (by decide))
      refine j_iload_n hx d_Mo_readsStep_127 rfl 1 rfl ?_
      refine j_iconst (v := 3) hx d_Mo_readsStep_128 (by decide) ?_
      refine j_icmp_ne (tgt := 148) hx d_Mo_readsStep_129 (by decide) (fun _ => ?_) (fun zc129 => absurd zc129 (by decide))
      refine j_iload_n hx d_Mo_readsStep_148 rfl 1 rfl ?_
      refine j_bipush (v := 6) hx d_Mo_readsStep_149 (by decide) ?_
      refine j_icmp_ne (tgt := 221) hx d_Mo_readsStep_151 (by decide) (fun _ => ?_) (fun zc151 => absurd zc151 (by decide))
      refine j_aload_n hx d_Mo_readsStep_221 rfl 0 rfl ?_
      refine j_iconst (v := 3) hx d_Mo_readsStep_222 (by decide) ?_
      refine j_aload_n hx d_Mo_readsStep_223 rfl 2 rfl ?_
      refine j_get hx ck_Mo 32 (by decide) t_1450 (by decide) (sh_111 _ _) rfl d_Mo_readsStep_224 ?_
      have hz227_25 : zin (3) 4 3 := by first | exact ⟨rfl, by decide⟩ | exact zin_nI (by omega) (by first | decide | omega) | exact zin_of (by omega) (by omega)
      refine j_iastk hx (ias_step.2.2 _ hz53_23.2) hz227_25 d_Mo_readsStep_227 ?_
      refine j_aload_n hx d_Mo_readsStep_228 rfl 2 rfl ?_
      refine j_bipush (v := 59) hx d_Mo_readsStep_229 (by decide) ?_
      refine j_callVv hx (c_Mo_sign hG (up s9_2 (511 + (sN σ)) 3 (s9_2 111 32)) 59 (by exact pB_up hp2 (by omega))) mo_Mo_sign mv_Mo_sign t_1641 (by omega) rfl (by decide) (sh_111 _ _) rfl rfl (Nat.le_of_ble_eq_true rfl) d_Mo_readsStep_231 ?_
      exact j_vret hx hq d_Mo_readsStep_234 (by first | (rw [wqF_n hk4 (by decide) (by decide)]; unfold wqG; rw [← eg_1, hR9.2.1, ← eg_2]; unfold wqB; rw [if_neg (by decide), if_neg (by decide), if_neg (by decide), if_neg (by decide)]; rfl) | fail)
    · exact absurd hP.2.1 zc37
  by_cases hk5 : mzV σ = 5
  · skip
    refine J.to (ls' := [(1, .int 5), (0, .ref (G.1 111))]) rfl (by rw [hk5]) ?_
    refine j_iload_n hx d_Mo_readsStep_5 rfl 0 rfl ?_
    refine j_iconst (v := (-1)) hx d_Mo_readsStep_6 (by decide) ?_
    refine j_icmp_ne (tgt := 19) hx d_Mo_readsStep_7 (by decide) (fun _ => ?_) (fun zc7 => absurd zc7 (by decide))
    refine j_iload_n hx d_Mo_readsStep_19 rfl 0 rfl ?_
    refine j_bipush (v := 6) hx d_Mo_readsStep_20 (by decide) ?_
    refine j_icmp_ne (tgt := 33) hx d_Mo_readsStep_22 (by decide) (fun _ => ?_) (fun zc22 => absurd zc22 (by decide))
    obtain ⟨t5, hwz⟩ := mz_f (t := σ) (by rw [hk5]; decide)
    have h5z : mbz σ 111 5 = 0 := mbz_5.trans t5
    have hP : wqP (sN σ) s9_1 := by rw [eg_1]; exact ⟨hWz, h5z, by unfold sN; rw [e32z], hwz⟩
    have hR9 := wq2_q (k := 5) hP
    have hi8 := hR9.1
    refine j_aload_n hx d_Mo_readsStep_33 rfl 1 rfl ?_
    refine j_get hx ck_Mo 5 (by decide) t_1423 (by decide) (sh_111 _ _) rfl d_Mo_readsStep_34 ?_
    refine j_if_eq (tgt := 41) hx d_Mo_readsStep_37 (by decide) (fun zc37 => ?_) (fun zc37 => ?_)
    · skip
      refine j_aload_n hx d_Mo_readsStep_41 rfl 1 rfl ?_
      refine j_callVv hx (c_Mo_skipWord hG s9_1 (by exact hP.1.1)) mo_Mo_skipWord mv_Mo_skipWord t_1629 (by omega) rfl (by decide) (sh_111 _ _) rfl rfl (Nat.le_of_ble_eq_true rfl) d_Mo_readsStep_42 ?_
      refine j_aload_n hx d_Mo_readsStep_45 rfl 1 rfl ?_
      refine j_get hx ck_Mo 31 (by decide) t_1449 (by decide) (sh_111 _ _) rfl d_Mo_readsStep_46 ?_
      refine j_aload_n hx d_Mo_readsStep_49 rfl 1 rfl ?_
      refine j_get hx ck_Mo 32 (by decide) t_1450 (by decide) (sh_111 _ _) rfl d_Mo_readsStep_50 ?_
      have hz53_26 : zin ((msk s9_1) 111 32) 80 ((sN σ)) := by rw [← hR9.2.1]; exact zin_of (by rw [msk_k (by decide)]; exact (hP.1.2.2.1 hP.2.1).1) (by rw [msk_k (by decide)]; have := (hP.1.2.2.1 hP.2.1).2; have := hP.1.1.2.1; have := hP.1.2.1; omega)
      refine j_aaldk hx ias_step.1.1 (ias_step.2.1 _ _) hz53_26 d_Mo_readsStep_53 ?_
      refine j_astore_n hx [(2, .ref (G.1 (511 + (sN σ)))), (1, .int 5), (0, .ref (G.1 111))] d_Mo_readsStep_54 rfl (by decide) rfl ?_
      refine j_aload_n hx d_Mo_readsStep_55 rfl 2 rfl ?_
      refine j_dup hx d_Mo_readsStep_56 rfl ?_
      refine j_get hx ck_Mo 32 (by decide) t_1450 (by decide) (sh_111 _ _) rfl d_Mo_readsStep_57 ?_
      refine j_iconst (v := 1) hx d_Mo_readsStep_60 (by decide) ?_
      refine j_iadd hx d_Mo_readsStep_61 ?_
      refine j_put hx ck_Mo 32 (by decide) t_1450 (by decide) (sh_111 _ _) rfl (Nat.le_of_ble_eq_true rfl) (sh_111 _ _) d_Mo_readsStep_62 ?_
      refine j_aload_n hx d_Mo_readsStep_65 rfl 0 rfl ?_
      refine j_iconst (v := 0) hx d_Mo_readsStep_66 (by decide) ?_
      refine j_iload_n hx d_Mo_readsStep_67 rfl 1 rfl ?_
      have hz68_27 : zin (0) 4 0 := by first | exact ⟨rfl, by decide⟩ | exact zin_nI (by omega) (by first | decide | omega) | exact zin_of (by omega) (by omega)
      refine j_iastk hx (ias_step.2.2 _ hz53_26.2) hz68_27 d_Mo_readsStep_68 ?_
      obtain ⟨s9_2, eg_2⟩ : ∃ z : St, z = wq2 s9_1 5 := ⟨_, rfl⟩
      refine J.to (σ' := s9_2) (by rw [eg_2]; unfold wq2; rw [hR9.2.1]) rfl ?_
      have hp2 : pB s9_2 := by rw [eg_2]; exact hR9.2.2.1.1
      refine j_iload_n hx d_Mo_readsStep_69 rfl 1 rfl ?_
      refine j_iconst (v := 2) hx d_Mo_readsStep_70 (by decide) ?_
      refine j_icmp_ge (tgt := 90) hx d_Mo_readsStep_71 (by decide) (fun _ => ?_) (fun zc71 => absurd (by decide) zc71)
      refine j_iload_n hx d_Mo_readsStep_90 rfl 1 rfl ?_
      refine j_iconst (v := 2) hx d_Mo_readsStep_91 (by decide) ?_
      refine j_icmp_ne (tgt := 127) hx d_Mo_readsStep_92 (by decide) (fun _ => ?_) (fun zc92 => absurd zc92 (by decide))
      refine j_iload_n hx d_Mo_readsStep_127 rfl 1 rfl ?_
      refine j_iconst (v := 3) hx d_Mo_readsStep_128 (by decide) ?_
      refine j_icmp_ne (tgt := 148) hx d_Mo_readsStep_129 (by decide) (fun _ => ?_) (fun zc129 => absurd zc129 (by decide))
      refine j_iload_n hx d_Mo_readsStep_148 rfl 1 rfl ?_
      refine j_bipush (v := 6) hx d_Mo_readsStep_149 (by decide) ?_
      refine j_icmp_ne (tgt := 221) hx d_Mo_readsStep_151 (by decide) (fun _ => ?_) (fun zc151 => absurd zc151 (by decide))
      refine j_aload_n hx d_Mo_readsStep_221 rfl 0 rfl ?_
      refine j_iconst (v := 3) hx d_Mo_readsStep_222 (by decide) ?_
      refine j_aload_n hx d_Mo_readsStep_223 rfl 2 rfl ?_
      refine j_get hx ck_Mo 32 (by decide) t_1450 (by decide) (sh_111 _ _) rfl d_Mo_readsStep_224 ?_
      have hz227_28 : zin (3) 4 3 := by first | exact ⟨rfl, by decide⟩ | exact zin_nI (by omega) (by first | decide | omega) | exact zin_of (by omega) (by omega)
      refine j_iastk hx (ias_step.2.2 _ hz53_26.2) hz227_28 d_Mo_readsStep_227 ?_
      refine j_aload_n hx d_Mo_readsStep_228 rfl 2 rfl ?_
      refine j_bipush (v := 59) hx d_Mo_readsStep_229 (by decide) ?_
      refine j_callVv hx (c_Mo_sign hG (up s9_2 (511 + (sN σ)) 3 (s9_2 111 32)) 59 (by exact pB_up hp2 (by omega))) mo_Mo_sign mv_Mo_sign t_1641 (by omega) rfl (by decide) (sh_111 _ _) rfl rfl (Nat.le_of_ble_eq_true rfl) d_Mo_readsStep_231 ?_
      exact j_vret hx hq d_Mo_readsStep_234 (by first | (rw [wqF_n hk5 (by decide) (by decide)]; unfold wqG; rw [← eg_1, hR9.2.1, ← eg_2]; unfold wqB; rw [if_neg (by decide), if_neg (by decide), if_neg (by decide), if_neg (by decide)]; rfl) | fail)
    · exact absurd hP.2.1 zc37
  by_cases hk6 : mzV σ = 6
  · skip
    refine J.to (ls' := [(1, .int 6), (0, .ref (G.1 111))]) rfl (by rw [hk6]) ?_
    refine j_iload_n hx d_Mo_readsStep_5 rfl 0 rfl ?_
    refine j_iconst (v := (-1)) hx d_Mo_readsStep_6 (by decide) ?_
    refine j_icmp_ne (tgt := 19) hx d_Mo_readsStep_7 (by decide) (fun _ => ?_) (fun zc7 => absurd zc7 (by decide))
    refine j_iload_n hx d_Mo_readsStep_19 rfl 0 rfl ?_
    refine j_bipush (v := 6) hx d_Mo_readsStep_20 (by decide) ?_
    refine j_icmp_ne (tgt := 33) hx d_Mo_readsStep_22 (by decide) (fun zc22 => absurd rfl zc22) (fun _ => ?_)
    refine j_aload_n hx d_Mo_readsStep_25 rfl 1 rfl ?_
    refine j_callVi hx (c_Mo_opensOne hG s9_1) mo_Mo_opensOne mv_Mo_opensOne t_1665 (by omega) rfl (by decide) (sh_111 _ _) rfl rfl (Nat.le_of_ble_eq_true rfl) d_Mo_readsStep_26 ?_
    obtain ⟨s9_2, eg_2⟩ : ∃ z : St, z = mop (mbz σ) := ⟨_, rfl⟩
    refine J.to (σ' := s9_2) (by rw [eg_2]; rw [eg_1]) rfl ?_
    refine j_if_ne (tgt := 33) hx d_Mo_readsStep_29 (by decide) (fun zc29 => ?_) (fun zc29 => ?_)
    · skip
      rw [eg_1] at zc29
      obtain ⟨t5, hwz⟩ := mz_f (t := σ) (by rw [hk6]; decide)
      have h5z : mbz σ 111 5 = 0 := mbz_5.trans t5
      have hmm := mop_1 zc29
      have hM := mop_W hWz zc29
      have n0 : ¬ op = 6 := by rw [← hoz]; exact hmm.2.1
      have em : ∀ k, k ≠ 8 → mop (mbz σ) 111 k = mbz σ 111 k := fun k hk => by rw [hmm.2.2, up_k hk]
      have hP : wqP (sN σ) s9_2 := by rw [eg_2]; exact ⟨hM.1, by rw [em 5 (by decide)]; exact h5z, by unfold sN; rw [em 32 (by decide), e32z], by rw [em 2 (by decide), em 4 (by decide), mop_oo (by decide)]; exact hwz⟩
      have hR9 := wq2_q (k := 6) hP
      have hi8 := hR9.1
      refine j_aload_n hx d_Mo_readsStep_33 rfl 1 rfl ?_
      refine j_get hx ck_Mo 5 (by decide) t_1423 (by decide) (sh_111 _ _) rfl d_Mo_readsStep_34 ?_
      refine j_if_eq (tgt := 41) hx d_Mo_readsStep_37 (by decide) (fun zc37 => ?_) (fun zc37 => ?_)
      · skip
        refine j_aload_n hx d_Mo_readsStep_41 rfl 1 rfl ?_
        refine j_callVv hx (c_Mo_skipWord hG s9_2 (by exact hP.1.1)) mo_Mo_skipWord mv_Mo_skipWord t_1629 (by omega) rfl (by decide) (sh_111 _ _) rfl rfl (Nat.le_of_ble_eq_true rfl) d_Mo_readsStep_42 ?_
        refine j_aload_n hx d_Mo_readsStep_45 rfl 1 rfl ?_
        refine j_get hx ck_Mo 31 (by decide) t_1449 (by decide) (sh_111 _ _) rfl d_Mo_readsStep_46 ?_
        refine j_aload_n hx d_Mo_readsStep_49 rfl 1 rfl ?_
        refine j_get hx ck_Mo 32 (by decide) t_1450 (by decide) (sh_111 _ _) rfl d_Mo_readsStep_50 ?_
        have hz53_29 : zin ((msk s9_2) 111 32) 80 ((sN σ)) := by rw [← hR9.2.1]; exact zin_of (by rw [msk_k (by decide)]; exact (hP.1.2.2.1 hP.2.1).1) (by rw [msk_k (by decide)]; have := (hP.1.2.2.1 hP.2.1).2; have := hP.1.1.2.1; have := hP.1.2.1; omega)
        refine j_aaldk hx ias_step.1.1 (ias_step.2.1 _ _) hz53_29 d_Mo_readsStep_53 ?_
        refine j_astore_n hx [(2, .ref (G.1 (511 + (sN σ)))), (1, .int 6), (0, .ref (G.1 111))] d_Mo_readsStep_54 rfl (by decide) rfl ?_
        refine j_aload_n hx d_Mo_readsStep_55 rfl 2 rfl ?_
        refine j_dup hx d_Mo_readsStep_56 rfl ?_
        refine j_get hx ck_Mo 32 (by decide) t_1450 (by decide) (sh_111 _ _) rfl d_Mo_readsStep_57 ?_
        refine j_iconst (v := 1) hx d_Mo_readsStep_60 (by decide) ?_
        refine j_iadd hx d_Mo_readsStep_61 ?_
        refine j_put hx ck_Mo 32 (by decide) t_1450 (by decide) (sh_111 _ _) rfl (Nat.le_of_ble_eq_true rfl) (sh_111 _ _) d_Mo_readsStep_62 ?_
        refine j_aload_n hx d_Mo_readsStep_65 rfl 0 rfl ?_
        refine j_iconst (v := 0) hx d_Mo_readsStep_66 (by decide) ?_
        refine j_iload_n hx d_Mo_readsStep_67 rfl 1 rfl ?_
        have hz68_30 : zin (0) 4 0 := by first | exact ⟨rfl, by decide⟩ | exact zin_nI (by omega) (by first | decide | omega) | exact zin_of (by omega) (by omega)
        refine j_iastk hx (ias_step.2.2 _ hz53_29.2) hz68_30 d_Mo_readsStep_68 ?_
        obtain ⟨s9_3, eg_3⟩ : ∃ z : St, z = wq2 s9_2 6 := ⟨_, rfl⟩
        refine J.to (σ' := s9_3) (by rw [eg_3]; unfold wq2; rw [hR9.2.1]) rfl ?_
        have hp3 : pB s9_3 := by rw [eg_3]; exact hR9.2.2.1.1
        have h6 := wq6_q hP
        have hmo : pB (mnO s9_3 (511 + sN σ) 1 0 30) := by unfold mnO; exact pB_up (mnS_p hp3) (by omega)
        have hms : pB (msg (mnO s9_3 (511 + sN σ) 1 0 30) 91) := msg_p hmo (by decide)
        refine j_iload_n hx d_Mo_readsStep_69 rfl 1 rfl ?_
        refine j_iconst (v := 2) hx d_Mo_readsStep_70 (by decide) ?_
        refine j_icmp_ge (tgt := 90) hx d_Mo_readsStep_71 (by decide) (fun _ => ?_) (fun zc71 => absurd (by decide) zc71)
        refine j_iload_n hx d_Mo_readsStep_90 rfl 1 rfl ?_
        refine j_iconst (v := 2) hx d_Mo_readsStep_91 (by decide) ?_
        refine j_icmp_ne (tgt := 127) hx d_Mo_readsStep_92 (by decide) (fun _ => ?_) (fun zc92 => absurd zc92 (by decide))
        refine j_iload_n hx d_Mo_readsStep_127 rfl 1 rfl ?_
        refine j_iconst (v := 3) hx d_Mo_readsStep_128 (by decide) ?_
        refine j_icmp_ne (tgt := 148) hx d_Mo_readsStep_129 (by decide) (fun _ => ?_) (fun zc129 => absurd zc129 (by decide))
        refine j_iload_n hx d_Mo_readsStep_148 rfl 1 rfl ?_
        refine j_bipush (v := 6) hx d_Mo_readsStep_149 (by decide) ?_
        refine j_icmp_ne (tgt := 221) hx d_Mo_readsStep_151 (by decide) (fun zc151 => absurd rfl zc151) (fun _ => ?_)
        refine j_aload_n hx d_Mo_readsStep_154 rfl 0 rfl ?_
        refine j_iconst (v := 1) hx d_Mo_readsStep_155 (by decide) ?_
        refine j_aload_n hx d_Mo_readsStep_156 rfl 2 rfl ?_
        refine j_iconst (v := 0) hx d_Mo_readsStep_157 (by decide) ?_
        refine j_bipush (v := 30) hx d_Mo_readsStep_158 (by decide) ?_
        refine j_callVi hx (c_Mo_number hG s9_3 0 30 (by exact hp3)) mo_Mo_number mv_Mo_number t_1633 (by omega) rfl (by decide) (sh_111 _ _) rfl rfl (Nat.le_of_ble_eq_true rfl) d_Mo_readsStep_160 ?_
        have hz163_31 : zin (1) 4 1 := by first | exact ⟨rfl, by decide⟩ | exact zin_nI (by omega) (by first | decide | omega) | exact zin_of (by omega) (by omega)
        refine j_iastk hx (ias_step.2.2 _ hz53_29.2) hz163_31 d_Mo_readsStep_163 ?_
        refine j_aload_n hx d_Mo_readsStep_164 rfl 2 rfl ?_
        refine j_bipush (v := 91) hx d_Mo_readsStep_165 (by decide) ?_
        refine j_callVv hx (c_Mo_sign hG (up (mnS s9_3 0 30) (511 + (sN σ)) 1 (mnV s9_3 0 30)) 91 (by exact hmo)) mo_Mo_sign mv_Mo_sign t_1641 (by omega) rfl (by decide) (sh_111 _ _) rfl rfl (Nat.le_of_ble_eq_true rfl) d_Mo_readsStep_167 ?_
        refine j_aload_n hx d_Mo_readsStep_170 rfl 2 rfl ?_
        refine j_callVv hx (c_Mo_blanks hG (msg (up (mnS s9_3 0 30) (511 + (sN σ)) 1 (mnV s9_3 0 30)) 91) (by exact hms)) mo_Mo_blanks mv_Mo_blanks t_1592 (by omega) rfl (by decide) (sh_111 _ _) rfl rfl (Nat.le_of_ble_eq_true rfl) d_Mo_readsStep_171 ?_
        obtain ⟨s9_4, eg_4⟩ : ∃ z : St, z = wq6 s9_3 (511 + sN σ) := ⟨_, rfl⟩
        refine J.to (σ' := s9_4) (by rw [eg_4]; first | done | rfl) rfl ?_
        rw [← eg_3, ← eg_4] at h6
        have hz4 : s9_4 111 5 = 0 → (s9_4 111 2).toInt - (s9_4 111 4).toInt < (151 : Nat) := fun _ => by have h1 := h6.2.1.1; have h2 := h6.2.1.2.1; have h3 := h1.1; omega
        have ho4 : s9_4 111 8 = op + 1 := by rw [h6.2.2.1, eg_2, hM.2, hoz]
        have hl174 : ∀ (N9 : Nat) (m : Nat) (t : St), (pW t) → (t 111 8 = op + 1) → (t 111 5 = 0 → (t 111 2).toInt - (t 111 4).toInt < m) → (wqR wqc1 rec m t = wqR wqc1 rec 151 s9_4) → m = N9 → J l G X 3 t 174 [(0, .ref (G.1 111)), (1, .int 6), (2, .ref (G.1 (511 + (sN σ))))] [] := by
          intro N9
          induction N9 using Nat.strongRecOn with
          | _ N9 ih174 =>
            intro m t hW9 ho9 hf9 hr9 hm174
            refine j_aload_n hx d_Mo_readsStep_174 rfl 0 rfl ?_
            refine j_get hx ck_Mo 5 (by decide) t_1423 (by decide) (sh_111 _ _) rfl d_Mo_readsStep_175 ?_
            refine j_if_ne (tgt := 205) hx d_Mo_readsStep_178 (by decide) (fun zc178 => ?_) (fun zc178 => ?_)
            · skip
              have e9 : t = wqR wqc1 rec 151 s9_4 := (wqR_stop (c := wqc1) (fun z => by first | exact zc178 z.1 | exact of_decide_eq_true z.2 zc191)).symm.trans hr9
              refine j_aload_n hx d_Mo_readsStep_205 rfl 0 rfl ?_
              refine j_bipush (v := 93) hx d_Mo_readsStep_206 (by decide) ?_
              refine j_callVv hx (c_Mo_sign hG t 93 (by exact hW9.1)) mo_Mo_sign mv_Mo_sign t_1641 (by omega) rfl (by decide) (sh_111 _ _) rfl rfl (Nat.le_of_ble_eq_true rfl) d_Mo_readsStep_208 ?_
              refine j_aload_n hx d_Mo_readsStep_211 rfl 0 rfl ?_
              refine j_dup hx d_Mo_readsStep_212 rfl ?_
              refine j_get hx ck_Mo 8 (by decide) t_1426 (by decide) (sh_111 _ _) rfl d_Mo_readsStep_213 ?_
              refine j_iconst (v := 1) hx d_Mo_readsStep_216 (by decide) ?_
              refine j_isub hx d_Mo_readsStep_217 ?_
              refine j_put hx ck_Mo 8 (by decide) t_1426 (by decide) (sh_111 _ _) rfl (Nat.le_of_ble_eq_true rfl) (sh_111 _ _) d_Mo_readsStep_218 ?_
              obtain ⟨s9_5, eg_5⟩ : ∃ z : St, z = mcl8 (msg t 93) := ⟨_, rfl⟩
              refine J.to (σ' := s9_5) (by rw [eg_5]; first | done | rfl) rfl ?_
              have hp5 : pB s9_5 := by rw [eg_5]; exact mcl8_p (msg_p hW9.1 (by decide))
              refine j_aload_n hx d_Mo_readsStep_221 rfl 2 rfl ?_
              refine j_iconst (v := 3) hx d_Mo_readsStep_222 (by decide) ?_
              refine j_aload_n hx d_Mo_readsStep_223 rfl 0 rfl ?_
              refine j_get hx ck_Mo 32 (by decide) t_1450 (by decide) (sh_111 _ _) rfl d_Mo_readsStep_224 ?_
              have hz227_32 : zin (3) 4 3 := by first | exact ⟨rfl, by decide⟩ | exact zin_nI (by omega) (by first | decide | omega) | exact zin_of (by omega) (by omega)
              refine j_iastk hx (ias_step.2.2 _ hz53_29.2) hz227_32 d_Mo_readsStep_227 ?_
              refine j_aload_n hx d_Mo_readsStep_228 rfl 0 rfl ?_
              refine j_bipush (v := 59) hx d_Mo_readsStep_229 (by decide) ?_
              refine j_callVv hx (c_Mo_sign hG (up s9_5 (511 + (sN σ)) 3 (s9_5 111 32)) 59 (by exact pB_up hp5 (by omega))) mo_Mo_sign mv_Mo_sign t_1641 (by omega) rfl (by decide) (sh_111 _ _) rfl rfl (Nat.le_of_ble_eq_true rfl) d_Mo_readsStep_231 ?_
              exact j_vret hx hq d_Mo_readsStep_234 (by first | (first | (rw [wqF_60 hk6 zc29]; exact eg_2) | (rw [wqF_6 hk6 zc29]; unfold wqG; rw [← eg_2, hR9.2.1, ← eg_3]; unfold wqB; rw [if_neg (by decide), if_neg (by decide), if_neg (by decide), if_pos rfl, ← eg_4, ← e9, ← eg_5]; rfl)) | fail)
            · skip
              refine j_aload_n hx d_Mo_readsStep_181 rfl 0 rfl ?_
              refine j_aload_n hx d_Mo_readsStep_182 rfl 0 rfl ?_
              refine j_get hx ck_Mo 4 (by decide) t_1422 (by decide) (sh_111 _ _) rfl d_Mo_readsStep_183 ?_
              refine j_callVi hx (c_Mo_byteAt hG t (t 111 4) (by exact hW9.1.1) (by exact hW9.1.2.2)) mo_Mo_byteAt mv_Mo_byteAt t_1596 (by omega) rfl (by decide) (sh_111 _ _) rfl rfl (Nat.le_of_ble_eq_true rfl) d_Mo_readsStep_186 ?_
              refine j_bipush (v := 93) hx d_Mo_readsStep_189 (by decide) ?_
              refine j_icmp_eq (tgt := 205) hx d_Mo_readsStep_191 (by decide) (fun zc191 => ?_) (fun zc191 => ?_)
              · skip
                have e9 : t = wqR wqc1 rec 151 s9_4 := (wqR_stop (c := wqc1) (fun z => by first | exact zc178 z.1 | exact of_decide_eq_true z.2 zc191)).symm.trans hr9
                refine j_aload_n hx d_Mo_readsStep_205 rfl 0 rfl ?_
                refine j_bipush (v := 93) hx d_Mo_readsStep_206 (by decide) ?_
                refine j_callVv hx (c_Mo_sign hG t 93 (by exact hW9.1)) mo_Mo_sign mv_Mo_sign t_1641 (by omega) rfl (by decide) (sh_111 _ _) rfl rfl (Nat.le_of_ble_eq_true rfl) d_Mo_readsStep_208 ?_
                refine j_aload_n hx d_Mo_readsStep_211 rfl 0 rfl ?_
                refine j_dup hx d_Mo_readsStep_212 rfl ?_
                refine j_get hx ck_Mo 8 (by decide) t_1426 (by decide) (sh_111 _ _) rfl d_Mo_readsStep_213 ?_
                refine j_iconst (v := 1) hx d_Mo_readsStep_216 (by decide) ?_
                refine j_isub hx d_Mo_readsStep_217 ?_
                refine j_put hx ck_Mo 8 (by decide) t_1426 (by decide) (sh_111 _ _) rfl (Nat.le_of_ble_eq_true rfl) (sh_111 _ _) d_Mo_readsStep_218 ?_
                obtain ⟨s9_5, eg_5⟩ : ∃ z : St, z = mcl8 (msg t 93) := ⟨_, rfl⟩
                refine J.to (σ' := s9_5) (by rw [eg_5]; first | done | rfl) rfl ?_
                have hp5 : pB s9_5 := by rw [eg_5]; exact mcl8_p (msg_p hW9.1 (by decide))
                refine j_aload_n hx d_Mo_readsStep_221 rfl 2 rfl ?_
                refine j_iconst (v := 3) hx d_Mo_readsStep_222 (by decide) ?_
                refine j_aload_n hx d_Mo_readsStep_223 rfl 0 rfl ?_
                refine j_get hx ck_Mo 32 (by decide) t_1450 (by decide) (sh_111 _ _) rfl d_Mo_readsStep_224 ?_
                have hz227_33 : zin (3) 4 3 := by first | exact ⟨rfl, by decide⟩ | exact zin_nI (by omega) (by first | decide | omega) | exact zin_of (by omega) (by omega)
                refine j_iastk hx (ias_step.2.2 _ hz53_29.2) hz227_33 d_Mo_readsStep_227 ?_
                refine j_aload_n hx d_Mo_readsStep_228 rfl 0 rfl ?_
                refine j_bipush (v := 59) hx d_Mo_readsStep_229 (by decide) ?_
                refine j_callVv hx (c_Mo_sign hG (up s9_5 (511 + (sN σ)) 3 (s9_5 111 32)) 59 (by exact pB_up hp5 (by omega))) mo_Mo_sign mv_Mo_sign t_1641 (by omega) rfl (by decide) (sh_111 _ _) rfl rfl (Nat.le_of_ble_eq_true rfl) d_Mo_readsStep_231 ?_
                exact j_vret hx hq d_Mo_readsStep_234 (by first | (first | (rw [wqF_60 hk6 zc29]; exact eg_2) | (rw [wqF_6 hk6 zc29]; unfold wqG; rw [← eg_2, hR9.2.1, ← eg_3]; unfold wqB; rw [if_neg (by decide), if_neg (by decide), if_neg (by decide), if_pos rfl, ← eg_4, ← e9, ← eg_5]; rfl)) | fail)
              · skip
                have HGO := wqR_go (c := wqc1) (hf n0) hW9 ho9 hf9 ⟨zc178, decide_eq_true zc191⟩
                have hpr : pB (rec t) := ((hf n0) t hW9 ho9).1.1
                refine j_aload_n hx d_Mo_readsStep_194 rfl 0 rfl ?_
                refine j_callVv hx (hrec n0 t hW9 ho9) mo_Mo_readsStep mv_Mo_readsStep t_1701 (by omega) rfl (by decide) (sh_111 _ _) rfl rfl (Nat.le_of_ble_eq_true rfl) d_Mo_readsStep_195 ?_
                refine j_aload_n hx d_Mo_readsStep_198 rfl 0 rfl ?_
                refine j_callVv hx (c_Mo_blanks hG (rec t) (by exact hpr)) mo_Mo_blanks mv_Mo_blanks t_1592 (by omega) rfl (by decide) (sh_111 _ _) rfl rfl (Nat.le_of_ble_eq_true rfl) d_Mo_readsStep_199 ?_
                refine j_goto (tgt := 174) hx d_Mo_readsStep_202 (by decide) ?_
                refine J.lsub (ls' := [(0, .ref (G.1 111)), (1, .int 6), (2, .ref (G.1 (511 + (sN σ))))]) [0, 1, 2] rfl ?_
                refine J.to ?_ ?_ (ih174 _ ?_ (m - 1) (mbl (rec t)) HGO.2.2.1 HGO.2.2.2.1 HGO.2.2.2.2 (HGO.1.symm.trans hr9) rfl)
                · first | (rfl) | fail
                · first | (rfl) | fail
                · first | (have h8 := HGO.2.1; omega) | fail
        refine J.lsub (ls' := [(0, .ref (G.1 111)), (1, .int 6), (2, .ref (G.1 (511 + (sN σ))))]) [2, 1, 0] rfl ?_
        refine J.to ?_ ?_ (hl174 _ 151 s9_4 h6.2.1 ho4 hz4 rfl rfl)
        · first | (rfl) | fail
        · first | (rfl) | fail
      · exact absurd hP.2.1 zc37
    · skip
      rw [eg_1] at zc29
      exact j_vret hx hq d_Mo_readsStep_32 (by first | (first | (rw [wqF_60 hk6 zc29]; exact eg_2) | (rw [wqF_6 hk6 zc29]; unfold wqG; rw [← eg_2, hR9.2.1, ← eg_3]; unfold wqB; rw [if_neg (by decide), if_neg (by decide), if_neg (by decide), if_pos rfl, ← eg_4, ← e9, ← eg_5]; rfl)) | fail)
  rcases mzV_rng (t := σ) with z | z | z | z | z | z | z | z <;> contradiction

theorem c_Mo_readsN {l : Launch} {G : Gz} (hG : zI G) : ∀ (n : Nat) (op : Int32), op = nI (6 - n) → n ≤ 6 → ∀ σ : St, pW σ → σ 111 8 = op → MV l G y_Mo_readsStep prog_14_method_43_code 3 (6 + 6 * n) [.ref (G.1 111)] σ (wqN n σ) := by
  intro n
  induction n with
  | zero =>
    intro op hop _ σ hW ho
    exact c_Mo_readsStep hG σ (kr := 0) (n := 0) hW ho (fun s => s) (fun h => absurd (show op = 6 from hop) h) (fun h => absurd (show op = 6 from hop) h)
  | succ n ih =>
    intro op hop hn σ hW ho
    have hs : op + 1 = nI (6 - n) := by rw [hop, nI_s]; congr 1; omega
    have h := c_Mo_readsStep hG σ (kr := 6 + 6 * n) (n := n + 1) hW ho (wqN n) (fun _ => ih (op + 1) hs (by omega)) (fun _ => wqN_q n (op + 1) hs (by omega))
    rw [show 6 + 6 * (n + 1) = 6 + 6 * n + 6 by omega]
    exact h
