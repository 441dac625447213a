/-! ===== steps: steps 32, rows 511 .. ===== -/
abbrev sN (t : St) : Nat := (t 111 32).toInt.toNat
def pW (t : St) : Prop := pB t ∧ (t 111 2).toInt ≤ 150 ∧ (t 111 5 = 0 → 0 ≤ (t 111 32).toInt ∧ 2 * (t 111 32).toInt ≤ (t 111 4).toInt) ∧ ((0 ≤ (t 115 2).toInt ∧ (t 115 2).toInt ≤ 3) ∧ (0 ≤ (t 115 3).toInt ∧ (t 115 3).toInt ≤ 6)) ∧ ∀ s, s < 80 → 0 ≤ (t (511 + s) 1).toInt
/-- t' comes from t by reading steps: rows below r stand, a bytes gained, two for each step and g more -/
def okq (r : Nat) (a g : Int) (t u : St) : Prop := pB u ∧ u 111 2 = t 111 2 ∧ u 111 8 = t 111 8 ∧ (∀ o, o ≠ 111 → (o < 511 ∨ 591 ≤ o) → u o = t o) ∧ ((∀ s, s < 80 → 0 ≤ (t (511 + s) 1).toInt) → ∀ s, s < 80 → 0 ≤ (u (511 + s) 1).toInt) ∧ (u 111 5 = 0 → t 111 5 = 0 ∧ (t 111 32).toInt ≤ (u 111 32).toInt ∧ (t 111 4).toInt + a ≤ (u 111 4).toInt ∧ 2 * (u 111 32).toInt + (t 111 4).toInt + g ≤ 2 * (t 111 32).toInt + (u 111 4).toInt ∧ ∀ s, s < r → u (511 + s) = t (511 + s))
theorem okq.rf {r : Nat} {t : St} (h : pB t) : okq r 0 0 t t := ⟨h, rfl, rfl, fun _ _ _ => rfl, id, fun z => ⟨z, by omega, by omega, by omega, fun _ _ => rfl⟩⟩
theorem okq.tr {r : Nat} {a g a' g' : Int} {t u v : St} (h : okq r a g t u) (h2 : okq r a' g' u v) : okq r (a + a') (g + g') t v := by
  refine ⟨h2.1, h2.2.1.trans h.2.1, h2.2.2.1.trans h.2.2.1, fun o p q => (h2.2.2.2.1 o p q).trans (h.2.2.2.1 o p q), fun z => h2.2.2.2.2.1 (h.2.2.2.2.1 z), fun z => ?_⟩
  obtain ⟨p, q, x, s, f⟩ := h2.2.2.2.2.2 z
  obtain ⟨p', q', x', s', f'⟩ := h.2.2.2.2.2 p
  exact ⟨p', by omega, by omega, by omega, fun i hi => (f i hi).trans (f' i hi)⟩
theorem okq.wk {r r' : Nat} {a g a' g' : Int} {t u : St} (h : okq r a g t u) (hr : r' ≤ r) (ha : a' ≤ a) (hg : g' ≤ g) : okq r' a' g' t u := by
  refine ⟨h.1, h.2.1, h.2.2.1, h.2.2.2.1, h.2.2.2.2.1, fun z => ?_⟩
  obtain ⟨p, q, x, s, f⟩ := h.2.2.2.2.2 z
  exact ⟨p, by omega, by omega, by omega, fun i hi => f i (by omega)⟩
theorem okq.tr2 {r : Nat} {a g a' g' : Int} {t u v : St} (h : okq r a g t u) (h2 : okq (sN u) a' g' u v) (hr : r ≤ sN t) : okq r (a + a') (g + g') t v := by
  have hr' : r ≤ (t 111 32).toInt.toNat := hr
  refine ⟨h2.1, h2.2.1.trans h.2.1, h2.2.2.1.trans h.2.2.1, fun o p q => (h2.2.2.2.1 o p q).trans (h.2.2.2.1 o p q), fun z => h2.2.2.2.2.1 (h.2.2.2.2.1 z), fun z => ?_⟩
  obtain ⟨p, q, x, s, f⟩ := h2.2.2.2.2.2 z
  obtain ⟨p', q', x', s', f'⟩ := h.2.2.2.2.2 p
  exact ⟨p', by omega, by omega, by omega, fun i hi => (f i (by show i < (u 111 32).toInt.toNat; omega)).trans (f' i hi)⟩
theorem okr.q {r : Nat} {g : Int} {t u : St} (h : okr g t u) (h8 : u 111 8 = t 111 8) (h32 : u 111 32 = t 111 32) (ho : ∀ o, o ≠ 111 → u o = t o) : okq r g g t u := by
  refine ⟨h.1, h.2.1, h8, fun o p _ => ho o p, fun z s hs => by rw [ho _ (by omega)]; exact z s hs, fun z => ?_⟩
  obtain ⟨p, q⟩ := h.2.2 z
  exact ⟨p, by rw [h32]; omega, q, by rw [h32]; omega, fun s _ => ho _ (by omega)⟩
theorem okq.pW {r : Nat} {a g : Int} {t u : St} (h : okq r a g t u) (hW : pW t) (hg : 0 ≤ g) : pW u := by
  refine ⟨h.1, by rw [h.2.1]; exact hW.2.1, fun z => ?_, by rw [h.2.2.2.1 115 (by decide) (by decide)]; exact hW.2.2.2.1, h.2.2.2.2.1 hW.2.2.2.2⟩
  obtain ⟨p, q, x, s, f⟩ := h.2.2.2.2.2 z
  have := hW.2.2.1 p
  exact ⟨by omega, by omega⟩
theorem mbl_q {r : Nat} {t : St} (h : pB t) : okq r 0 0 t (mbl t) := okr.q (okr_bl h) (mbl_k (by decide)) (mbl_k (by decide)) (fun _ p => mbl_o p)
theorem mbz_o2 {t : St} {o : Nat} (h : o ≠ 111) : mbz t o = t o := by
  unfold mbz; split
  · exact mbl_o h
  · rfl
theorem mbz_q {r : Nat} {t : St} (h : pB t) : okq r 0 0 t (mbz t) := by
  unfold mbz; split
  · exact mbl_q h
  · exact okq.rf h
theorem msk_o {t : St} {o : Nat} (h : o ≠ 111) : msk t o = t o := by unfold msk; exact up_o h
theorem msk_q1 {r : Nat} {t : St} (h : pB t) (hw : ¬ wlen (t 111 2) (t 112) (t 111 4) = 0) : okq r 1 1 t (msk t) := okr.q (okr_sk1 h hw) (msk_k (by decide)) (msk_k (by decide)) (fun _ p => msk_o p)
theorem msg_q {r : Nat} {t : St} {c : Int32} (h : pB t) (h0 : 0 ≤ c) : okq r 1 1 t (msg t c) := okr.q (okr_sg h h0) (msg_k (by decide) (by decide) (by decide)) (msg_k (by decide) (by decide) (by decide)) (fun _ p => msg_o p)
theorem mnS_q {r : Nat} {t : St} {lo hi : Int32} (h : pB t) : okq r 1 1 t (mnS t lo hi) := okr.q (okr_nu h) (mnS_k (by decide) (by decide) (by decide)) (mnS_k (by decide) (by decide) (by decide)) (fun _ p => mnS_o p)
theorem mnV_rng {t : St} {hi : Int32} : 0 ≤ (mnV t 0 hi).toInt ∧ (mnV t 0 hi = 0 ∨ (mnV t 0 hi).toInt ≤ hi.toInt) := by
  unfold mnV
  split
  · split
    · rename_i h
      have hb : ¬ b2 ((0 : Int32) ≤ mnv (mn1 t) ∧ mnv (mn1 t) ≤ hi) = 0 := fun z => by
        unfold mn3 at h; rw [if_pos z] at h; exact absurd h (wr_5 (by decide))
      obtain ⟨p, q⟩ := b2_nz hb
      rw [i_le] at p q
      exact ⟨p, Or.inr q⟩
    · exact ⟨by decide, Or.inl rfl⟩
  · exact ⟨by decide, Or.inl rfl⟩
theorem okq_up {r i k : Nat} {a g : Int} {t u : St} {v : Int32} (h : okq r a g t u) (hr : r ≤ i) (hi : i < 80) (hv : k = 1 → 0 ≤ v.toInt) : okq r a g t (up u (511 + i) k v) := by
  have e : (up u (511 + i) k v) 111 = u 111 := up_o (show 111 ≠ 511 + i by omega)
  refine ⟨by have := h.1; unfold pB at *; rw [e]; exact this, by rw [e]; exact h.2.1, by rw [e]; exact h.2.2.1, fun o p q => by rw [up_o (show o ≠ 511 + i by omega)]; exact h.2.2.2.1 o p q, fun z s hs => ?_, fun z => ?_⟩
  · have h9 := h.2.2.2.2.1 z s hs
    by_cases hq : s = i
    · subst hq
      by_cases h1 : k = 1
      · subst h1; rw [up_rd]; exact hv rfl
      · rw [up_k (Ne.symm h1)]; exact h9
    · rw [up_o (show 511 + s ≠ 511 + i by omega)]; exact h9
  · rw [e] at z ⊢
    obtain ⟨p, q, x, s, f⟩ := h.2.2.2.2.2 z
    exact ⟨p, q, x, s, fun j hj => by rw [up_o (show 511 + j ≠ 511 + i by omega)]; exact f j hj⟩
theorem mnO_q {r i k : Nat} {a g : Int} {t u : St} {hi : Int32} (h : okq r a g t u) (hr : r ≤ i) (hi8 : i < 80) : okq r (a + 1) (g + 1) t (mnO u (511 + i) k 0 hi) := by
  unfold mnO; exact okq_up (okq.tr h (mnS_q h.1)) hr hi8 (fun _ => mnV_rng.1)
theorem okq_st {r : Nat} {a g : Int} {t u : St} (h : okq r a g t u) (hs : u 111 5 = 0 → 0 ≤ (u 111 32).toInt ∧ (u 111 32).toInt < 80) : okq r a (g - 2) t (up u 111 32 (u 111 32 + 1)) := by
  have e : ∀ k, k ≠ 32 → (up u 111 32 (u 111 32 + 1)) 111 k = u 111 k := fun k hk => up_k hk
  refine ⟨by have := h.1; unfold pB at *; rw [e 4 (by decide), e 2 (by decide)]; exact this, by rw [e 2 (by decide)]; exact h.2.1, by rw [e 8 (by decide)]; exact h.2.2.1, fun o p q => by rw [up_o p]; exact h.2.2.2.1 o p q, fun z s hs => by rw [up_o (by omega)]; exact h.2.2.2.2.1 z s hs, fun z => ?_⟩
  rw [e 5 (by decide)] at z
  have h9 := hs z
  have e2 : (u 111 32 + 1).toInt = (u 111 32).toInt + 1 := i_add rfl rfl (by omega) (by omega)
  obtain ⟨p, q, x, s, f⟩ := h.2.2.2.2.2 z
  rw [up_rd, e 4 (by decide), e2]
  exact ⟨p, by omega, by omega, by omega, fun j hj => by rw [up_o (by omega)]; exact f j hj⟩
theorem okq_par {r : Nat} {a g : Int} {u v : St} (h : ¬ b2 (mop u 111 5 = 0) = 0) (hv : okq r a g (mop u) v) : okq r a g u (mcl8 v) := by
  have hm := (mop_1 h).2.2
  have h8 : (mop u) 111 8 = u 111 8 + 1 := by rw [hm, up_rd]
  have e : ∀ k, k ≠ 8 → mop u 111 k = u 111 k := fun k hk => by rw [hm, up_k hk]
  have eo : ∀ o, o ≠ 111 → mop u o = u o := fun o ho => by rw [hm, up_o ho]
  have f : ∀ k, k ≠ 8 → mcl8 v 111 k = v 111 k := fun k hk => up_k hk
  have fo : ∀ o, o ≠ 111 → mcl8 v o = v o := fun o ho => up_o ho
  refine ⟨?_, ?_, ?_, fun o p q => by rw [fo o p, hv.2.2.2.1 o p q, eo o p], fun z s hs => ?_, fun z => ?_⟩
  · have := hv.1; unfold pB at *; rw [f 4 (by decide), f 2 (by decide)]; exact this
  · rw [f 2 (by decide), hv.2.1, e 2 (by decide)]
  · unfold mcl8; rw [up_rd, hv.2.2.1, h8]; exact Int32.add_sub_cancel _ _
  · rw [fo _ (by omega)]; exact hv.2.2.2.2.1 (fun j hj => by rw [eo _ (by omega)]; exact z j hj) s hs
  · rw [f 5 (by decide)] at z
    obtain ⟨p, q, x, s, w⟩ := hv.2.2.2.2.2 z
    rw [e 5 (by decide)] at p; rw [e 32 (by decide)] at q s; rw [e 4 (by decide)] at x s
    rw [f 32 (by decide), f 4 (by decide)]
    exact ⟨p, q, x, s, fun j hj => by rw [fo _ (by omega), w j hj, eo _ (by omega)]⟩
/-! nests -/
theorem gok_fr {σ t : St} : ∀ (d a b : Nat), (∀ s, a ≤ s → s < b → t (511 + s) = σ (511 + s)) → gok σ d a b → gok t d a b := by
  intro d
  induction d with
  | zero =>
    intro a b he h s h1 h2
    have e1 := he s h1 h2
    have := h s h1 h2
    unfold gst mgE at *
    rw [e1]; exact this
  | succ d ih =>
    intro a b he h s h1 h2
    have e1 := he s h1 h2
    have h9 := h s h1 h2
    refine ⟨by have := h9.1; unfold gst at *; rw [e1]; exact this, by have := h9.2.1; unfold mgE at *; rw [e1]; exact this, fun h6 => ?_⟩
    rw [e1] at h6
    have := ih (s + 1) (mgE σ s) (fun j hk hj => he j (by omega) (by have := h9.2.1.2; omega)) (h9.2.2 h6)
    unfold mgE at *; rw [e1]; exact this
theorem gok_mono {σ : St} : ∀ (d a b : Nat), gok σ d a b → gok σ (d + 1) a b := by
  intro d
  induction d with
  | zero => intro a b h s h1 h2; exact ⟨(h s h1 h2).1, (h s h1 h2).2.1, fun h6 => absurd h6 (h s h1 h2).2.2⟩
  | succ d ih => intro a b h s h1 h2; exact ⟨(h s h1 h2).1, (h s h1 h2).2.1, fun h6 => ih _ _ ((h s h1 h2).2.2 h6)⟩
theorem gok_e {σ : St} {d a b : Nat} (h : b ≤ a) : gok σ d a b := by
  cases d with
  | zero => intro s h1 h2; omega
  | succ d => intro s h1 h2; omega
theorem gok_join {σ : St} {d a b c : Nat} (h1 : gok σ d a b) (h2 : gok σ d b c) (hbc : b ≤ c) : gok σ d a c := by
  cases d with
  | zero =>
    intro s p q
    rcases Nat.lt_or_ge s b with z | z
    · have := h1 s p z; exact ⟨this.1, ⟨this.2.1.1, by have := this.2.1.2; omega⟩, this.2.2⟩
    · exact h2 s z q
  | succ d =>
    intro s p q
    rcases Nat.lt_or_ge s b with z | z
    · have := h1 s p z; exact ⟨this.1, ⟨this.2.1.1, by have := this.2.1.2; omega⟩, this.2.2⟩
    · exact h2 s z q
theorem gok_cons {t : St} {n i b : Nat} (hg : gst t i) (hi : i < b) (he : mgE t i = b) (h6 : t (511 + i) 0 = 6 → n ≠ 0 ∧ gok t (n - 1) (i + 1) b) (h0 : ¬ t (511 + i) 0 = 6 → b = i + 1) : gok t n i b := by
  cases n with
  | zero =>
    intro s p q
    have hk : ¬ t (511 + i) 0 = 6 := fun z => (h6 z).1 rfl
    have hs : s = i := by have := h0 hk; omega
    subst hs
    exact ⟨hg, ⟨by omega, by omega⟩, hk⟩
  | succ n =>
    intro s p q
    by_cases hs : s = i
    · subst hs
      exact ⟨hg, ⟨by omega, by omega⟩, fun z => by rw [he]; exact (h6 z).2⟩
    · have hk : t (511 + i) 0 = 6 := Decidable.byContradiction (fun z => by have := h0 z; omega)
      have hn := (h6 hk).2
      rw [Nat.add_sub_cancel] at hn
      have h9 := gok_1 hn (show i + 1 ≤ s by omega) q
      refine ⟨h9.1, h9.2, fun z => ?_⟩
      have h8 := gok_2 hn (show i + 1 ≤ s by omega) q z
      have := gok_mono _ _ _ h8.2
      rw [show n - 1 + 1 = n by omega] at this
      exact this
/-! one step -/
def wq2 (u : St) (k : Int32) : St := up (up (msk u) 111 32 (msk u 111 32 + 1)) (511 + sN (msk u)) 0 k
def wqR (c : St → Bool) (rec : St → St) : Nat → St → St
  | 0, s => s
  | n + 1, s => if s 111 5 = 0 ∧ c s = true then wqR c rec n (mbl (rec s)) else s
def wqc1 (s : St) : Bool := decide (¬ mbt (s 111 2) (s 112) (s 111 4) = 93)
def wqc2 (s : St) : Bool := decide (s 111 4 < s 111 2)
def wq6 (u : St) (o : Nat) : St := mbl (msg (mnO u o 1 0 30) 91)
def wqB (rec : St → St) (u : St) (k : Int32) (o : Nat) : St := if k = 0 ∨ k = 1 then mnO u o 1 0 (u 115 1 - 1) else if k = 2 then mnO (mnO u o 1 0 (u 115 2 - 1)) o 2 0 ((mnO u o 1 0 (u 115 2 - 1)) 115 0 - 1) else if k = 3 then mnO u o 1 0 (u 115 3 - 1) else if k = 6 then mcl8 (msg (wqR wqc1 rec 151 (wq6 u o)) 93) else u
def wqE (v : St) (o : Nat) : St := msg (up v o 3 (v 111 32)) 59
def wqG (rec : St → St) (u : St) (k : Int32) : St := wqE (wqB rec (wq2 u k) k (511 + sN (msk u))) (511 + sN (msk u))
def wqF (rec : St → St) (t : St) : St := if mzV t = -1 then wr (mbz t) 1 (mbz t 111 4) else if mzV t = 6 then (if b2 (mop (mbz t) 111 5 = 0) = 0 then mop (mbz t) else wqG rec (mop (mbz t)) 6) else wqG rec (mbz t) (mzV t)
def wqN : Nat → St → St
  | 0 => wqF (fun s => s)
  | n + 1 => wqF (wqN n)
theorem mzV_rng {t : St} : mzV t = -1 ∨ mzV t = 0 ∨ mzV t = 1 ∨ mzV t = 2 ∨ mzV t = 3 ∨ mzV t = 4 ∨ mzV t = 5 ∨ mzV t = 6 := by
  unfold mzV
  repeat' split
  all_goals simp
theorem mz_f {t : St} (h : ¬ mzV t = -1) : t 111 5 = 0 ∧ ¬ wlen (mbz t 111 2) (mbz t 112) (mbz t 111 4) = 0 := by
  have k : ∀ c : Int32, ¬ c = 0 → ¬ (t 111 5 = 0 ∧ ¬ wlen (mbz t 111 2) (mbz t 112) (mbz t 111 4) = 0) → b2 (mIs t c) = 0 := fun c hc hw => b2_f (fun z => hw ⟨z.1, mIs_w z hc⟩)
  apply Decidable.byContradiction
  intro hw
  apply h
  unfold mzV
  rw [if_pos (k _ (by decide) hw), if_pos (k _ (by decide) hw), if_pos (k _ (by decide) hw), if_pos (k _ (by decide) hw), if_pos (k _ (by decide) hw), if_pos (k _ (by decide) hw), if_pos (k _ (by decide) hw)]
abbrev rqF (rec : St → St) (n : Nat) (op : Int32) : Prop := ∀ t : St, pW t → t 111 8 = op → okq (sN t) 2 0 t (rec t) ∧ (rec t 111 5 = 0 → gok (rec t) n (sN t) (sN (rec t)))
theorem wqR_q {c : St → Bool} {rec : St → St} {n : Nat} {op : Int32} (hf : rqF rec n op) : ∀ (m : Nat) (s : St), pW s → s 111 8 = op → okq (sN s) 0 0 s (wqR c rec m s) ∧ (wqR c rec m s 111 5 = 0 → gok (wqR c rec m s) n (sN s) (sN (wqR c rec m s))) := by
  intro m
  induction m with
  | zero => intro s hW _; exact ⟨okq.rf hW.1, fun _ => gok_e (Nat.le_refl _)⟩
  | succ m ih =>
    intro s hW ho
    rw [wqR]
    split
    · obtain ⟨h1, h2⟩ := hf s hW ho
      have hb := mbl_q (r := sN s) h1.1
      have h3 := okq.tr h1 hb
      have hW3 := okq.pW h3 hW (by omega)
      obtain ⟨h4, h5⟩ := ih (mbl (rec s)) hW3 (by rw [h3.2.2.1]; exact ho)
      have h6 := okq.tr2 h3 h4 (Nat.le_refl _)
      refine ⟨okq.wk h6 (Nat.le_refl _) (by omega) (by omega), fun z => ?_⟩
      obtain ⟨p, q, x, y, f⟩ := h4.2.2.2.2.2 z
      have e32 : mbl (rec s) 111 32 = rec s 111 32 := mbl_k (by decide)
      have g1 := h2 (by rw [← (mbl_k (t := rec s) (show 5 ≠ 4 by decide))]; exact p)
      have g2 : gok (wqR c rec m (mbl (rec s))) n (sN s) (sN (mbl (rec s))) := by
        refine gok_fr n _ _ (fun j _ hj => ?_) (by rw [show sN (mbl (rec s)) = sN (rec s) by unfold sN; rw [e32]]; exact g1)
        rw [f j hj, mbl_o (by omega)]
      exact gok_join g2 (h5 z) (by unfold sN; omega)
    · exact ⟨okq.rf hW.1, fun _ => gok_e (Nat.le_refl _)⟩

theorem wqE_q {r i : Nat} {a g : Int} {t v : St} (h : okq r a g t v) (hr : r ≤ i) (hi : i < 80) : okq r (a + 1) (g + 1) t (wqE v (511 + i)) := by
  unfold wqE
  have h1 := okq_up (k := 3) (v := v 111 32) h hr hi (fun z => absurd z (by decide))
  exact okq.tr h1 (msg_q h1.1 (by decide))
theorem wqE_f {v : St} {o k : Nat} (ho : o ≠ 111) : (wqE v o) 111 5 = 0 → v 111 5 = 0 := by
  intro z
  unfold wqE msg at z
  have e : up v o 3 (v 111 32) 111 5 = v 111 5 := by rw [up_o (Ne.symm ho)]
  split at z
  · rename_i q; rw [← e]; exact q
  · rename_i q; exact absurd z q
theorem wqE_r {v : St} {o k : Nat} (ho : o ≠ 111) (hk : k ≠ 3) : wqE v o o k = v o k := by
  unfold wqE; rw [msg_o ho, up_k hk]
theorem wqE_3 {v : St} {o : Nat} (ho : o ≠ 111) : wqE v o o 3 = v 111 32 := by
  unfold wqE; rw [msg_o ho, up_rd]
theorem wqE_o {v : St} {o o' : Nat} (ho : o' ≠ 111) (hn : o' ≠ o) : wqE v o o' = v o' := by
  unfold wqE; rw [msg_o ho, up_o hn]
theorem wqE_32 {v : St} {o : Nat} (ho : o ≠ 111) : wqE v o 111 32 = v 111 32 := by
  unfold wqE; rw [msg_k (by decide) (by decide) (by decide), up_o (Ne.symm ho)]
theorem mnO_r0 {u : St} {o k f : Nat} {hi : Int32} (ho : o ≠ 111) (hf : f ≠ k) : mnO u o k 0 hi o f = u o f := by
  unfold mnO; rw [up_k hf, mnS_o ho]
theorem mnO_r1 {u : St} {o k : Nat} {hi : Int32} : mnO u o k 0 hi o k = mnV u 0 hi := by unfold mnO; exact up_rd
theorem mnV_lt {u : St} {c : Int32} {M : Int} (hM : 0 < M) (hc : c.toInt ≤ M) (h0 : -2147483648 ≤ c.toInt - 1) (h9 : c.toInt - 1 < 2147483648) : (mnV u 0 (c - 1)).toInt < M := by
  have e : (c - 1).toInt = c.toInt - 1 := i_sub rfl rfl h0 h9
  rcases (mnV_rng (t := u) (hi := c - 1)).2 with z | z
  · rw [z]; exact hM
  · omega
/-- where a step begins: the word is there -/
def wqP (i : Nat) (u : St) : Prop := pW u ∧ u 111 5 = 0 ∧ sN u = i ∧ ¬ wlen (u 111 2) (u 112) (u 111 4) = 0
theorem wq2_q {i : Nat} {u : St} {k : Int32} (h : wqP i u) : i < 80 ∧ sN (msk u) = i ∧ okq i 1 (-1) u (wq2 u k) ∧ wq2 u k (511 + i) 0 = k ∧ (∀ o, o ≠ 111 → (o < 511 ∨ 591 ≤ o) → wq2 u k o = u o) ∧ (wq2 u k 111 32).toInt = i + 1 ∧ wq2 u k 111 5 = 0 := by
  obtain ⟨hW, h5, hi, hw⟩ := h
  have h1 := msk_q1 (r := i) hW.1 hw
  have e32 : msk u 111 32 = u 111 32 := msk_k (by decide)
  have e5 : msk u 111 5 = u 111 5 := msk_k (by decide)
  have hs := hW.2.2.1 h5
  have hb := hW.1.2.1
  have hc := hW.2.1
  have hi' : (u 111 32).toInt.toNat = i := hi
  have hN : sN (msk u) = i := by unfold sN; rw [e32]; exact hi
  have h2 := okq_st h1 (fun _ => by rw [e32]; omega)
  have h3 := okq_up (i := i) (k := 0) (v := k) h2 (Nat.le_refl _) (by omega) (fun z => absurd z (by decide))
  have e2 : (u 111 32 + 1).toInt = (u 111 32).toInt + 1 := i_add rfl rfl (by omega) (by omega)
  unfold wq2
  rw [hN]
  refine ⟨by omega, rfl, okq.wk h3 (Nat.le_refl _) (by omega) (by omega), up_rd, fun o p q => ?_, ?_, ?_⟩
  · rw [up_o (by omega), up_o p, msk_o p]
  · rw [up_o (by omega), up_rd, e32, e2]; omega
  · rw [up_o (by omega), up_k (by decide), e5]; exact h5
/-- what a step's body keeps: row i as it must be -/
def wqK (n i : Nat) (k : Int32) (v : St) : Prop := v 111 5 = 0 → v (511 + i) 0 = k ∧ (k = 2 → (v (511 + i) 1).toInt < 3) ∧ (k = 3 → (v (511 + i) 1).toInt < 6) ∧ (k = 6 → n ≠ 0 ∧ gok v (n - 1) (i + 1) (sN v)) ∧ (¬ k = 6 → sN v = i + 1) ∧ i + 1 ≤ sN v
theorem wqG_q {n i : Nat} {k : Int32} {t v : St} (hi : i < 80) (h : okq i 1 (-1) t v) (hW : pW t) (hK : wqK n i k v) : okq i 2 0 t (wqE v (511 + i)) ∧ (wqE v (511 + i) 111 5 = 0 → gok (wqE v (511 + i)) n i (sN (wqE v (511 + i)))) := by
  have h1 := wqE_q h (Nat.le_refl _) hi
  refine ⟨okq.wk h1 (Nat.le_refl _) (by omega) (by omega), fun z => ?_⟩
  have hv := wqE_f (k := 0) (show 511 + i ≠ 111 by omega) z
  obtain ⟨k0, k2, k3, k6, kn, hl⟩ := hK hv
  have e32 : wqE v (511 + i) 111 32 = v 111 32 := wqE_32 (by omega)
  have hN : sN (wqE v (511 + i)) = sN v := by unfold sN; rw [e32]
  rw [hN]
  have r0 : wqE v (511 + i) (511 + i) 0 = k := by rw [wqE_r (by omega) (by decide)]; exact k0
  have r1 : wqE v (511 + i) (511 + i) 1 = v (511 + i) 1 := wqE_r (by omega) (by decide)
  have r3 : wqE v (511 + i) (511 + i) 3 = v 111 32 := wqE_3 (by omega)
  have hnn := h1.2.2.2.2.1 hW.2.2.2.2 i hi
  have hl' : i + 1 ≤ (v 111 32).toInt.toNat := hl
  have hE : mgE (wqE v (511 + i)) i = sN v := by unfold mgE; rw [r3]
  refine gok_cons ⟨hnn, fun q => ?_, fun q => ?_, by rw [r3]; omega⟩ (by omega) hE (fun q => ?_) (fun q => ?_)
  · rw [r0] at q; rw [r1]; exact k2 q
  · rw [r0] at q; rw [r1]; exact k3 q
  · rw [r0] at q
    refine ⟨(k6 q).1, ?_⟩
    have hg := (k6 q).2
    exact gok_fr _ _ _ (fun j p _ => wqE_o (by omega) (by omega)) hg
  · rw [r0] at q; exact kn q
theorem mnO_32 {u : St} {o k : Nat} {hi : Int32} (ho : o ≠ 111) : mnO u o k 0 hi 111 32 = u 111 32 := by
  unfold mnO; rw [up_o (Ne.symm ho), mnS_k (by decide) (by decide) (by decide)]
theorem wqK_n {n i : Nat} {k : Int32} {u v : St} (h : wqP i u) (h32 : v 111 32 = wq2 u k 111 32) (h0 : v (511 + i) 0 = k) (h2 : k = 2 → (v (511 + i) 1).toInt < 3) (h3 : k = 3 → (v (511 + i) 1).toInt < 6) (h6 : ¬ k = 6) : wqK n i k v := by
  have e := (wq2_q (k := k) h).2.2.2.2.2.1
  have hN : sN v = i + 1 := by unfold sN; rw [h32]; omega
  exact fun _ => ⟨h0, h2, h3, fun z => absurd z h6, fun _ => hN, by omega⟩
theorem wqB_n {n i : Nat} {k : Int32} {rec : St → St} {u : St} (h : wqP i u) (hk : k = 0 ∨ k = 1 ∨ k = 2 ∨ k = 3 ∨ k = 4 ∨ k = 5) : okq i 1 (-1) u (wqB rec (wq2 u k) k (511 + i)) ∧ wqK n i k (wqB rec (wq2 u k) k (511 + i)) := by
  obtain ⟨hi, hN, h1, hr0, hfo, h32, h5⟩ := wq2_q (k := k) h
  have e115 : wq2 u k 115 = u 115 := hfo 115 (by decide) (by decide)
  have b2 := h.1.2.2.2.1.1
  have b3 := h.1.2.2.2.1.2
  have hu : ∀ hi' : Int32, okq i 1 (-1) u (mnO (wq2 u k) (511 + i) 1 0 hi') := fun hi' => okq.wk (mnO_q h1 (Nat.le_refl _) hi) (Nat.le_refl _) (by omega) (by omega)
  have hm : ∀ hi' : Int32, (mnO (wq2 u k) (511 + i) 1 0 hi') (511 + i) 0 = k := fun hi' => by rw [mnO_r0 (by omega) (by decide)]; exact hr0
  have h3 : ∀ hi' : Int32, (mnO (wq2 u k) (511 + i) 1 0 hi') 111 32 = wq2 u k 111 32 := fun hi' => mnO_32 (by omega)
  rcases hk with q | q | q | q | q | q
  · have e : wqB rec (wq2 u k) k (511 + i) = mnO (wq2 u k) (511 + i) 1 0 (wq2 u k 115 1 - 1) := by unfold wqB; exact if_pos (Or.inl q)
    rw [e]; exact ⟨hu _, wqK_n h (h3 _) (hm _) (fun z => absurd (q.symm.trans z) (by decide)) (fun z => absurd (q.symm.trans z) (by decide)) (fun z => absurd (q.symm.trans z) (by decide))⟩
  · have e : wqB rec (wq2 u k) k (511 + i) = mnO (wq2 u k) (511 + i) 1 0 (wq2 u k 115 1 - 1) := by unfold wqB; exact if_pos (Or.inr q)
    rw [e]; exact ⟨hu _, wqK_n h (h3 _) (hm _) (fun z => absurd (q.symm.trans z) (by decide)) (fun z => absurd (q.symm.trans z) (by decide)) (fun z => absurd (q.symm.trans z) (by decide))⟩
  · have e : wqB rec (wq2 u k) k (511 + i) = mnO (mnO (wq2 u k) (511 + i) 1 0 (wq2 u k 115 2 - 1)) (511 + i) 2 0 ((mnO (wq2 u k) (511 + i) 1 0 (wq2 u k 115 2 - 1)) 115 0 - 1) := by
      unfold wqB; rw [if_neg (by rw [q]; decide), if_pos q]
    rw [e]
    refine ⟨okq.wk (mnO_q (hu _) (Nat.le_refl _) hi) (Nat.le_refl _) (by omega) (by omega), wqK_n h ?_ ?_ (fun _ => ?_) (fun z => absurd (q.symm.trans z) (by decide)) (fun z => absurd (q.symm.trans z) (by decide))⟩
    · rw [mnO_32 (by omega)]; exact h3 _
    · rw [mnO_r0 (by omega) (by decide)]; exact hm _
    · rw [mnO_r0 (by omega) (by decide), mnO_r1, e115]
      exact mnV_lt (by decide) b2.2 (by omega) (by omega)
  · have e : wqB rec (wq2 u k) k (511 + i) = mnO (wq2 u k) (511 + i) 1 0 (wq2 u k 115 3 - 1) := by unfold wqB; rw [if_neg (by rw [q]; decide), if_neg (by rw [q]; decide), if_pos q]
    rw [e]; refine ⟨hu _, wqK_n h (h3 _) (hm _) (fun z => absurd (q.symm.trans z) (by decide)) (fun _ => ?_) (fun z => absurd (q.symm.trans z) (by decide))⟩
    rw [mnO_r1, e115]
    exact mnV_lt (by decide) b3.2 (by omega) (by omega)
  · have e : wqB rec (wq2 u k) k (511 + i) = wq2 u k := by unfold wqB; rw [if_neg (by rw [q]; decide), if_neg (by rw [q]; decide), if_neg (by rw [q]; decide), if_neg (by rw [q]; decide)]
    rw [e]; exact ⟨h1, wqK_n h rfl hr0 (fun z => absurd (q.symm.trans z) (by decide)) (fun z => absurd (q.symm.trans z) (by decide)) (fun z => absurd (q.symm.trans z) (by decide))⟩
  · have e : wqB rec (wq2 u k) k (511 + i) = wq2 u k := by unfold wqB; rw [if_neg (by rw [q]; decide), if_neg (by rw [q]; decide), if_neg (by rw [q]; decide), if_neg (by rw [q]; decide)]
    rw [e]; exact ⟨h1, wqK_n h rfl hr0 (fun z => absurd (q.symm.trans z) (by decide)) (fun z => absurd (q.symm.trans z) (by decide)) (fun z => absurd (q.symm.trans z) (by decide))⟩
theorem wq6_q {i : Nat} {u : St} (h : wqP i u) : okq i 3 1 u (wq6 (wq2 u 6) (511 + i)) ∧ pW (wq6 (wq2 u 6) (511 + i)) ∧ wq6 (wq2 u 6) (511 + i) 111 8 = u 111 8 ∧ sN (wq6 (wq2 u 6) (511 + i)) = i + 1 ∧ wq6 (wq2 u 6) (511 + i) (511 + i) 0 = 6 := by
  obtain ⟨hi, hN, h1, hr0, hfo, h32, h5⟩ := wq2_q (k := 6) h
  have h2 := mnO_q (k := 1) (hi := 30) h1 (Nat.le_refl _) hi
  have h3 := okq.tr h2 (msg_q (c := 91) h2.1 (by decide))
  have h4 := okq.wk (okq.tr h3 (mbl_q h3.1)) (Nat.le_refl i) (show (3 : Int) ≤ 1 + 1 + 1 + 0 by decide) (show (1 : Int) ≤ -1 + 1 + 1 + 0 by decide)
  have e32 : wq6 (wq2 u 6) (511 + i) 111 32 = wq2 u 6 111 32 := by unfold wq6; rw [mbl_k (by decide), msg_k (by decide) (by decide) (by decide), mnO_32 (by omega)]
  refine ⟨h4, okq.pW h4 h.1 (by omega), h4.2.2.1, by unfold sN; rw [e32]; omega, ?_⟩
  unfold wq6; rw [mbl_o (by omega), msg_o (by omega), mnO_r0 (by omega) (by decide)]; exact hr0
theorem wqB_6 {n i : Nat} {op : Int32} {rec : St → St} {u : St} (h : wqP i (mop u)) (hm : ¬ b2 (mop u 111 5 = 0) = 0) (ho : mop u 111 8 = op) (hn : n ≠ 0) (hf : rqF rec (n - 1) op) : okq i 1 (-1) u (wqB rec (wq2 (mop u) 6) 6 (511 + i)) ∧ wqK n i 6 (wqB rec (wq2 (mop u) 6) 6 (511 + i)) := by
  obtain ⟨h1, hW, h8, hN, hr0⟩ := wq6_q h
  obtain ⟨h2, h3⟩ := wqR_q (c := wqc1) hf 151 _ hW (by rw [h8]; exact ho)
  have h4 := okq.tr h1 (okq.wk h2 (show i ≤ _ by rw [hN]; omega) (Int.le_refl _) (Int.le_refl _))
  have h5 := okq.tr h4 (msg_q (c := 93) h4.1 (by decide))
  have h6 := okq_par hm h5
  have e : wqB rec (wq2 (mop u) 6) 6 (511 + i) = mcl8 (msg (wqR wqc1 rec 151 (wq6 (wq2 (mop u) 6) (511 + i))) 93) := by
    unfold wqB; rw [if_neg (by decide), if_neg (by decide), if_neg (by decide), if_pos rfl]
  rw [e]
  refine ⟨okq.wk h6 (Nat.le_refl _) (by omega) (by omega), fun z => ?_⟩
  have z1 : msg (wqR wqc1 rec 151 (wq6 (wq2 (mop u) 6) (511 + i))) 93 111 5 = 0 := by unfold mcl8 at z; rw [up_k (by decide)] at z; exact z
  have z2 := ((msg_q (r := i) (c := 93) h4.1 (by decide)).2.2.2.2.2 z1).1
  obtain ⟨p, q, x, y, f⟩ := h2.2.2.2.2.2 z2
  have g := h3 z2
  rw [hN] at g f
  have hN' : (wq6 (wq2 (mop u) 6) (511 + i) 111 32).toInt.toNat = i + 1 := hN
  have ro : ∀ j, mcl8 (msg (wqR wqc1 rec 151 (wq6 (wq2 (mop u) 6) (511 + i))) 93) (511 + j) = wqR wqc1 rec 151 (wq6 (wq2 (mop u) 6) (511 + i)) (511 + j) := fun j => by unfold mcl8; rw [up_o (by omega), msg_o (by omega)]
  have e32 : mcl8 (msg (wqR wqc1 rec 151 (wq6 (wq2 (mop u) 6) (511 + i))) 93) 111 32 = wqR wqc1 rec 151 (wq6 (wq2 (mop u) 6) (511 + i)) 111 32 := by unfold mcl8; rw [up_k (by decide), msg_k (by decide) (by decide) (by decide)]
  have hS : sN (mcl8 (msg (wqR wqc1 rec 151 (wq6 (wq2 (mop u) 6) (511 + i))) 93)) = sN (wqR wqc1 rec 151 (wq6 (wq2 (mop u) 6) (511 + i))) := by unfold sN; rw [e32]
  refine ⟨by rw [ro, f i (by omega)]; exact hr0, fun z => absurd z (by decide), fun z => absurd z (by decide), fun _ => ⟨hn, ?_⟩, fun z => absurd rfl z, ?_⟩
  · rw [hS]; exact gok_fr _ _ _ (fun j _ _ => ro j) g
  · rw [hS]; unfold sN; omega
theorem mop_oo {u : St} {o : Nat} (h : o ≠ 111) : mop u o = u o := by
  unfold mop; split
  · exact wr_o h
  · split
    · exact up_o h
    · rfl
theorem mop_0q {r : Nat} {u : St} (hp : pB u) (h : b2 (mop u 111 5 = 0) = 0) : okq r 2 0 u (mop u) := by
  have h1 := mop_0 (a := 0) (g := 0) hp h
  exact ⟨h1.1, h1.2.1, h1.2.2.1, fun o p _ => mop_oo p, fun z s hs => by rw [mop_oo (by omega)]; exact z s hs, fun z => absurd z (b2_z h)⟩
theorem mop_W {u : St} (hW : pW u) (h : ¬ b2 (mop u 111 5 = 0) = 0) : pW (mop u) ∧ mop u 111 8 = u 111 8 + 1 := by
  have hm := (mop_1 h).2.2
  have e : ∀ k, k ≠ 8 → mop u 111 k = u 111 k := fun k hk => by rw [hm, up_k hk]
  refine ⟨?_, by rw [hm, up_rd]⟩
  unfold pW pB at *
  rw [e 4 (by decide), e 2 (by decide), e 5 (by decide), e 32 (by decide), mop_oo (by decide)]
  exact ⟨hW.1, hW.2.1, hW.2.2.1, hW.2.2.2.1, fun s hs => by rw [mop_oo (by omega)]; exact hW.2.2.2.2 s hs⟩
theorem wqF_q {rec : St → St} {n : Nat} {op : Int32} (hn : n = 0 → op = 6) (hf : ¬ op = 6 → rqF rec (n - 1) (op + 1)) : rqF (wqF rec) n op := by
  intro t hW ho
  have hz := mbz_q (r := sN t) hW.1
  have hW2 := okq.pW hz hW (by omega)
  have ho2 : mbz t 111 8 = op := by rw [hz.2.2.1]; exact ho
  have e32 : mbz t 111 32 = t 111 32 := by
    unfold mbz; split
    · exact mbl_k (by decide)
    · rfl
  have hN : sN (mbz t) = sN t := by unfold sN; rw [e32]
  have K : ∀ v, okq (sN t) 2 0 (mbz t) v → okq (sN t) 2 0 t v := fun v h => okq.wk (okq.tr hz h) (Nat.le_refl _) (by omega) (by omega)
  unfold wqF
  split
  · exact ⟨K _ (okq.wk (okr.q (okr_wr hW2.1 (by decide) 2) (wr_k (by decide) (by decide)) (wr_k (by decide) (by decide)) (fun _ p => wr_o p)) (Nat.le_refl _) (Int.le_refl _) (by omega)), fun z => absurd z (wr_5 (by decide))⟩
  · rename_i hv
    obtain ⟨t5, hw⟩ := mz_f hv
    have h5 : mbz t 111 5 = 0 := mbz_5.trans t5
    split
    · split
      · rename_i h; exact ⟨K _ (mop_0q hW2.1 h), fun z => absurd z (b2_z h)⟩
      · rename_i h
        have hm := mop_1 h
        have hM := mop_W hW2 h
        have n0 : ¬ op = 6 := by rw [← ho2]; exact hm.2.1
        have e : ∀ k, k ≠ 8 → mop (mbz t) 111 k = mbz t 111 k := fun k hk => by rw [hm.2.2, up_k hk]
        have hP : wqP (sN t) (mop (mbz t)) := ⟨hM.1, by rw [e 5 (by decide)]; exact h5, by unfold sN; rw [e 32 (by decide), e32], by rw [e 2 (by decide), e 4 (by decide), mop_oo (by decide)]; exact hw⟩
        obtain ⟨a, b⟩ := wqB_6 (n := n) hP h (by rw [hM.2, ho2]) (fun z => n0 (hn z)) (hf n0)
        have hr := wq2_q (k := 6) hP
        obtain ⟨c, d⟩ := wqG_q hr.1 a hW2 b
        unfold wqG; rw [hr.2.1]
        exact ⟨K _ c, d⟩
    · rename_i h6
      have hP : wqP (sN t) (mbz t) := ⟨hW2, h5, hN, hw⟩
      have hk : mzV t = 0 ∨ mzV t = 1 ∨ mzV t = 2 ∨ mzV t = 3 ∨ mzV t = 4 ∨ mzV t = 5 := by
        rcases mzV_rng (t := t) with z | z | z | z | z | z | z | z
        · exact absurd z hv
        · exact Or.inl z
        · exact Or.inr (Or.inl z)
        · exact Or.inr (Or.inr (Or.inl z))
        · exact Or.inr (Or.inr (Or.inr (Or.inl z)))
        · exact Or.inr (Or.inr (Or.inr (Or.inr (Or.inl z))))
        · exact Or.inr (Or.inr (Or.inr (Or.inr (Or.inr z))))
        · exact absurd z h6
      obtain ⟨a, b⟩ := wqB_n (n := n) (rec := rec) hP hk
      have hr := wq2_q (k := mzV t) hP
      obtain ⟨c, d⟩ := wqG_q hr.1 a hW2 b
      unfold wqG; rw [hr.2.1]
      exact ⟨K _ c, d⟩
theorem wqN_q : ∀ (n : Nat) (op : Int32), op = nI (6 - n) → n ≤ 6 → rqF (wqN n) n op := by
  intro n
  induction n with
  | zero => intro op h _; exact wqF_q (fun _ => h) (fun h6 => absurd (show op = 6 from h) h6)
  | succ n ih => intro op h hn; exact wqF_q (fun z => absurd z (by omega)) (fun _ => ih (op + 1) (by rw [h, nI_s]; congr 1; omega) (by omega))

