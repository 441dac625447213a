/-! ===== undo, images ===== -/
/-- a row of nights and its like, both as they must be -/
def RX (σ : St) (f g : Nat → Int32) : Prop := RN (tl σ 2) (tl σ 3) (tl σ 0) f g ∧ g 29 = -1
abbrev B3 (σ : St) : Prop := tl σ 2 ≤ 3 ∧ tl σ 3 ≤ 6 ∧ tl σ 0 ≤ 12
theorem RC.b3 {σ : St} (h : RC σ) : B3 σ := ⟨h.b.2.2.1, h.b.2.2.2.1, h.b.1⟩
theorem RX_eq {σ τ : St} {f g f' g' : Nat → Int32} (hb : B3 σ) (hT : ∀ k, tl τ k = tl σ k) (hf : ∀ k, k < 29 → f' k = f k) (hg : ∀ k, k < 30 → g' k = g k) (h : RX σ f g) : RX τ f' g' := by
  obtain ⟨⟨r0, r1, r2, r3, r4, r5, r6, r7, rd, rt, rc⟩, r29⟩ := h
  obtain ⟨b2, b3, b0⟩ := hb
  unfold RX
  rw [hT, hT, hT]
  refine ⟨⟨?_, ?_, ?_, ?_, ?_, ?_, ?_, ?_, fun d hd => ?_, fun x hx => ?_, fun x hx => ?_⟩, ?_⟩
  · rw [hf 0 (by decide), hg 27 (by decide)]; exact r0
  · rw [hf 1 (by decide), hg 28 (by decide)]; exact r1
  · rw [hf 2 (by decide), hg 23 (by decide)]; exact r2
  · rw [hf 3 (by decide), hg 24 (by decide)]; exact r3
  · rw [hf 4 (by decide), hg 25 (by decide)]; exact r4
  · rw [hf 5 (by decide), hg 26 (by decide)]; exact r5
  · rw [hf 6 (by decide), hg 0 (by decide)]; exact r6
  · rw [hf 7 (by decide), hg 4 (by decide)]; exact r7
  · rw [hf (8 + d) (by omega), hg (1 + d) (by omega)]; exact rd d hd
  · rw [hf (11 + x) (by omega), hg (5 + x) (by omega)]; exact rt x hx
  · rw [hf (17 + x) (by omega), hg (11 + x) (by omega)]; exact rc x hx
  · rw [hg 29 (by decide)]; exact r29
/-- the m-th image -/
def RI (σ : St) (m : Nat) : Prop := ∃ w, w ≤ 16 ∧ σ 108 m = nI w ∧ σ (607 + m) 0 = nI w ∧ RX σ (fun j => σ 106 (493 * m + 464 + j)) (fun j => σ (607 + m) (1 + j)) ∧ ∀ k, k < w → RX σ (fun j => σ 106 (493 * m + 29 * k + j)) (fun j => σ (607 + m) (32 + 31 * k + j))
/-- works and images kept -/
def RHw (σ : St) (w : Nat) : Prop := w ≤ 16 ∧ σ 111 38 = nI w ∧ σ 102 3 = nI w ∧ ∀ k, k < w → RX σ (fun j => σ 104 (29 * k + j)) (σ (591 + k))
def RHi (σ : St) (i : Nat) : Prop := i ≤ 3 ∧ σ 111 40 = nI i ∧ σ 102 4 = nI i ∧ ∀ m, m < i → RI σ m
def RH (σ : St) : Prop := (∃ w, RHw σ w) ∧ ∃ i, RHi σ i
theorem cpy_in {σ : St} {o n q m A B N : Nat} {c : Int32} (hc : ct c = N) (ho : o ≠ q) (h1 : A + N ≤ m) (h2 : B + N ≤ n) (hm : m < 50000) (hn : n < 50000) : ∀ k, k < N → cpy σ o n q m (nI A) (nI B) c (o + 1) (B + k) = σ (q + 1) (A + k) := by
  unfold cpy; rw [hc]
  have f : ∀ j, it (fun k s => rs s o n (nI B + nI k) (rg (s (q + 1)) m (nI A + nI k))) σ j (q + 1) = σ (q + 1) := fun j => by
    induction j with
    | zero => rfl
    | succ j ih => rw [it_s, rs_o (by omega), ih]
  have key : ∀ j, j ≤ N → ∀ k, k < j → it (fun k s => rs s o n (nI B + nI k) (rg (s (q + 1)) m (nI A + nI k))) σ j (o + 1) (B + k) = σ (q + 1) (A + k) := by
    intro j
    induction j with
    | zero => intro _ k hk; omega
    | succ j ih =>
      intro hj k hk
      rw [it_s, f j, znI_add (by omega), znI_add (by omega), rs_nI (by omega) (by omega), rg_nI (by omega) (by omega)]
      by_cases z : k = j
      · rw [z, up_rd]
      · rw [up_k (by omega)]; exact ih (by omega) k (by omega)
  exact key N (Nat.le_refl _)
theorem cpy_out {σ : St} {o n q m B N : Nat} {a c : Int32} (hc : ct c = N) (h2 : B + N ≤ n) (hn : n < 50000) {k : Nat} (hk : k < B ∨ B + N ≤ k) : cpy σ o n q m a (nI B) c (o + 1) k = σ (o + 1) k := by
  unfold cpy; rw [hc]
  have key : ∀ j, j ≤ N → it (fun k s => rs s o n (nI B + nI k) (rg (s (q + 1)) m (a + nI k))) σ j (o + 1) k = σ (o + 1) k := by
    intro j
    induction j with
    | zero => intro _; rfl
    | succ j ih =>
      intro hj
      rw [it_s, znI_add (by omega), rs_nI (by omega) (by omega), up_k (by omega)]
      exact ih (by omega)
  exact key N (Nat.le_refl _)
theorem nI_mul {a b : Nat} (h : a * b < 100000) : nI a * nI b = nI (a * b) := by
  unfold nI; exact (Int32.ofNat_mul a b).symm
theorem ct_29 : ct (29 : Int32) = 29 := by decide
theorem ct_464 : ct (464 : Int32) = 464 := by decide
/-- what stays: coast, law, log -/
def RB (σ : St) : Prop := RC σ ∧ LW σ σ ∧ lawOK σ ∧ RG σ σ ∧ (tl σ 2 = 0 ∨ 0 < tl σ 0) ∧ (∀ k, k < tl σ 4 → 1 ≤ (σ 119 k).toInt) ∧ C40 σ
/-- the tape and the counters -/
def RQ (σ : St) : Prop := (σ 1 1 = σ 111 1 ∧ 0 ≤ (σ 111 1).toInt ∧ (σ 111 1).toInt ≤ 600 ∧ σ 3 = σ 112) ∧ σ 1 6 = σ 111 3 ∧ σ 0 14 = σ 111 39 ∧ σ 0 15 = σ 113 0 ∧ σ 0 16 = σ 113 1
/-- the two sides of one world -/
def RA (σ : St) : Prop := RB σ ∧ RX σ (σ 83) (σ 122) ∧ RH σ ∧ RQ σ
theorem RC_eq2 {σ τ : St} (h : RC σ) (hA : ∀ o, 4 ≤ o → o < 27 → τ o = σ o) (h115 : τ 115 = σ 115) (h117 : τ 117 = σ 117) (h119 : τ 119 = σ 119) (hB : ∀ o, ((143 ≤ o ∧ o < 149) ∨ (152 ≤ o ∧ o < 155) ∨ (161 ≤ o ∧ o < 167)) → τ o = σ o) : RC τ := by
  have eT : ∀ k, tl τ k = tl σ k := fun k => by unfold tl; rw [h115]
  have b := h.b
  refine ⟨fun k hk => ?_, fun k hk => ?_, ?_, ?_, fun c hc => ?_, fun k hk => ?_, fun j hj => ?_, fun j hj => ?_, fun d hd => ?_, fun d hd => ?_, fun s hs => ?_⟩
  · rw [hA 6 (by decide) (by decide), h115]; exact h.e k hk
  · rw [h115]; exact h.p k hk
  · rw [eT, eT, eT, eT, eT]; exact b
  · rw [hA 4 (by decide) (by decide), h115]; exact h.sg
  · rw [eT] at hc; rw [hA 8 (by decide) (by decide), h117]; exact h.reef c hc
  · rw [eT] at hk; rw [hA 26 (by decide) (by decide), h119]; exact h.door k hk
  · rw [eT] at hj; rw [hA 10 (by decide) (by decide), hB (143 + j) (by omega)]; exact h.lx j hj
  · rw [eT] at hj; rw [hA 12 (by decide) (by decide), hB (143 + j) (by omega)]; exact h.lp j hj
  · rw [eT] at hd; rw [hA 14 (by decide) (by decide), hB (152 + d) (by omega)]; exact h.dx d hd
  · rw [eT] at hd; rw [hA 16 (by decide) (by decide), hB (152 + d) (by omega)]; exact h.dp d hd
  · rw [eT] at hs
    have g := h.sh s hs
    rw [hA 18 (by decide) (by decide), hA 20 (by decide) (by decide), hA 22 (by decide) (by decide), hA 24 (by decide) (by decide), hB (161 + s) (by omega)]; exact g
theorem RG_eq {σ τ : St} (h : RG σ σ) (h68 : τ 68 1 = σ 68 1) (h70 : τ 70 = σ 70) (h37 : τ 111 37 = σ 111 37) (hB : ∀ o, 487 ≤ o → o < 499 → τ o = σ o) : RG τ τ := by
  obtain ⟨a, b, c, d⟩ := h
  refine ⟨by rw [h68, h37]; exact a, by rw [h37]; exact b, fun k hk => ?_, fun m hm => ?_⟩
  · rw [h37] at hk; rw [h70, hB (487 + k) (by omega) (by omega)]; exact c k hk
  · rw [h70]
    rcases d m hm with z | ⟨k, hk, z⟩
    · exact Or.inl z
    · exact Or.inr ⟨k, by rw [h37]; exact hk, by rw [hB (487 + k) (by omega) (by omega)]; exact z⟩
/-- the objects that RB speaks of -/
abbrev oB (o : Nat) : Prop := (4 ≤ o ∧ o < 27) ∨ o = 50 ∨ o = 52 ∨ o = 54 ∨ o = 70 ∨ o = 115 ∨ o = 117 ∨ o = 119 ∨ (143 ≤ o ∧ o < 149) ∨ (152 ≤ o ∧ o < 155) ∨ (161 ≤ o ∧ o < 327) ∨ (487 ≤ o ∧ o < 499)
theorem RB_fr {σ τ : St} (h : RB σ) (hE : ∀ o, oB o → τ o = σ o) (h68 : τ 68 1 = σ 68 1) (h23 : τ 111 23 = σ 111 23) (h37 : τ 111 37 = σ 111 37) : RB τ := by
  obtain ⟨hC, hL, hO, hG, x1, x2, x3⟩ := h
  have eT : ∀ k, tl τ k = tl σ k := fun k => by unfold tl; rw [hE 115 (by decide)]
  refine ⟨RC_eq2 hC (fun o a b => hE o (by omega)) (hE 115 (by decide)) (hE 117 (by decide)) (hE 119 (by decide)) (fun o a => hE o (by omega)), LW_eq hL (hE 50 (by decide)) (hE 52 (by decide)) (hE 54 (by decide)) h23 (fun k hk => hE (167 + k) (by omega)), lawOK_eq (fun o a b => hE o (by omega)) h23 hO, RG_eq hG h68 (hE 70 (by decide)) h37 (fun o a b => hE o (by omega)), ?_, fun k hk => ?_, fun i hi => ?_⟩
  · rw [eT, eT]; exact x1
  · rw [eT] at hk; rw [hE 119 (by decide)]; exact x2 k hk
  · rw [eT] at hi; have := hC.b.2.2.2.1; rw [hE (161 + i) (by omega)]; exact x3 i hi
theorem RB.c {σ : St} (h : RB σ) : RC σ := h.1
theorem RB.t {σ τ : St} (hE : ∀ o, oB o → τ o = σ o) : ∀ k, tl τ k = tl σ k := fun k => by unfold tl; rw [hE 115 (by decide)]
theorem RHw_fr {σ τ : St} {w : Nat} (hb : B3 σ) (hT : ∀ k, tl τ k = tl σ k) (h : RHw σ w) (h38 : τ 111 38 = σ 111 38) (h3 : τ 102 3 = σ 102 3) (h104 : τ 104 = σ 104) (hR : ∀ k, k < 16 → τ (591 + k) = σ (591 + k)) : RHw τ w := by
  obtain ⟨a, b, c, d⟩ := h
  refine ⟨a, by rw [h38]; exact b, by rw [h3]; exact c, fun k hk => ?_⟩
  refine RX_eq hb hT (fun j _ => ?_) (fun j _ => ?_) (d k hk)
  · show τ 104 (29 * k + j) = σ 104 (29 * k + j); rw [h104]
  · rw [hR k (by omega)]
theorem RI_fr {σ τ : St} {m : Nat} (hb : B3 σ) (hT : ∀ k, tl τ k = tl σ k) (h : RI σ m) (h108 : τ 108 m = σ 108 m) (h106 : ∀ j, j < 493 → τ 106 (493 * m + j) = σ 106 (493 * m + j)) (hR : τ (607 + m) = σ (607 + m)) : RI τ m := by
  obtain ⟨w, a, b, c, d, e⟩ := h
  refine ⟨w, a, by rw [h108]; exact b, by rw [hR]; exact c, ?_, fun k hk => ?_⟩
  · refine RX_eq hb hT (fun j hj => ?_) (fun j _ => ?_) d
    · show τ 106 (493 * m + 464 + j) = σ 106 (493 * m + 464 + j); rw [Nat.add_assoc, h106 (464 + j) (by omega)]
    · show τ (607 + m) (1 + j) = σ (607 + m) (1 + j); rw [hR]
  · refine RX_eq hb hT (fun j hj => ?_) (fun j _ => ?_) (e k hk)
    · show τ 106 (493 * m + 29 * k + j) = σ 106 (493 * m + 29 * k + j); rw [Nat.add_assoc, h106 (29 * k + j) (by omega)]
    · show τ (607 + m) (32 + 31 * k + j) = σ (607 + m) (32 + 31 * k + j); rw [hR]
theorem RHi_fr {σ τ : St} {i : Nat} (hb : B3 σ) (hT : ∀ k, tl τ k = tl σ k) (h : RHi σ i) (h40 : τ 111 40 = σ 111 40) (h4 : τ 102 4 = σ 102 4) (h106 : τ 106 = σ 106) (h108 : τ 108 = σ 108) (hR : ∀ m, m < 3 → τ (607 + m) = σ (607 + m)) : RHi τ i := by
  obtain ⟨a, b, c, d⟩ := h
  exact ⟨a, by rw [h40]; exact b, by rw [h4]; exact c, fun m hm => RI_fr hb hT (d m hm) (by rw [h108]) (fun j _ => by rw [h106]) (hR m (by omega))⟩
/-- of undo: what the class does -/
theorem und_c {σ : St} {w : Nat} (h3 : σ 102 3 = nI (w + 1)) (hw : w < 16) : (∀ k, k < 29 → uwS (up σ 0 14 0) 83 k = σ 104 (29 * w + k)) ∧ uwS (up σ 0 14 0) 102 3 = nI w ∧ uwS (up σ 0 14 0) 0 14 = 0 ∧ (∀ o, o ≠ 0 → o ≠ 83 → o ≠ 102 → uwS (up σ 0 14 0) o = σ o) ∧ (∀ k, k ≠ 3 → uwS (up σ 0 14 0) 102 k = σ 102 k) ∧ ∀ k, k ≠ 14 → uwS (up σ 0 14 0) 0 k = σ 0 k := by
  have e3 : (up σ 0 14 0) 102 3 - 1 = nI w := by rw [up_o (by decide), h3, nI_m1 (by omega)]
  have eS : uwS (up σ 0 14 0) = cpy (up (up σ 0 14 0) 102 3 (nI w)) 82 29 103 464 (nI (29 * w)) (nI 0) 29 := by
    unfold uwS
    rw [e3, up_rd, show (29 : Int32) = nI 29 from rfl, nI_mul (by omega), Nat.mul_comm]; rfl
  rw [eS]
  refine ⟨fun k hk => ?_, ?_, ?_, fun o a b c => ?_, fun k hk => ?_, fun k hk => ?_⟩
  · have := cpy_in (σ := up (up σ 0 14 0) 102 3 (nI w)) (o := 82) (n := 29) (q := 103) (m := 464) (A := 29 * w) (B := 0) (N := 29) ct_29 (by decide) (by omega) (by decide) (by decide) (by decide) k hk
    rw [Nat.zero_add] at this
    rw [show (83 : Nat) = 82 + 1 from rfl, this, up_o (by decide), up_o (by decide)]
  · rw [cpy_o (by decide), up_rd]
  · rw [cpy_o (by decide), up_o (by decide), up_rd]
  · rw [cpy_o b, up_o c, up_o a]
  · rw [cpy_o (by decide), up_k hk, up_o (by decide)]
  · rw [cpy_o (by decide), up_o (by decide), up_k hk]
theorem und_m {σ : St} {w : Nat} (hw : w < 16) : (∀ k, k < 31 → und σ w 122 k = σ (591 + w) k) ∧ und σ w 111 38 = nI w ∧ und σ w 111 39 = 0 ∧ (∀ o, o ≠ 111 → o ≠ 122 → und σ w o = σ o) ∧ ∀ k, k ≠ 0 → k ≠ 38 → k ≠ 39 → und σ w 111 k = σ 111 k := by
  unfold und t0
  refine ⟨fun k hk => ?_, ?_, ?_, fun o a b => ?_, fun k a b c => ?_⟩
  · rw [up_o (by decide), fl_in hk]
  · rw [up_k (by decide), fl_o (by decide), up_rd]
  · rw [up_rd]
  · rw [up_o a, fl_o b, up_o a, up_o a]
  · rw [up_k c, fl_o (by decide), up_k b, up_k a]
theorem RX.r {σ τ : St} {f g : Nat → Int32} (hT : ∀ k, tl τ k = tl σ k) (h : RX σ f g) : RX τ f g := by unfold RX at *; rw [hT, hT, hT]; exact h
theorem RA_und {σ : St} (h : RA σ) {w : Nat} (h38 : σ 111 38 = nI (w + 1)) (hw : w < 16) : RA (und (uwS (up σ 0 14 0)) w) ∧ uwS (up σ 0 14 0) 102 3 = nI w := by
  obtain ⟨hB, hX, ⟨⟨w', hw1, hw2, hw3, hw4⟩, i, hI⟩, hQ⟩ := h
  have hb := hB.c.b3
  have ew : w' = w + 1 := by
    have := hw2.symm.trans h38
    rw [znI_eq (by omega) (by omega)] at this; exact this
  subst ew
  obtain ⟨c1, c2, c3, c4, c5, c6⟩ := und_c hw3 hw
  obtain ⟨m1, m2, m3, m4, m5⟩ := und_m (σ := uwS (up σ 0 14 0)) hw
  have fc : ∀ o, o ≠ 0 → o ≠ 83 → o ≠ 102 → o ≠ 111 → o ≠ 122 → und (uwS (up σ 0 14 0)) w o = σ o := fun o a b c d e => by rw [m4 o d e, c4 o a b c]
  have f111 : ∀ k, k ≠ 0 → k ≠ 38 → k ≠ 39 → und (uwS (up σ 0 14 0)) w 111 k = σ 111 k := fun k a b c => by rw [m5 k a b c, c4 111 (by decide) (by decide) (by decide)]
  have hE : ∀ o, oB o → und (uwS (up σ 0 14 0)) w o = σ o := fun o ho => fc o (by omega) (by omega) (by omega) (by omega) (by omega)
  have hT := RB.t hE
  refine ⟨⟨RB_fr hB hE (by rw [fc 68 (by decide) (by decide) (by decide) (by decide) (by decide)]) (f111 23 (by decide) (by decide) (by decide)) (f111 37 (by decide) (by decide) (by decide)), ?_, ⟨⟨w, ?_⟩, i, ?_⟩, ?_⟩, c2⟩
  · refine RX_eq hb hT (fun k hk => ?_) (fun k hk => ?_) (hw4 w (by omega))
    · rw [m4 83 (by decide) (by decide)]; exact c1 k hk
    · rw [m1 k (by omega), c4 (591 + w) (by omega) (by omega) (by omega)]
  · refine ⟨by omega, m2, by rw [m4 102 (by decide) (by decide)]; exact c2, fun k hk => ?_⟩
    refine RX_eq hb hT (fun j _ => ?_) (fun j _ => ?_) (hw4 k (by omega))
    · show und (uwS (up σ 0 14 0)) w 104 (29 * k + j) = σ 104 (29 * k + j)
      rw [fc 104 (by decide) (by decide) (by decide) (by decide) (by decide)]
    · rw [fc (591 + k) (by omega) (by omega) (by omega) (by omega) (by omega)]
  · exact RHi_fr hb hT hI (f111 40 (by decide) (by decide) (by decide)) (by rw [m4 102 (by decide) (by decide)]; exact c5 4 (by decide)) (fc 106 (by decide) (by decide) (by decide) (by decide) (by decide)) (fc 108 (by decide) (by decide) (by decide) (by decide) (by decide)) (fun m _ => fc (607 + m) (by omega) (by omega) (by omega) (by omega) (by omega))
  · obtain ⟨⟨q1, q2, q3, q4⟩, q5, q6, q7, q8⟩ := hQ
    refine ⟨⟨?_, ?_, ?_, ?_⟩, ?_, ?_, ?_, ?_⟩
    · rw [fc 1 (by decide) (by decide) (by decide) (by decide) (by decide), f111 1 (by decide) (by decide) (by decide)]; exact q1
    · rw [f111 1 (by decide) (by decide) (by decide)]; exact q2
    · rw [f111 1 (by decide) (by decide) (by decide)]; exact q3
    · rw [fc 3 (by decide) (by decide) (by decide) (by decide) (by decide), fc 112 (by decide) (by decide) (by decide) (by decide) (by decide)]; exact q4
    · rw [fc 1 (by decide) (by decide) (by decide) (by decide) (by decide), f111 3 (by decide) (by decide) (by decide)]; exact q5
    · rw [m4 0 (by decide) (by decide), c3, m3]
    · rw [m4 0 (by decide) (by decide), c6 15 (by decide), fc 113 (by decide) (by decide) (by decide) (by decide) (by decide)]; exact q7
    · rw [m4 0 (by decide) (by decide), c6 16 (by decide), fc 113 (by decide) (by decide) (by decide) (by decide) (by decide)]; exact q8
