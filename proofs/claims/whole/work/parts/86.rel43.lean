/-! ===== a work is done on both sides ===== -/
def RUN (σ s t : St) : Prop := (∀ o, o < 111 → o ≠ 56 → o ≠ 58 → o ≠ 74 → o ≠ 83 → o ≠ 86 → o ≠ 88 → o ≠ 90 → o ≠ 92 → s o = σ o) ∧ (∀ k, k ≠ 4 → k ≠ 5 → k ≠ 6 → s 74 k = σ 74 k) ∧ (∀ o, 111 < o → o ≠ 120 → o ≠ 121 → o ≠ 122 → t o = σ o) ∧ (∀ f, 0 < f → f < 41 → f ≠ 39 → t 111 f = σ 111 f) ∧ (s 74 4 = t 111 46 ∧ s 74 5 = t 111 47 ∧ s 74 6 = t 111 39) ∧ RK2 (fun _ => 0) (tl σ 2) (tl σ 3) (tl σ 0) (s 83) (t 122)
theorem rk2_rn {nd ns nc : Nat} {f g : Nat → Int32} (h : RK2 (fun _ => 0) nd ns nc f g) : RN nd ns nc f g ∧ g 29 = -1 := by
  obtain ⟨r0, r1, r2, r3, r4, r5, r6, r7, rd, rt, rc, r29⟩ := h
  rw [Int32.add_zero] at r2 r3 r4 r5
  exact ⟨⟨r0, r1, r2, r3, r4, r5, r6, r7, rd, rt, rc⟩, r29⟩
theorem rn_rk2 {nd ns nc : Nat} {f g : Nat → Int32} (h : RN nd ns nc f g) (h29 : g 29 = -1) : RK2 (fun _ => 0) nd ns nc f g := by
  obtain ⟨r0, r1, r2, r3, r4, r5, r6, r7, rd, rt, rc⟩ := h
  refine ⟨r0, r1, ?_, ?_, ?_, ?_, r6, r7, rd, rt, rc, h29⟩
  · rw [Int32.add_zero]; exact r2
  · rw [Int32.add_zero]; exact r3
  · rw [Int32.add_zero]; exact r4
  · rw [Int32.add_zero]; exact r5
def mx (s t : St) : St := fun o => if o < 111 then s o else t o
theorem mx_c {s t : St} {o : Nat} (h : o < 111) : mx s t o = s o := if_pos h
theorem mx_r {s t : St} {o : Nat} (h : 111 ≤ o) : mx s t o = t o := if_neg (by omega)
theorem mx_x {s t : St} : sx (mx s t) t := ⟨fun o a _ _ => (mx_r (by omega)).symm, fun f _ _ => by rw [mx_r (by decide)]⟩
theorem RUN.rw {σ s t s' t' : St} (R : RUN σ s t) (hs : ∀ o, o ≠ 83 → s' o = s o) (ht : ∀ o, o ≠ 122 → t' o = t o) (hk : RK2 (fun _ => 0) (tl σ 2) (tl σ 3) (tl σ 0) (s' 83) (t' 122)) : RUN σ s' t' := by
  obtain ⟨a, b, c, d, e, -⟩ := R
  refine ⟨fun o h1 h2 h3 h4 h5 h6 h7 h8 h9 => ?_, fun k h1 h2 h3 => ?_, fun o h1 h2 h3 h4 => ?_, fun f h1 h2 h3 => ?_, ?_, hk⟩
  · rw [hs o h5]; exact a o h1 h2 h3 h4 h5 h6 h7 h8 h9
  · rw [hs 74 (by decide)]; exact b k h1 h2 h3
  · rw [ht o h4]; exact c o h1 h2 h3 h4
  · rw [ht 111 (by decide)]; exact d f h1 h2 h3
  · rw [hs 74 (by decide), ht 111 (by decide)]; exact e
theorem run_ctx {σ s t : St} (h : RC σ) (hL : LW σ σ) (hO : lawOK σ) (R : RUN σ s t) : RC (mx s t) ∧ LW (mx s t) (mx s t) ∧ lawOK (mx s t) ∧ RNs (mx s t) ∧ ∀ k, tl (mx s t) k = tl σ k := by
  obtain ⟨a, b, c, d, e, f⟩ := R
  have hT : ∀ k, tl (mx s t) k = tl σ k := fun k => by unfold tl; rw [mx_r (by decide), c 115 (by decide) (by decide) (by decide) (by decide)]
  have cs : ∀ o, o < 56 → mx s t o = σ o := fun o ho => by rw [mx_c (by omega)]; exact a o (by omega) (by omega) (by omega) (by omega) (by omega) (by omega) (by omega) (by omega) (by omega)
  have cr : ∀ o, 122 < o → mx s t o = σ o := fun o ho => by rw [mx_r (by omega)]; exact c o (by omega) (by omega) (by omega) (by omega)
  have c115 : ∀ o, 111 < o → o < 120 → mx s t o = σ o := fun o h1 h2 => by rw [mx_r (by omega)]; exact c o h1 (by omega) (by omega) (by omega)
  have c23 : mx s t 111 23 = σ 111 23 := by rw [mx_r (by decide)]; exact d 23 (by decide) (by decide) (by decide)
  obtain ⟨f1, f2⟩ := rk2_rn f
  refine ⟨RC_eq2 h (fun o _ h2 => cs o (by omega)) (c115 115 (by decide) (by decide)) (c115 117 (by decide) (by decide)) (c115 119 (by decide) (by decide)) (fun o ho => cr o (by omega)), LW_eq hL (cs 50 (by decide)) (cs 52 (by decide)) (cs 54 (by decide)) c23 (fun k hk => cr (167 + k) (by omega)), lawOK_eq (fun o h1 h2 => cr o (by omega)) c23 hO, ⟨?_, ?_⟩, hT⟩
  · rw [hT, hT, hT, mx_c (by decide), mx_r (by decide)]; exact f1
  · rw [mx_r (by decide)]; exact f2
theorem run_pass {σ s t : St} (h : RC σ) (hL : LW σ σ) (hO : lawOK σ) (R : RUN σ s t) {i : Nat} (hi : i < tl σ 3) : RUN σ (psP s 81 (nI i)) (mpS t 122 i) := by
  obtain ⟨k1, k2, k3, hRN, k4⟩ := run_ctx h hL hO R
  obtain ⟨ra, rb, rc, rd, ⟨re1, re2, re3⟩, rk⟩ := R
  have b3 : tl σ 3 ≤ 6 := h.b.2.2.2.1
  have b0 : tl σ 0 ≤ 12 := h.b.1
  have hPS : PS (mx s t) (pbS s 81) := PS_begin2 k1 hRN (fun o ho => (mx_c ho).symm)
  have hi2 : i < tl (mx s t) 3 := by rw [k4]; exact hi
  obtain ⟨g1, g2, -⟩ := psk_e k1 k2 k3 hi2 hPS mx_x (fun k hk => pbS_90 (by omega))
  have hc := trF_c (mx_x (s := s) (t := t)) (i := i)
  obtain ⟨a1, a2⟩ := al_e k1 g2 ((mx_x (s := s) (t := t)).tF (o := 122) (s := i)) hi2 g1 hc
  rw [k4] at hc
  have hq : sq t (trF t 122 i) := sq.rf.tF
  have hsh : trF t 122 i (161 + i) = σ (161 + i) := by rw [hq.1 _ (by omega) (by omega) (by omega), rc _ (by omega) (by omega) (by omega) (by omega)]
  have e18 : (psk (pbS s 81) (nI i)).2 18 = σ 18 := by
    rw [pske_o (by decide) (by decide) (by decide) (by decide) (by decide) (by decide)]; exact ra 18 (by decide) (by decide) (by decide) (by decide) (by decide) (by decide) (by decide) (by decide) (by decide)
  have hsc : sC (psk (pbS s 81) (nI i)).2 (nI i) = trF t 122 i (161 + i) 0 := by
    rw [sC_eq e18, hsh]; exact h.s0 hi
  have e83 : (psk (pbS s 81) (nI i)).2 83 = s 83 := pske_o (by decide) (by decide) (by decide) (by decide) (by decide) (by decide)
  have r := rk_pass (s := (psk (pbS s 81) (nI i)).2) (o := 81) (ro := 122) (by decide) (by decide) (show i < 6 by omega) h.b.2.2.1 b3 b0 g1 (hc.imp id (fun ⟨c, a, b⟩ => ⟨c, by omega, b⟩)) a1 a2 hsc (by
    show RK2 _ _ _ _ ((psk (pbS s 81) (nI i)).2 83) _
    rw [e83, hq.1 122 (by decide) (by decide) (by decide)]; exact rk)
  have fr : ∀ o, o ≠ 83 → psP s 81 (nI i) o = (psk (pbS s 81) (nI i)).2 o := fun o ho => by unfold psP; exact hps_o ho
  have fm : ∀ o, o ≠ 122 → mpS t 122 i o = trF t 122 i o := fun o ho => by rw [mpS_T]; exact mpT_o ho
  have f74 : psP s 81 (nI i) 74 = s 74 := by rw [fr 74 (by decide)]; exact pske_o (by decide) (by decide) (by decide) (by decide) (by decide) (by decide)
  have f1 : ∀ f, f < 41 → mpS t 122 i 111 f = t 111 f := fun f hf => by rw [fm 111 (by decide)]; exact hq.2 f hf
  have f4 : ∀ f, 46 ≤ f → mpS t 122 i 111 f = t 111 f := fun f hf => by rw [fm 111 (by decide)]; exact trF_f hf
  refine ⟨fun o x1 x2 x3 x4 x5 x6 x7 x8 x9 => ?_, fun k x1 x2 x3 => ?_, fun o x1 x2 x3 x4 => ?_, fun f x1 x2 x3 => ?_, ⟨?_, ?_, ?_⟩, ?_⟩
  · rw [fr o x5, pske_o x2 x3 x6 x7 x8 x9]; exact ra o x1 x2 x3 x4 x5 x6 x7 x8 x9
  · rw [f74]; exact rb k x1 x2 x3
  · rw [fm o x4, hq.1 o (by omega) x2 x3]; exact rc o x1 x2 x3 x4
  · rw [f1 f x2]; exact rd f x1 x2 x3
  · rw [f74, f4 46 (by decide)]; exact re1
  · rw [f74, f4 47 (by decide)]; exact re2
  · rw [f74, f1 39 (by decide)]; exact re3
  · rw [mpS_T]; exact r
theorem RK2.burn {K : Nat → Int32} {nd ns nc : Nat} {f g : Nat → Int32} {x : Int32} (hnd : nd ≤ 3) (hns : ns ≤ 6) (hnc : nc ≤ 12) (h : RK2 K nd ns nc f g) : RK2 K nd ns nc (upd f 6 x) (upd g 0 x) := by
  obtain ⟨r0, r1, r2, r3, r4, r5, r6, r7, rd, rt, rc, r29⟩ := h
  refine ⟨?_, ?_, ?_, ?_, ?_, ?_, ?_, ?_, fun d hd => ?_, fun y hy => ?_, fun y hy => ?_, ?_⟩
  · rw [ud_k (by decide), ud_k (by decide)]; exact r0
  · rw [ud_k (by decide), ud_k (by decide)]; exact r1
  · rw [ud_k (by decide), ud_k (by decide)]; exact r2
  · rw [ud_k (by decide), ud_k (by decide)]; exact r3
  · rw [ud_k (by decide), ud_k (by decide)]; exact r4
  · rw [ud_k (by decide), ud_k (by decide)]; exact r5
  · rw [ud_r, ud_r]
  · rw [ud_k (by decide), ud_k (by decide)]; exact r7
  · rw [ud_k (by omega), ud_k (by omega)]; exact rd d hd
  · rw [ud_k (by omega), ud_k (by omega)]; exact rt y hy
  · rw [ud_k (by omega), ud_k (by omega)]; exact rc y hy
  · rw [ud_k (by decide)]; exact r29
theorem RK2.stand {K : Nat → Int32} {nd ns nc : Nat} {f g : Nat → Int32} {d : Nat} {x : Int32} (hnd : nd ≤ 3) (hns : ns ≤ 6) (hnc : nc ≤ 12) (hd : d < nd) (hx : 0 ≤ x.toInt ∧ x.toInt ≤ 1000) (h : RK2 K nd ns nc f g) : RK2 K nd ns nc (upd f (8 + d) x) (upd g (1 + d) x) := by
  obtain ⟨r0, r1, r2, r3, r4, r5, r6, r7, rd, rt, rc, r29⟩ := h
  refine ⟨?_, ?_, ?_, ?_, ?_, ?_, ?_, ?_, fun e he => ?_, fun y hy => ?_, fun y hy => ?_, ?_⟩
  · rw [ud_k (by omega), ud_k (by omega)]; exact r0
  · rw [ud_k (by omega), ud_k (by omega)]; exact r1
  · rw [ud_k (by omega), ud_k (by omega)]; exact r2
  · rw [ud_k (by omega), ud_k (by omega)]; exact r3
  · rw [ud_k (by omega), ud_k (by omega)]; exact r4
  · rw [ud_k (by omega), ud_k (by omega)]; exact r5
  · rw [ud_k (by omega), ud_k (by omega)]; exact r6
  · rw [ud_k (by omega), ud_k (by omega)]; exact r7
  · by_cases q : e = d
    · subst q; rw [ud_r, ud_r]; exact ⟨rfl, hx⟩
    · rw [ud_k (by omega), ud_k (by omega)]; exact rd e he
  · rw [ud_k (by omega), ud_k (by omega)]; exact rt y hy
  · rw [ud_k (by omega), ud_k (by omega)]; exact rc y hy
  · rw [ud_k (by omega)]; exact r29
theorem b2_01 {p : Prop} [Decidable p] : b2 p = 0 ∨ b2 p = 1 := by
  by_cases h : p
  · exact Or.inr (b2_t h)
  · exact Or.inl (b2_f h)
theorem b2_not {p : Prop} [Decidable p] : b2 (¬ p) = if p then 0 else 1 := by
  by_cases h : p
  · rw [if_pos h]; exact b2_f (fun z => z h)
  · rw [if_neg h]; exact b2_t h
theorem dkS_0 {s : St} {f c : Int32} : dkS s 0 f c = sbS s f 0 := by unfold dkS; rw [if_pos (show (0 : Int32) = 0 from rfl)]
theorem dkV_0 {s : St} {f c : Int32} : dkV s 0 f c = sbV s f 0 := by unfold dkV; rw [if_pos (show (0 : Int32) = 0 from rfl)]
theorem dkS_1 {s : St} {f c : Int32} : dkS s 1 f c = sbS s f 1 := by unfold dkS; rw [if_neg (show ¬ (1 : Int32) = 0 by decide), if_pos (show (1 : Int32) = 1 from rfl)]
theorem dkV_1 {s : St} {f c : Int32} : dkV s 1 f c = sbV s f 1 := by unfold dkV; rw [if_neg (show ¬ (1 : Int32) = 0 by decide), if_pos (show (1 : Int32) = 1 from rfl)]
theorem dkS_2 {s : St} {f c : Int32} : dkS s 2 f c = ldS s f c := by unfold dkS; rw [if_neg (show ¬ (2 : Int32) = 0 by decide), if_neg (show ¬ (2 : Int32) = 1 by decide), if_pos (show (2 : Int32) = 2 from rfl)]
theorem dkV_2 {s : St} {f c : Int32} : dkV s 2 f c = ldV s f c := by unfold dkV; rw [if_neg (show ¬ (2 : Int32) = 0 by decide), if_neg (show ¬ (2 : Int32) = 1 by decide), if_pos (show (2 : Int32) = 2 from rfl)]
theorem dkS_3 {s : St} {f c : Int32} : dkS s 3 f c = (if paC s f then s else psP s 81 f) := by unfold dkS; rw [if_neg (show ¬ (3 : Int32) = 0 by decide), if_neg (show ¬ (3 : Int32) = 1 by decide), if_neg (show ¬ (3 : Int32) = 2 by decide), if_pos (show (3 : Int32) = 3 from rfl)]
theorem dkV_3 {s : St} {f c : Int32} : dkV s 3 f c = (if paC s f then 0 else 1) := by unfold dkV; rw [if_neg (show ¬ (3 : Int32) = 0 by decide), if_neg (show ¬ (3 : Int32) = 1 by decide), if_neg (show ¬ (3 : Int32) = 2 by decide), if_pos (show (3 : Int32) = 3 from rfl)]
theorem dkS_4 {s : St} {f c : Int32} : dkS s 4 f c = fgS s 81 := by unfold dkS; rw [if_neg (show ¬ (4 : Int32) = 0 by decide), if_neg (show ¬ (4 : Int32) = 1 by decide), if_neg (show ¬ (4 : Int32) = 2 by decide), if_neg (show ¬ (4 : Int32) = 3 by decide), if_pos (show (4 : Int32) = 4 from rfl)]
theorem dkV_4 {s : St} {f c : Int32} : dkV s 4 f c = fgV s := by unfold dkV; rw [if_neg (show ¬ (4 : Int32) = 0 by decide), if_neg (show ¬ (4 : Int32) = 1 by decide), if_neg (show ¬ (4 : Int32) = 2 by decide), if_neg (show ¬ (4 : Int32) = 3 by decide), if_pos (show (4 : Int32) = 4 from rfl)]
theorem dkS_5 {s : St} {f c : Int32} : dkS s 5 f c = (if 500 ≤ rg (s 83) 29 0 then s else nnS s 81) := by unfold dkS; rw [if_neg (show ¬ (5 : Int32) = 0 by decide), if_neg (show ¬ (5 : Int32) = 1 by decide), if_neg (show ¬ (5 : Int32) = 2 by decide), if_neg (show ¬ (5 : Int32) = 3 by decide), if_neg (show ¬ (5 : Int32) = 4 by decide)]
theorem dkV_5 {s : St} {f c : Int32} : dkV s 5 f c = (if 500 ≤ rg (s 83) 29 0 then 0 else 1) := by unfold dkV; rw [if_neg (show ¬ (5 : Int32) = 0 by decide), if_neg (show ¬ (5 : Int32) = 1 by decide), if_neg (show ¬ (5 : Int32) = 2 by decide), if_neg (show ¬ (5 : Int32) = 3 by decide), if_neg (show ¬ (5 : Int32) = 4 by decide)]
/-- one step done, or refused -/
theorem run_do {σ s t : St} (h : RC σ) (hL : LW σ σ) (hO : lawOK σ) (R : RUN σ s t) {st : Nat} (hst : st < 80) (hW : RW σ σ st) (h6 : ¬ σ (511 + st) 0 = 6) : RUN σ (dsS s (nI st)) (mdS t 122 (511 + st)) ∧ dsV s (nI st) = mdV t 122 (511 + st) := by
  have R0 := R
  obtain ⟨ra, rb, rc, rd, -, rk⟩ := R
  obtain ⟨w1, w2, w3, -, w5, w6, w7, -, wk, -⟩ := hW
  have c76 : rg (s 76) 150 (nI st) = σ (511 + st) 0 := by rw [rg_nI (by omega) (by decide), ra 76 (by decide) (by decide) (by decide) (by decide) (by decide) (by decide) (by decide) (by decide) (by decide), w1]
  have c78 : rg (s 78) 150 (nI st) = σ 78 st := by rw [rg_nI (by omega) (by decide), ra 78 (by decide) (by decide) (by decide) (by decide) (by decide) (by decide) (by decide) (by decide) (by decide)]
  have c80 : rg (s 80) 150 (nI st) = σ 80 st := by rw [rg_nI (by omega) (by decide), ra 80 (by decide) (by decide) (by decide) (by decide) (by decide) (by decide) (by decide) (by decide) (by decide)]
  have et : t (511 + st) = σ (511 + st) := rc _ (by omega) (by omega) (by omega) (by omega)
  have e115 : t 115 = σ 115 := rc 115 (by decide) (by decide) (by decide) (by decide)
  have b1 := h.b.2.1
  have b2' := h.b.2.2.1
  have b3 := h.b.2.2.2.1
  have b0 := h.b.1
  have hp := h.p
  unfold dsS dsV
  rw [c76, c78, c80]
  have eK : mdK t (511 + st) = (σ (511 + st) 1).toInt.toNat := by unfold mdK; rw [et]
  have rk0 := rk
  obtain ⟨r0, r1, r2, r3, r4, r5, r6, r7, rrd, -, -, -⟩ := rk
  have g6 : rg (s 83) 29 6 = t 122 0 := by rw [show (6 : Int32) = nI 6 from rfl, rg_nI (by decide) (by decide)]; exact r6
  have g7 : rg (s 83) 29 7 = t 122 4 := by rw [show (7 : Int32) = nI 7 from rfl, rg_nI (by decide) (by decide)]; exact r7
  have g1 : rg (s 83) 29 1 = t 122 28 := by rw [show (1 : Int32) = nI 1 from rfl, rg_nI (by decide) (by decide)]; exact r1.1
  have g0 : rg (s 83) 29 0 = t 122 27 := by rw [show (0 : Int32) = nI 0 from rfl, rg_nI (by decide) (by decide)]; exact r0
  have tln : ∀ k, k < 5 → (tl σ k : Int) = (σ 115 k).toInt := fun k hk => by have := hp k hk; unfold tl ct; omega
  rcases wk with z | z | z | z | z | z | z
  · have f1 : σ 78 st = σ (511 + st) 1 := w2.resolve_left (by rw [z]; decide)
    obtain ⟨lo, hi⟩ := w5 (Or.inl z)
    have ef : nI (mdK t (511 + st)) = σ 78 st := by rw [eK, nI_bk lo, f1]
    have eS : mdS t 122 (511 + st) = if b2 (hB (t 122 0) (σ 78 st)) = 0 then t else up t 122 0 (t 122 0 ^^^ (1 <<< (σ 78 st &&& 31))) := by
      unfold mdS mdF; rw [et, z, if_pos (show (0 : Int32) = 0 from rfl), ef]
    have eV : mdV t 122 (511 + st) = if b2 (hB (t 122 0) (σ 78 st)) = 0 then 0 else 1 := by
      unfold mdV; rw [et, z, if_pos (show (0 : Int32) = 0 from rfl), ef]
    rw [z, eS, eV]
    rw [dkS_0, dkV_0]
    unfold sbS sbV
    rw [g6, b2_not]
    refine ⟨?_, rfl⟩
    by_cases q : b2 (hB (t 122 0) (σ 78 st)) = 0
    · rw [if_pos q, if_pos q]; exact R0
    · rw [if_neg q, if_neg q, show (6 : Int32) = nI 6 from rfl, rs_nI (by decide) (by decide)]
      exact R0.rw (fun o ho => up_o ho) (fun o ho => up_o ho) (by rw [up_row, up_row]; exact RK2.burn b2' b3 b0 rk0)
  · have f1 : σ 78 st = σ (511 + st) 1 := w2.resolve_left (by rw [z]; decide)
    obtain ⟨lo, hi⟩ := w5 (Or.inr z)
    have ef : nI (mdK t (511 + st)) = σ 78 st := by rw [eK, nI_bk lo, f1]
    have eS : mdS t 122 (511 + st) = if b2 (hB (t 122 0) (σ 78 st)) = 1 then t else up t 122 0 (t 122 0 ^^^ (1 <<< (σ 78 st &&& 31))) := by
      unfold mdS mdF; rw [et, z, if_neg (show ¬ (1 : Int32) = 0 by decide), if_pos (show (1 : Int32) = 1 from rfl), ef]
    have eV : mdV t 122 (511 + st) = if b2 (hB (t 122 0) (σ 78 st)) = 1 then 0 else 1 := by
      unfold mdV; rw [et, z, if_neg (show ¬ (1 : Int32) = 0 by decide), if_pos (show (1 : Int32) = 1 from rfl), ef]
    rw [z, eS, eV]
    rw [dkS_1, dkV_1]
    unfold sbS sbV
    rw [g6, b2_not]
    refine ⟨?_, rfl⟩
    by_cases q : b2 (hB (t 122 0) (σ 78 st)) = 1
    · rw [if_pos q, if_pos q]; exact R0
    · rw [if_neg q, if_neg q, show (6 : Int32) = nI 6 from rfl, rs_nI (by decide) (by decide)]
      exact R0.rw (fun o ho => up_o ho) (fun o ho => up_o ho) (by rw [up_row, up_row]; exact RK2.burn b2' b3 b0 rk0)
  · have f1 : σ 78 st = σ (511 + st) 1 := w2.resolve_left (by rw [z]; decide)
    obtain ⟨⟨lo, hi⟩, lo2, hi2⟩ := w6 z
    have t2 := tln 2 (by decide)
    have t0' := tln 0 (by decide)
    have hK : mdK t (511 + st) < tl σ 2 := by rw [eK]; omega
    have ef : 8 + σ 78 st = nI (8 + mdK t (511 + st)) := by
      rw [f1, ← nI_bk lo, eK, show (8 : Int32) = nI 8 from rfl, znI_add (by omega)]
    have gd : rg (s 83) 29 (8 + σ 78 st) = t 122 (1 + mdK t (511 + st)) := by rw [ef, rg_nI (by omega) (by decide)]; exact (rrd _ hK).1
    have eS : mdS t 122 (511 + st) = if t 122 (1 + mdK t (511 + st)) = σ 80 st then t else up t 122 (1 + mdK t (511 + st)) (σ 80 st) := by
      unfold mdS; rw [et, z, if_neg (show ¬ (2 : Int32) = 0 by decide), if_neg (show ¬ (2 : Int32) = 1 by decide), if_pos (show (2 : Int32) = 2 from rfl), w3 z]
    have eV : mdV t 122 (511 + st) = if t 122 (1 + mdK t (511 + st)) = σ 80 st then 0 else 1 := by
      unfold mdV; rw [et, z, if_neg (show ¬ (2 : Int32) = 0 by decide), if_neg (show ¬ (2 : Int32) = 1 by decide), if_pos (show (2 : Int32) = 2 from rfl), w3 z]
    rw [z, eS, eV]
    rw [dkS_2, dkV_2]
    unfold ldS ldV
    rw [gd, b2_not]
    refine ⟨?_, rfl⟩
    by_cases q : t 122 (1 + mdK t (511 + st)) = σ 80 st
    · rw [if_pos q, if_pos q]; exact R0
    · rw [if_neg q, if_neg q, ef, rs_nI (by omega) (by decide)]
      exact R0.rw (fun o ho => up_o ho) (fun o ho => up_o ho) (by rw [up_row, up_row]; exact RK2.stand b2' b3 b0 hK (by rw [w3 z]; omega) rk0)
  · have f1 : σ 78 st = σ (511 + st) 1 := w2.resolve_left (by rw [z]; decide)
    obtain ⟨lo, hi⟩ := w7 z
    have t3 := tln 3 (by decide)
    have hK : mdK t (511 + st) < tl σ 3 := by rw [eK]; omega
    have ef : nI (mdK t (511 + st)) = σ 78 st := by rw [eK, nI_bk lo, f1]
    have e0 : cM s 0 = t 115 0 := by rw [e115, ← h.m0]; unfold cM; rw [ra 6 (by decide) (by decide) (by decide) (by decide) (by decide) (by decide) (by decide) (by decide) (by decide)]
    have eS : mdS t 122 (511 + st) = if t 115 0 = 0 ∨ ¬ b2 (hB (t 122 4) (σ 78 st)) = 0 then t else mpS t 122 (mdK t (511 + st)) := by
      unfold mdS; rw [et, z, if_neg (show ¬ (3 : Int32) = 0 by decide), if_neg (show ¬ (3 : Int32) = 1 by decide), if_neg (show ¬ (3 : Int32) = 2 by decide), if_pos (show (3 : Int32) = 3 from rfl), ef]
    have eV : mdV t 122 (511 + st) = if t 115 0 = 0 ∨ ¬ b2 (hB (t 122 4) (σ 78 st)) = 0 then 0 else 1 := by
      unfold mdV; rw [et, z, if_neg (show ¬ (3 : Int32) = 0 by decide), if_neg (show ¬ (3 : Int32) = 1 by decide), if_neg (show ¬ (3 : Int32) = 2 by decide), if_pos (show (3 : Int32) = 3 from rfl), ef]
    have hpa : paC s (σ 78 st) ↔ (t 115 0 = 0 ∨ ¬ b2 (hB (t 122 4) (σ 78 st)) = 0) := by
      unfold paC; rw [g7, e0]; exact Or.comm
    rw [z, eS, eV]
    rw [dkS_3, dkV_3]
    by_cases q : t 115 0 = 0 ∨ ¬ b2 (hB (t 122 4) (σ 78 st)) = 0
    · rw [if_pos q, if_pos q, if_pos (hpa.mpr q), if_pos (hpa.mpr q)]; exact ⟨R0, rfl⟩
    · rw [if_neg q, if_neg q, if_neg (fun y => q (hpa.mp y)), if_neg (fun y => q (hpa.mp y)), ← ef]
      exact ⟨run_pass h hL hO R0 hK, rfl⟩
  · have eS : mdS t 122 (511 + st) = if t 122 28 = 1 then t else up t 122 28 1 := by
      unfold mdS; rw [et, z, if_neg (show ¬ (4 : Int32) = 0 by decide), if_neg (show ¬ (4 : Int32) = 1 by decide), if_neg (show ¬ (4 : Int32) = 2 by decide), if_neg (show ¬ (4 : Int32) = 3 by decide), if_pos (show (4 : Int32) = 4 from rfl)]
    have eV : mdV t 122 (511 + st) = if t 122 28 = 1 then 0 else 1 := by
      unfold mdV; rw [et, z, if_neg (show ¬ (4 : Int32) = 0 by decide), if_neg (show ¬ (4 : Int32) = 1 by decide), if_neg (show ¬ (4 : Int32) = 2 by decide), if_neg (show ¬ (4 : Int32) = 3 by decide), if_pos (show (4 : Int32) = 4 from rfl)]
    rw [z, eS, eV]
    rw [dkS_4, dkV_4]
    unfold fgS fgV
    show RUN σ (if rg (s 83) 29 1 = 1 then s else rs s 82 29 1 1) _ ∧ _
    rw [g1, b2_not]
    refine ⟨?_, rfl⟩
    by_cases q : t 122 28 = 1
    · rw [if_pos q, if_pos q]; exact R0
    · have er : rs s 82 29 1 1 = up s 83 1 1 := by rw [show (1 : Int32) = nI 1 from rfl, rs_nI (by decide) (by decide)]
      rw [if_neg q, if_neg q, er]
      exact R0.rw (fun o ho => up_o ho) (fun o ho => up_o ho) (by rw [up_row, up_row]; exact RK2.fog1 b2' b3 b0 rk0 ud_r (fun k hk => ud_k hk))
  · have hle : (500 ≤ t 122 27) ↔ ¬ t 122 27 < 500 := by rw [i_le, i_lt]; omega
    have eS : mdS t 122 (511 + st) = if 500 ≤ t 122 27 then t else mne t 122 := by
      unfold mdS; rw [et, z, if_neg (show ¬ (5 : Int32) = 0 by decide), if_neg (show ¬ (5 : Int32) = 1 by decide), if_neg (show ¬ (5 : Int32) = 2 by decide), if_neg (show ¬ (5 : Int32) = 3 by decide), if_neg (show ¬ (5 : Int32) = 4 by decide)]
      by_cases q : t 122 27 < 500
      · rw [if_pos q, if_neg (fun y => hle.mp y q)]
      · rw [if_neg q, if_pos (hle.mpr q)]
    have eV : mdV t 122 (511 + st) = if 500 ≤ t 122 27 then 0 else 1 := by
      unfold mdV; rw [et, z, if_neg (show ¬ (5 : Int32) = 0 by decide), if_neg (show ¬ (5 : Int32) = 1 by decide), if_neg (show ¬ (5 : Int32) = 2 by decide), if_neg (show ¬ (5 : Int32) = 3 by decide), if_neg (show ¬ (5 : Int32) = 4 by decide)]
      by_cases q : t 122 27 < 500
      · rw [if_pos q, if_neg (fun y => hle.mp y q)]
      · rw [if_neg q, if_pos (hle.mpr q)]
    rw [z, eS, eV]
    rw [dkS_5, dkV_5, g0]
    refine ⟨?_, rfl⟩
    by_cases q : 500 ≤ t 122 27
    · rw [if_pos q, if_pos q]; exact R0
    · rw [if_neg q, if_neg q]
      refine R0.rw (fun o ho => nnS_o ho) (fun o ho => mne_o ho) ?_
      rw [show nnS s 81 83 = _ from nnS_row (s := s) (o := 81), mne_row]
      exact RK2.night b2' b3 b0 rk0
  · exact absurd z h6
