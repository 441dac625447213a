/-! ===== save ===== -/
theorem msb_lamp {σ τ : St} (a : τ 115 = σ 115) (l : ∀ j, j < 6 → τ (143 + j) = σ (143 + j)) (d : ∀ j, j < 3 → τ (152 + j) = σ (152 + j)) (hr : ∀ j, j < 29 → τ 122 j = σ 122 j) (h29 : σ 122 29 = -1) (h1 : tl σ 1 ≤ 6) (h2 : tl σ 2 ≤ 3) {c m : Int32} : msb τ 122 c m = msb σ 122 c m + b2 (mmP τ 122 c m (sgt τ 122)) := by
  have hs : sgt τ 122 = sgt σ 122 := by unfold sgt; rw [a, hr 28 (by decide)]
  have hA : ∀ k, k < 3 → mdA τ 122 k m = mdA σ 122 k m := fun k hk => by unfold mdA; rw [a, hr (1 + k) (by omega)]
  have hT : ∀ k, tl τ k = tl σ k := fun k => by unfold tl; rw [a]
  have g1 : msL τ 122 c m (tl τ 1) = msL σ 122 c m (tl σ 1) := by
    unfold msL; rw [hs, hT]; exact sm_congr (fun j hj => b2_congr (by unfold mlP; rw [hr 0 (by decide), l j (by omega)]))
  have g2 : ∀ x, msD τ 122 c m x (tl τ 2) = msD σ 122 c m x (tl σ 2) := fun x => by
    unfold msD; rw [hs, hT]; exact it_congr (fun k hk y => by rw [b2_congr (show mdP τ 122 c m (sgt σ 122) k ↔ mdP σ 122 c m (sgt σ 122) k from by unfold mdP; rw [hA k (by omega), d k (by omega)])])
  have e : msb σ 122 c m = msD σ 122 c m (msL σ 122 c m (tl σ 1)) (tl σ 2) := by
    unfold msb; rw [if_neg (fun z => z.1 h29)]
  rw [e]
  unfold msb
  rw [g1, g2]
  by_cases p : mmP τ 122 c m (sgt τ 122)
  · rw [if_pos p, b2_t p]
  · rw [if_neg p, b2_f p, Int32.add_zero]
abbrev SF (u : St) (k : Nat) : Prop := trF (msf u 122 k).2 122 k 111 42 = -1
theorem msf_bt {u : St} : ∀ n, (msf u 122 n).1 = bt (SF u) n := by
  intro n
  induction n with
  | zero => rfl
  | succ n ih =>
    rw [bt_s, ← ih]
    by_cases q : SF u n
    · rw [msf_1 q, if_pos q]
    · rw [msf_2 q, if_neg q]
theorem ons_bt {Q : Nat → Prop} [DecidablePred Q] {n : Nat} (hn : n ≤ 6) : ons (bt Q n) 6 = sm (fun k => b2 (Q k)) n := by
  unfold ons
  have e : sm (fun k => (bt Q n >>> (nI k &&& 31)) &&& 1) 6 = sm (fun k => b2 (k < n ∧ Q k)) 6 := sm_congr (fun k hk => b2_gB (by omega) (bt_g n (by omega) k (by omega)))
  rw [e, sm_sp (m := n) 6 hn (fun k a _ => b2_f (fun z => by omega))]
  exact sm_congr (fun k hk => b2_congr ⟨fun z => z.2, fun z => ⟨hk, z⟩⟩)
theorem sf_e {σ τ s u : St} (h : RC σ) (hL : LW σ σ) (hO : lawOK σ) (h' : RC τ) (hL' : LW τ τ) (hO' : lawOK τ) {n9 fg : Int32} (eT : ∀ k, tl τ k = tl σ k) (h7 : τ 122 27 = n9) (h8 : τ 122 28 = fg) (hs : ∀ m, m < tl σ 0 → ∃ k, k ≤ 15 ∧ msb τ 122 (nI m) (nI m) = nI k) (hP : PS τ s) (hB : BS σ n9 fg s) (hM : MO σ n9 fg s) (hq : sx τ u) :
    ∀ n, n ≤ tl σ 3 → (sfF s n).1 = sm (fun k => b2 (SF u k)) n ∧ PS τ (sfF s n).2 ∧ BS σ n9 fg (sfF s n).2 ∧ MO σ n9 fg (sfF s n).2 := by
  intro n
  induction n with
  | zero => intro _; exact ⟨rfl, hP, hB, hM⟩
  | succ n ih =>
    intro hn
    obtain ⟨g1, g2, g3, g4⟩ := ih (by omega)
    have hq2 : sx τ (msf u 122 n).2 := hq.tr (sq.rf.sf).x
    obtain ⟨k1, k2, k3, k4⟩ := psk_2 h hL hO h' hL' hO' eT h7 h8 hs (show n < tl σ 3 by omega) g2 g3 g4 hq2
    rw [sfF_s]
    refine ⟨?_, k2, k3, k4⟩
    show (sfF s n).1 + b2 ((psk (sfF s n).2 (nI n)).1 = -1) = _
    rw [sm_s, g1, k1]
theorem slS_86 {s : St} {c p r : Int32} : ∀ n, n ≤ 12 → ∀ m, m < n → slS s c p r n 86 m = s 95 m + b2 (iSn c p (nI m) (nI m) r) := by
  intro n
  induction n with
  | zero => intro _ m hm; omega
  | succ n ih =>
    intro hn m hm
    have eS : slS s c p r (n + 1) = rs (slS s c p r n) 85 12 (nI n) (rg (slS s c p r n 95) 12 (nI n) + b2 (iSn c p (nI n) (nI n) r)) := rfl
    rw [eS, rs_nI (by omega) (by decide), slS_o (by decide), rg_nI (by omega) (by decide)]
    show up (slS s c p r n) 86 n _ 86 m = _
    by_cases q : m = n
    · subst q; rw [up_rd]
    · rw [up_k q]; exact ih (by omega) m (by omega)
theorem wnN_95 {s : St} : ∀ n, n ≤ 12 → ∀ m, m < n → wnN s n 95 m = s 86 m := by
  intro n
  induction n with
  | zero => intro _ m hm; omega
  | succ n ih =>
    intro hn m hm
    have eS : wnN s (n + 1) = rs (wnN s n) 94 12 (nI n) (rg (wnN s n 86) 12 (nI n)) := rfl
    rw [eS, rs_nI (by omega) (by decide), wnN_o (by decide), rg_nI (by omega) (by decide)]
    show up (wnN s n) 95 n _ 95 m = _
    by_cases q : m = n
    · subst q; rw [up_rd]
    · rw [up_k q]; exact ih (by omega) m (by omega)
theorem pm0_v {σ : St} (h : RC σ) (hn : RNs σ) : (∀ o, o < 111 → o ≠ 56 → o ≠ 86 → o ≠ 88 → o ≠ 90 → o ≠ 92 → o ≠ 95 → pm0 σ o = σ o) ∧ (∀ m, m < tl σ 0 → pm0 σ 95 m = msb σ 122 (nI m) (nI m)) ∧ (∀ o, o ≠ 95 → pm0 σ o = pbS σ 81 o) := by
  have b0 : tl σ 0 ≤ 12 := h.b.1
  have hp : ∀ o, o ≠ 56 → o ≠ 90 → o ≠ 92 → o ≠ 86 → o ≠ 88 → pbS σ 81 o = σ o := fun o a b c d e => pbS_o a b c d e
  have e0 : ct (cM (pbS σ 81) 0) = tl σ 0 := by unfold cM; rw [hp 6 (by decide) (by decide) (by decide) (by decide) (by decide)]; show ct (cM σ 0) = _; rw [h.m0]
  refine ⟨fun o a b c d e f g => ?_, fun m hm => ?_, fun o ho => ?_⟩
  · unfold pm0; rw [wnN_o g]; exact hp o b e f c d
  · unfold pm0; rw [e0, wnN_95 _ b0 m hm]; exact ((PS_begin h hn).2.1 m hm).1
  · unfold pm0; rw [wnN_o ho]
def CG (σ S : St) : Prop := ∀ o, o < 111 → o ≠ 56 → o ≠ 58 → o ≠ 86 → o ≠ 88 → o ≠ 90 → o ≠ 92 → o ≠ 93 → S o = pm0 σ o
def RJ (σ u : St) : Prop := ∀ j, j < 29 → u 123 j = σ 122 j
theorem sav_way {σ S u : St} (h : RC σ) (hn : RNs σ) (hL : LW σ σ) (hO : lawOK σ) (hS : CG σ S) (hB : BS σ (σ 122 27) (σ 122 28) S) (hM : MO σ (σ 122 27) (σ 122 28) S) (hu : UI σ u) (hk : RJ σ u) {x p : Nat} (hx : x < tl σ 0) (hp : 0 < p) (hp2 : p < 100) :
    (plZ S (nI x) (nI p) (rch σ 81)).1 = ons (msf (vt1 u x p) 123 (tl σ 3)).1 6 ∧ CG σ (plZ S (nI x) (nI p) (rch σ 81)).2 ∧ (plZ S (nI x) (nI p) (rch σ 81)).2 93 = S 93 ∧ BS σ (σ 122 27) (σ 122 28) (plZ S (nI x) (nI p) (rch σ 81)).2 ∧ MO σ (σ 122 27) (σ 122 28) (plZ S (nI x) (nI p) (rch σ 81)).2 ∧ UI σ (msf (vt1 u x p) 123 (tl σ 3)).2 ∧ RJ σ (msf (vt1 u x p) 123 (tl σ 3)).2 ∧ 0 ≤ (plZ S (nI x) (nI p) (rch σ 81)).1.toInt := by
  have b0 : tl σ 0 ≤ 12 := h.b.1
  have b2' : tl σ 2 ≤ 3 := h.b.2.2.1
  have b3 : tl σ 3 ≤ 6 := h.b.2.2.2.1
  obtain ⟨v1, v2, v3⟩ := pm0_v h hn
  have s56 : ∀ o, o < 56 → S o = σ o := fun o ho => (hS o (by omega) (by omega) (by omega) (by omega) (by omega) (by omega) (by omega) (by omega)).trans (v1 o (by omega) (by omega) (by omega) (by omega) (by omega) (by omega) (by omega))
  have m3 : ct (cM S 3) = tl σ 3 := by unfold cM; rw [s56 6 (by decide)]; show ct (cM σ 3) = _; rw [h.m3]
  have e0 : ct (cM S 0) = tl σ 0 := by unfold cM; rw [s56 6 (by decide)]; show ct (cM σ 0) = _; rw [h.m0]
  have eu : ∀ o, o ≠ 123 → vt1 u x p o = u o := fun o ho => by unfold vt1; rw [up_o ho, up_o ho]
  have hu1 : UI σ (vt1 u x p) := ⟨fun o a b c d => (eu o d).trans (hu.1 o a b c d), fun f a b => by rw [eu 111 (by decide)]; exact hu.2 f a b⟩
  have hk1 : RJ σ (vt1 u x p) := fun j hj => by unfold vt1; rw [up_k (by omega), up_k (by omega)]; exact hk j hj
  have h29 : vt1 u x p 123 29 = nI x := by unfold vt1; rw [up_k (by decide), up_rd]
  have h30 : vt1 u x p 123 30 = nI p := by unfold vt1; rw [up_rd]
  have hnp : ¬ nI p = 0 := by rw [show (0 : Int32) = nI 0 from rfl, znI_eq (by omega) (by omega)]; omega
  generalize vt1 u x p = u1 at hu1 hk1 h29 h30 ⊢
  have ez : plZ S (nI x) (nI p) (rch σ 81) = sfF (shL S (nI x) (nI p) (rch σ 81)) (tl σ 3) := by
    unfold plZ
    have : ct (cM (shL S (nI x) (nI p) (rch σ 81)) 3) = tl σ 3 := by unfold cM; rw [shL_o (by decide) (by decide)]; exact m3
    rw [this]
  have so : ∀ o, o ≠ 86 → o ≠ 88 → shL S (nI x) (nI p) (rch σ 81) o = S o := fun o a b => shL_o a b
  have es : shL S (nI x) (nI p) (rch σ 81) = (rdk (slS S (nI x) (nI p) (rch σ 81) (tl σ 0)) (tl σ 0)).1 := by unfold shL; rw [e0]
  rw [ez]
  generalize hs1 : shL S (nI x) (nI p) (rch σ 81) = s1 at so es ⊢
  obtain ⟨t1, t2, t3, t4⟩ := mix_ok (P := s1) h hL hO (fun o ho => (so o (by omega) (by omega)).trans (s56 o ho)) hu1
  have er : ∀ o, 111 < o → o ≠ 120 → o ≠ 121 → o ≠ 122 → o ≠ 123 → mix s1 u1 o = σ o := fun o a b c d f => by rw [mix_o (by omega) d]; exact hu1.1 o a b c f
  have hlamp : ∀ m, m < tl σ 0 → msb (mix s1 u1) 122 (nI m) (nI m) = msb σ 122 (nI m) (nI m) + b2 (iSn (nI x) (nI p) (nI m) (nI m) (rch σ 81)) := fun m hm => by
    rw [msb_lamp (er 115 (by decide) (by decide) (by decide) (by decide) (by decide)) (fun j hj => er _ (by omega) (by omega) (by omega) (by omega) (by omega)) (fun j hj => er _ (by omega) (by omega) (by omega) (by omega) (by omega)) (fun j hj => by rw [mix_122]; exact hk1 j hj) hn.2 h.b.2.1 b2']
    have eg : sgt (mix s1 u1) 122 = rch σ 81 := by
      rw [h.rch hn]; unfold sgt; rw [er 115 (by decide) (by decide) (by decide) (by decide) (by decide), mix_122, hk1 28 (by decide)]
    rw [eg]
    refine congrArg (fun z => msb σ 122 (nI m) (nI m) + z) (b2_congr ?_)
    unfold mmP iSn fl0
    rw [mix_122, h29, h30, ab_aw (by rw [i_nI (by omega)]; omega) (by rw [i_nI (by omega)]; omega)]
    exact ⟨fun z => ⟨hnp, z.2.2, z.2.1⟩, fun z => ⟨nI_ne (by omega), z.2.2, z.2.1⟩⟩
  have h86 : ∀ m, m < tl (mix s1 u1) 0 → (slS S (nI x) (nI p) (rch σ 81) (tl σ 0)) 86 m = msb (mix s1 u1) 122 (nI m) (nI m) := fun m hm => by
    rw [t4] at hm
    rw [slS_86 _ b0 m hm, hlamp m hm, hS 95 (by decide) (by decide) (by decide) (by decide) (by decide) (by decide) (by decide) (by decide), v2 m hm]
  have hP : PS (mix s1 u1) s1 := by
    obtain ⟨-, h88⟩ := rdk_88 h86 (by rw [t4]; exact b0) (tl σ 0) (by rw [t4]; exact Nat.le_refl _)
    refine ⟨fun o _ _ _ _ _ _ g => (mix_c g).symm, fun m hm => ⟨?_, ?_⟩, ?_, ?_⟩
    · rw [← h86 m hm, es, rdk_o (by decide)]
    · rw [t4] at hm
      have := h88 m hm
      rw [← es] at this; exact this
    · rw [so 56 (by decide) (by decide), hB.2.1, mix_122, hk1 27 (by decide)]
    · rw [so 56 (by decide) (by decide), hB.2.2, mix_122, hk1 28 (by decide)]
  have hB1 : BS σ (σ 122 27) (σ 122 28) s1 := ⟨fun o ho => by rw [so o (by omega) (by omega)]; exact hB.1 o ho, by rw [so 56 (by decide) (by decide)]; exact hB.2.1, by rw [so 56 (by decide) (by decide)]; exact hB.2.2⟩
  have hM1 : MO σ (σ 122 27) (σ 122 28) s1 := fun i m b hi hm hb => by rw [so 90 (by decide) (by decide), so 92 (by decide) (by decide)]; exact hM i m b hi hm hb
  have huB := hu1.uB h hO
  obtain ⟨k1, k2, k3, k4⟩ := sf_e h hL hO t1 t2 t3 t4 (by rw [mix_122, hk1 27 (by decide)]) (by rw [mix_122, hk1 28 (by decide)]) (fun m hm => msb_rng (by rw [t4]; exact h.b.2.1) (by rw [t4]; exact b2')) hP hB1 hM1 mix_sx (tl σ 3) (Nat.le_refl _)
  have c1 := (sf_sub huB (tl σ 3) b3).1
  have qq : sq u1 (msf u1 123 (tl σ 3)).2 := sq.rf.sf
  refine ⟨?_, fun o a b c d e f g k => ?_, ?_, k3, k4, hu1.sq qq, fun j hj => by rw [qq.1 123 (by decide) (by decide) (by decide)]; exact hk1 j hj, ?_⟩
  · rw [k1, c1, msf_bt, ons_bt b3]
  · rw [sfF_o f g b c, so o d e]; exact hS o a b c d e f g k
  · rw [sfF_o (by decide) (by decide) (by decide) (by decide), so 93 (by decide) (by decide)]
  · rw [k1]
    obtain ⟨a, ha, ea⟩ := sm_b2 (P := SF (sub u1)) (tl σ 3) (by omega)
    rw [ea, i_nI (by omega)]; omega
/-- after so many lamps tried -/
def SI (σ : St) (b : Nat) (S : St) (z : (Int32 × Int32 × Int32) × St) : Prop := S 93 2 = z.1.1 ∧ (b = 0 ∧ z.1.1 = -1 ∨ 0 < b ∧ 0 ≤ z.1.1.toInt ∧ S 93 4 = z.1.2.1 ∧ S 93 5 = z.1.2.2) ∧ CG σ S ∧ BS σ (σ 122 27) (σ 122 28) S ∧ MO σ (σ 122 27) (σ 122 28) S ∧ UI σ z.2 ∧ RJ σ z.2
theorem sav_p {σ : St} (h : RC σ) (hn : RNs σ) (hL : LW σ σ) (hO : lawOK σ) {x b : Nat} (hx : x < tl σ 0) {S : St} {z : (Int32 × Int32 × Int32) × St} (hz : SI σ b S z) : ∀ i, i ≤ 9 → SI σ (b + i) (plP S (nI x) (rch σ 81) i) (mvP x z i) := by
  intro i
  induction i with
  | zero => intro _; rw [plP_0, mvP_0]; exact hz
  | succ i ih =>
    intro hi
    obtain ⟨i1, i2, i3, i4, i5, i6, i7⟩ := ih (by omega)
    obtain ⟨w1, w2, w3, w4, w5, w6, w7, w8⟩ := sav_way h hn hL hO i3 i4 i5 i6 i7 hx (p := i + 1) (by omega) (by omega)
    have e3 : ct (vt1 (mvP x z i).2 x (i + 1) 115 3) = tl σ 3 := by
      unfold vt1; rw [up_o (by decide), up_o (by decide)]; exact i6.tl 3
    have zm : (-1 : Int32).toInt = -1 := rfl
    by_cases q : (plZ (plP S (nI x) (rch σ 81) i) (nI x) (nI (i + 1)) (rch σ 81)).1 ≤ (plZ (plP S (nI x) (rch σ 81) i) (nI x) (nI (i + 1)) (rch σ 81)).2 93 2
    · have q2 : ons (msf (vt1 (mvP x z i).2 x (i + 1)) 123 (ct (vt1 (mvP x z i).2 x (i + 1) 115 3))).1 6 ≤ (mvP x z i).1.1 := by
        rw [e3, ← w1, ← i1]; rw [w3] at q; exact q
      rw [plP_1 q, mvP_1 rfl q2, e3]
      refine ⟨by rw [w3]; exact i1, ?_, w2, w4, w5, w6, w7⟩
      right
      rcases i2 with ⟨-, y⟩ | ⟨y1, y2, y3, y4⟩
      · rw [w3, i1, y, i_le, zm] at q; omega
      · exact ⟨by omega, y2, by rw [w3]; exact y3, by rw [w3]; exact y4⟩
    · have q2 : ¬ ons (msf (vt1 (mvP x z i).2 x (i + 1)) 123 (ct (vt1 (mvP x z i).2 x (i + 1) 115 3))).1 6 ≤ (mvP x z i).1.1 := by
        rw [e3, ← w1, ← i1]; rw [w3] at q; exact q
      rw [plP_2 q, mvP_2 rfl q2, e3]
      have o93 : ∀ o, o ≠ 93 → up (up (up (plZ (plP S (nI x) (rch σ 81) i) (nI x) (nI (i + 1)) (rch σ 81)).2 93 2 (plZ (plP S (nI x) (rch σ 81) i) (nI x) (nI (i + 1)) (rch σ 81)).1) 93 4 (nI x)) 93 5 (nI (i + 1)) o = (plZ (plP S (nI x) (rch σ 81) i) (nI x) (nI (i + 1)) (rch σ 81)).2 o := fun o ho => by rw [up_o ho, up_o ho, up_o ho]
      refine ⟨?_, Or.inr ⟨by omega, ?_, ?_, ?_⟩, fun o a b c d e f g l => by rw [o93 o l]; exact w2 o a b c d e f g l, ⟨fun o ho => by rw [o93 o (by omega)]; exact w4.1 o ho, by rw [o93 56 (by decide)]; exact w4.2.1, by rw [o93 56 (by decide)]; exact w4.2.2⟩, fun i m b hi hm hb => by rw [o93 92 (by decide), o93 90 (by decide)]; exact w5 i m b hi hm hb, w6, w7⟩
      · rw [up_k (by decide), up_k (by decide), up_rd]; exact w1
      · show 0 ≤ (ons (msf _ 123 (tl σ 3)).1 6).toInt
        rw [← w1]; exact w8
      · rw [up_k (by decide), up_rd]
      · rw [up_rd]
theorem sav_c {σ t : St} (h : RC σ) (hn : RNs σ) (hL : LW σ σ) (hO : lawOK σ) (hq : sx σ t) : ∀ n, n ≤ tl σ 0 → SI σ (9 * n) (plC (up (pm0 σ) 93 2 (-1)) (rch σ 81) n) (mvX t n) := by
  have b0 : tl σ 0 ≤ 12 := h.b.1
  have b3 : tl σ 3 ≤ 6 := h.b.2.2.2.1
  obtain ⟨v1, v2, v3⟩ := pm0_v h hn
  have hPb := PS_begin h hn
  intro n
  induction n with
  | zero =>
    intro _
    rw [plC_0, mvX_0]
    have o93 : ∀ o, o ≠ 93 → up (pm0 σ) 93 2 (-1) o = pm0 σ o := fun o ho => up_o ho
    refine ⟨up_rd, Or.inl ⟨rfl, rfl⟩, fun o a b c d e f g k => o93 o k, ⟨fun o ho => by rw [o93 o (by omega)]; exact v1 o (by omega) (by omega) (by omega) (by omega) (by omega) (by omega) (by omega), ?_, ?_⟩, fun i m b hi hm hb => ?_, ⟨fun o a b c d => ?_, fun f a b => ?_⟩, fun j hj => ?_⟩
    · rw [o93 56 (by decide), v3 56 (by decide)]; exact hPb.2.2.1
    · rw [o93 56 (by decide), v3 56 (by decide)]; exact hPb.2.2.2
    · obtain ⟨z1, z2⟩ := pbS_90 (σ := σ) (k := 12 * i + m) (by omega)
      rw [o93 92 (by decide), o93 90 (by decide), v3 92 (by decide), v3 90 (by decide), z1, z2, gB_0]
      exact ⟨fun z => absurd z (by decide), fun z => absurd z.1 (by decide)⟩
    · show pt0 t o = σ o; rw [pt0_o d]; exact hq.1 o a b c
    · show pt0 t 111 f = σ 111 f; rw [pt0_o (by decide)]; exact hq.2 f a b
    · show pt0 t 123 j = σ 122 j
      unfold pt0; rw [fl_in (by omega), hq.1 122 (by decide) (by decide) (by decide)]
  | succ n ih =>
    intro hn'
    rw [plC_q, plQ_p, mvX_q, mvQ_p, show 9 * (n + 1) = 9 * n + 9 by omega]
    exact sav_p h hn hL hO (show n < tl σ 0 by omega) (ih (by omega)) 9 (Nat.le_refl _)
theorem q_save {σ t : St} (h : RC σ) (hn : RNs σ) (hL : LW σ σ) (hO : lawOK σ) (hq : sx σ t) {w : Int32} : (if cM σ 0 = 0 then -1 else if w = 0 then (plS σ) 93 2 else if w = 1 then (plS σ) 93 4 else (plS σ) 93 5) = mvV t w := by
  have b0 : tl σ 0 ≤ 12 := h.b.1
  obtain ⟨v1, v2, v3⟩ := pm0_v h hn
  have e0 : σ 115 0 = nI (tl σ 0) := (nI_bk (h.p 0 (by decide))).symm
  have eT : tl t 0 = tl σ 0 := by unfold tl; rw [hq.1 115 (by decide) (by decide) (by decide)]
  have o93 : ∀ o, o ≠ 93 → up (pm0 σ) 93 2 (-1) o = pm0 σ o := fun o ho => up_o ho
  have e6 : ct (cM (up (pm0 σ) 93 2 (-1)) 0) = tl σ 0 := by
    unfold cM; rw [o93 6 (by decide), v1 6 (by decide) (by decide) (by decide) (by decide) (by decide) (by decide) (by decide)]; show ct (cM σ 0) = _; rw [h.m0]
  have er : rch (pm0 σ) 81 = rch σ 81 := rch_eq (v1 83 (by decide) (by decide) (by decide) (by decide) (by decide) (by decide) (by decide)) (v1 4 (by decide) (by decide) (by decide) (by decide) (by decide) (by decide) (by decide))
  obtain ⟨a, b, -⟩ := sav_c h hn hL hO hq (tl σ 0) (Nat.le_refl _)
  unfold mvV plS
  rw [eT, er, e6, h.m0]
  by_cases q : tl σ 0 = 0
  · rw [if_pos (by rw [e0, q]; rfl), q, mvX_0]
    split
    · rfl
    · split <;> rfl
  · rw [if_neg (by rw [e0, show (0 : Int32) = nI 0 from rfl, znI_eq (by omega) (by omega)]; exact q)]
    rcases b with ⟨z, -⟩ | ⟨-, -, z1, z2⟩
    · omega
    · rw [a, z1, z2]
