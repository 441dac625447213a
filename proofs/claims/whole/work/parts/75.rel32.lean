/-! ===== reading a law ===== -/
theorem wm_0 {s : St} {w : List Int32} (hl : 0 < w.length) (hm : WM s w) : rg (s 3) 600 (s 1 3) = w.getD 0 0 := by
  have := (hm.2 0 hl).2
  rw [show nI 0 = 0 from rfl, Int32.add_zero] at this; exact this
theorem wm_seen {s : St} (hm : WM s [115, 101, 101, 110]) : 97 ≤ rg (s 3) 600 (s 1 3) := by rw [wm_0 (by decide) hm]; decide
theorem wm_dark {s : St} (hm : WM s [100, 97, 114, 107]) : 97 ≤ rg (s 3) 600 (s 1 3) := by rw [wm_0 (by decide) hm]; decide
theorem wm_minute {s : St} (hm : WM s [109, 105, 110, 117, 116, 101]) : 97 ≤ rg (s 3) 600 (s 1 3) := by rw [wm_0 (by decide) hm]; decide
theorem wm_cell {s : St} (hm : WM s [99, 101, 108, 108]) : 97 ≤ rg (s 3) 600 (s 1 3) := by rw [wm_0 (by decide) hm]; decide
theorem wm_trust {s : St} (hm : WM s [116, 114, 117, 115, 116]) : 97 ≤ rg (s 3) 600 (s 1 3) := by rw [wm_0 (by decide) hm]; decide
theorem wm_draught {s : St} (hm : WM s [100, 114, 97, 117, 103, 104, 116]) : 97 ≤ rg (s 3) 600 (s 1 3) := by rw [wm_0 (by decide) hm]; decide
theorem wm_crew {s : St} (hm : WM s [99, 114, 101, 119]) : 97 ≤ rg (s 3) 600 (s 1 3) := by rw [wm_0 (by decide) hm]; decide
theorem wm_night {s : St} (hm : WM s [110, 105, 103, 104, 116]) : 97 ≤ rg (s 3) 600 (s 1 3) := by rw [wm_0 (by decide) hm]; decide
theorem wm_fog {s : St} (hm : WM s [102, 111, 103]) : 97 ≤ rg (s 3) 600 (s 1 3) := by rw [wm_0 (by decide) hm]; decide
theorem wm_least {s : St} (hm : WM s [108, 101, 97, 115, 116]) : 97 ≤ rg (s 3) 600 (s 1 3) := by rw [wm_0 (by decide) hm]; decide
theorem wm_most {s : St} (hm : WM s [109, 111, 115, 116]) : 97 ≤ rg (s 3) 600 (s 1 3) := by rw [wm_0 (by decide) hm]; decide
/-- which of the law's words stands there -/
theorem kw {s t : St} (h : SY s t) (h5 : t 111 5 = 0) : (woI s 2 = -1 ∧ mqV t = -1 ∧ moH t = -1) ∨ (97 ≤ rg (s 3) 600 (s 1 3) ∧ ((∃ k, k < 9 ∧ woI s 2 = nI k ∧ mqV t = nI k ∧ moH t = -1) ∨ (woI s 2 = 9 ∧ moH t = 7) ∨ (woI s 2 = 10 ∧ moH t = 8))) := by
  rw [wo2_i, mq_e h h5, mo_e h h5]
  by_cases q0 : WM s [115, 101, 101, 110]
  · refine Or.inr ⟨wm_seen q0, Or.inl ⟨0, by decide, ?_, ?_, ?_⟩⟩
    · rw [if_pos q0]; rfl
    · rw [if_pos q0]; rfl
    · rw [if_neg (fun z => WM_1 (by decide) (by decide) q0 z (fun h => absurd h (by decide))), if_neg (fun z => WM_1 (by decide) (by decide) q0 z (fun _ => ⟨0, by decide, by decide⟩))]
  by_cases q1 : WM s [100, 97, 114, 107]
  · refine Or.inr ⟨wm_dark q1, Or.inl ⟨1, by decide, ?_, ?_, ?_⟩⟩
    · rw [if_neg q0, if_pos q1]; rfl
    · rw [if_neg q0, if_pos q1]; rfl
    · rw [if_neg (fun z => WM_1 (by decide) (by decide) q1 z (fun h => absurd h (by decide))), if_neg (fun z => WM_1 (by decide) (by decide) q1 z (fun _ => ⟨0, by decide, by decide⟩))]
  by_cases q2 : WM s [109, 105, 110, 117, 116, 101]
  · refine Or.inr ⟨wm_minute q2, Or.inl ⟨2, by decide, ?_, ?_, ?_⟩⟩
    · rw [if_neg q0, if_neg q1, if_pos q2]; rfl
    · rw [if_neg q0, if_neg q1, if_pos q2]; rfl
    · rw [if_neg (fun z => WM_1 (by decide) (by decide) q2 z (fun h => absurd h (by decide))), if_neg (fun z => WM_1 (by decide) (by decide) q2 z (fun h => absurd h (by decide)))]
  by_cases q3 : WM s [99, 101, 108, 108]
  · refine Or.inr ⟨wm_cell q3, Or.inl ⟨3, by decide, ?_, ?_, ?_⟩⟩
    · rw [if_neg q0, if_neg q1, if_neg q2, if_pos q3]; rfl
    · rw [if_neg q0, if_neg q1, if_neg q2, if_pos q3]; rfl
    · rw [if_neg (fun z => WM_1 (by decide) (by decide) q3 z (fun h => absurd h (by decide))), if_neg (fun z => WM_1 (by decide) (by decide) q3 z (fun _ => ⟨0, by decide, by decide⟩))]
  by_cases q4 : WM s [116, 114, 117, 115, 116]
  · refine Or.inr ⟨wm_trust q4, Or.inl ⟨4, by decide, ?_, ?_, ?_⟩⟩
    · rw [if_neg q0, if_neg q1, if_neg q2, if_neg q3, if_pos q4]; rfl
    · rw [if_neg q0, if_neg q1, if_neg q2, if_neg q3, if_pos q4]; rfl
    · rw [if_neg (fun z => WM_1 (by decide) (by decide) q4 z (fun _ => ⟨0, by decide, by decide⟩)), if_neg (fun z => WM_1 (by decide) (by decide) q4 z (fun h => absurd h (by decide)))]
  by_cases q5 : WM s [100, 114, 97, 117, 103, 104, 116]
  · refine Or.inr ⟨wm_draught q5, Or.inl ⟨5, by decide, ?_, ?_, ?_⟩⟩
    · rw [if_neg q0, if_neg q1, if_neg q2, if_neg q3, if_neg q4, if_pos q5]; rfl
    · rw [if_neg q0, if_neg q1, if_neg q2, if_neg q3, if_neg q4, if_pos q5]; rfl
    · rw [if_neg (fun z => WM_1 (by decide) (by decide) q5 z (fun h => absurd h (by decide))), if_neg (fun z => WM_1 (by decide) (by decide) q5 z (fun h => absurd h (by decide)))]
  by_cases q6 : WM s [99, 114, 101, 119]
  · refine Or.inr ⟨wm_crew q6, Or.inl ⟨6, by decide, ?_, ?_, ?_⟩⟩
    · rw [if_neg q0, if_neg q1, if_neg q2, if_neg q3, if_neg q4, if_neg q5, if_pos q6]; rfl
    · rw [if_neg q0, if_neg q1, if_neg q2, if_neg q3, if_neg q4, if_neg q5, if_pos q6]; rfl
    · rw [if_neg (fun z => WM_1 (by decide) (by decide) q6 z (fun h => absurd h (by decide))), if_neg (fun z => WM_1 (by decide) (by decide) q6 z (fun _ => ⟨0, by decide, by decide⟩))]
  by_cases q7 : WM s [110, 105, 103, 104, 116]
  · refine Or.inr ⟨wm_night q7, Or.inl ⟨7, by decide, ?_, ?_, ?_⟩⟩
    · rw [if_neg q0, if_neg q1, if_neg q2, if_neg q3, if_neg q4, if_neg q5, if_neg q6, if_pos q7]; rfl
    · rw [if_neg q0, if_neg q1, if_neg q2, if_neg q3, if_neg q4, if_neg q5, if_neg q6, if_pos q7]; rfl
    · rw [if_neg (fun z => WM_1 (by decide) (by decide) q7 z (fun _ => ⟨0, by decide, by decide⟩)), if_neg (fun z => WM_1 (by decide) (by decide) q7 z (fun h => absurd h (by decide)))]
  by_cases q8 : WM s [102, 111, 103]
  · refine Or.inr ⟨wm_fog q8, Or.inl ⟨8, by decide, ?_, ?_, ?_⟩⟩
    · rw [if_neg q0, if_neg q1, if_neg q2, if_neg q3, if_neg q4, if_neg q5, if_neg q6, if_neg q7, if_pos q8]; rfl
    · rw [if_neg q0, if_neg q1, if_neg q2, if_neg q3, if_neg q4, if_neg q5, if_neg q6, if_neg q7, if_pos q8]; rfl
    · rw [if_neg (fun z => WM_1 (by decide) (by decide) q8 z (fun h => absurd h (by decide))), if_neg (fun z => WM_1 (by decide) (by decide) q8 z (fun h => absurd h (by decide)))]
  by_cases q9 : WM s [108, 101, 97, 115, 116]
  · refine Or.inr ⟨wm_least q9, Or.inr (Or.inl ⟨?_, ?_⟩)⟩
    · rw [if_neg q0, if_neg q1, if_neg q2, if_neg q3, if_neg q4, if_neg q5, if_neg q6, if_neg q7, if_neg q8, if_pos q9]
    · rw [if_pos q9]
  by_cases q10 : WM s [109, 111, 115, 116]
  · refine Or.inr ⟨wm_most q10, Or.inr (Or.inr ⟨?_, ?_⟩)⟩
    · rw [if_neg q0, if_neg q1, if_neg q2, if_neg q3, if_neg q4, if_neg q5, if_neg q6, if_neg q7, if_neg q8, if_neg q9, if_pos q10]
    · rw [if_neg q9, if_pos q10]
  refine Or.inl ⟨?_, ?_, ?_⟩
  · rw [if_neg q0, if_neg q1, if_neg q2, if_neg q3, if_neg q4, if_neg q5, if_neg q6, if_neg q7, if_neg q8, if_neg q9, if_neg q10]
  · rw [if_neg q0, if_neg q1, if_neg q2, if_neg q3, if_neg q4, if_neg q5, if_neg q6, if_neg q7, if_neg q8]
  · rw [if_neg q9, if_neg q10]
theorem kw_no {s t : St} (h : SY s t) (h5 : t 111 5 = 0) (hq : rg (s 3) 600 (s 1 3) < 97) : woI s 2 = -1 ∧ mqV t = -1 ∧ moH t = -1 := by
  rcases kw h h5 with z | z
  · exact z
  · exact absurd z.1 (i_lle hq)
/-! the draft of a law -/
def LD (s t : St) : Prop := s 59 4 = t 111 24 ∧ ∀ k, k < ct (t 111 24) → LX (s 61 k) (s 63 k) (t (327 + k) 0) (t (327 + k) 1)
def SL (s t : St) : Prop := SY s t ∧ (t 111 5 = 0 → LD s t)
theorem LD_fr {s s' t t' : St} (h : LD s t) (h4 : s' 59 4 = s 59 4) (h61 : s' 61 = s 61) (h63 : s' 63 = s 63) (h24 : t' 111 24 = t 111 24) (hr : ∀ k, k < 160 → t' (327 + k) = t (327 + k)) (hb : ct (t 111 24) ≤ 160) : LD s' t' := by
  refine ⟨by rw [h4, h24]; exact h.1, fun k hk => ?_⟩
  rw [h24] at hk
  rw [h61, h63, hr k (by omega)]; exact h.2 k hk
theorem pL_ct {t : St} (h : pL t) (h5 : t 111 5 = 0) : ct (t 111 24) ≤ 150 ∧ nI (ct (t 111 24)) = t 111 24 := by
  obtain ⟨⟨a, b, c⟩, d, e⟩ := h
  have := e h5
  refine ⟨by unfold ct; omega, nI_bk this.1⟩
theorem SL.tk {s t : St} (h : SL s t) (hL : pL t) {c : Int32} (hc : 0 ≤ c) : SL (tkR s c) (msg t c) := by
  refine ⟨h.1.ysg hc, fun z => ?_⟩
  have z5 := msg_5 h.1.1 hc z
  exact LD_fr (h.2 z5) (by rw [tkR_o (by decide)]) (tkR_o (by decide)) (tkR_o (by decide)) (msg_k (by decide) (by decide) (by decide)) (fun k _ => msg_o (by omega)) (by have := (pL_ct hL z5).1; omega)
theorem emt_o {s : St} {kd num : Int32} {o : Nat} (h1 : o ≠ 59) (h2 : o ≠ 61) (h3 : o ≠ 63) : emt s 59 kd num o = s o := by
  unfold emt; rw [up_o h1, rs_o h3, rs_o h2]
theorem mnt_o {t : St} {w v : Int32} {o : Nat} (h1 : o ≠ 111) (h2 : o ≠ 327 + (t 111 24).toInt.toNat) : mnt t w v o = t o := by
  unfold mnt; split
  · rw [up_o h1, up_o h2, up_o h2]
  · rfl
/-- a code more -/
theorem SL.nt {s t : St} (h : SL s t) {kd num w v : Int32} (hb : t 111 5 = 0 → 0 ≤ (t 111 24).toInt ∧ (t 111 24).toInt < 150) (hx : t 111 5 = 0 → LX kd num w v) : SL (emt s 59 kd num) (mnt t w v) := by
  have c : ∀ o, o ≠ 59 → o ≠ 61 → o ≠ 63 → emt s 59 kd num o = s o := fun o a b d => emt_o a b d
  by_cases h5 : t 111 5 = 0
  · obtain ⟨b0, b1⟩ := hb h5
    obtain ⟨e4, hk⟩ := h.2 h5
    have e24 : t 111 24 = nI (t 111 24).toInt.toNat := (nI_bk b0).symm
    have eC := emt_e (s := s) (o := 59) (kd := kd) (num := num) (e4.trans e24) (by omega)
    have eR : mnt t w v = up (up (up t (327 + (t 111 24).toInt.toNat) 0 w) (327 + (t 111 24).toInt.toNat) 1 v) 111 24 (t 111 24 + 1) := by unfold mnt; exact if_pos h5
    refine ⟨?_, fun _ => ?_⟩
    · refine SY.cr (h.1.cl (by rw [c 1 (by decide) (by decide) (by decide)]) (by rw [c 1 (by decide) (by decide) (by decide)]) (by rw [c 1 (by decide) (by decide) (by decide)]) (by rw [c 1 (by decide) (by decide) (by decide)]) (c 3 (by decide) (by decide) (by decide))) ?_ ?_ ?_ ?_ ?_
      · exact mnt_k (by decide)
      · exact mnt_k (by decide)
      · exact mnt_k (by decide)
      · exact mnt_k (by decide)
      · exact mnt_o (by decide) (by omega)
    · have n24 : t 111 24 + 1 = nI ((t 111 24).toInt.toNat + 1) := by rw [← nI_s, nI_bk b0]
      refine ⟨?_, fun k hk2 => ?_⟩
      · rw [eC, up_rd, eR, up_rd, n24]
      · rw [eR, up_rd, n24, ct_nI (by omega)] at hk2
        rw [eC, eR, up_o (show 61 ≠ 59 by decide), up_o (show (61 : Nat) ≠ 59 + 4 by decide), show (61 : Nat) = 59 + 2 from rfl, up_o (show (63 : Nat) ≠ 59 by decide), show (63 : Nat) = 59 + 4 from rfl, up_o (show 327 + k ≠ 111 by omega)]
        by_cases z : k = (t 111 24).toInt.toNat
        · rw [← z, up_rd, up_k (show 0 ≠ 1 by decide), up_rd, up_rd, up_rd]; exact hx h5
        · rw [up_k z, up_k z, up_o (show 327 + k ≠ 327 + (t 111 24).toInt.toNat by omega), up_o (show 327 + k ≠ 327 + (t 111 24).toInt.toNat by omega), up_o (show (59 + 4 : Nat) ≠ 59 + 2 by decide)]
          exact hk k (by unfold ct; omega)
  · have eR : mnt t w v = t := by unfold mnt; exact if_neg h5
    rw [eR]
    exact ⟨h.1.cl (by rw [c 1 (by decide) (by decide) (by decide)]) (by rw [c 1 (by decide) (by decide) (by decide)]) (by rw [c 1 (by decide) (by decide) (by decide)]) (by rw [c 1 (by decide) (by decide) (by decide)]) (c 3 (by decide) (by decide) (by decide)), fun z => absurd z h5⟩
theorem okl_lt {a : Int} {t u : St} (hL : pL t) (h : okl a 1 t u) : u 111 5 = 0 → 0 ≤ (u 111 24).toInt ∧ (u 111 24).toInt < 150 := fun z => by
  obtain ⟨p, q, r, s⟩ := h.2.2.2 z
  have h1 := hL.2.2 p
  obtain ⟨b1, b2, b3⟩ := h.1
  have h2 := hL.2.1
  rw [h.2.1] at b2
  omega
/-- no digit there: blamed -/
theorem mnS_no {u : St} {lo hi : Int32} (h5 : u 111 5 = 0) (hd : ¬ (48 ≤ mbt (mbl u 111 2) (mbl u 112) (mbl u 111 4) ∧ mbt (mbl u 111 2) (mbl u 112) (mbl u 111 4) ≤ 57)) : mnS u lo hi 111 5 = 1 ∧ mnS u lo hi 111 6 = mbl u 111 4 := by
  have e1 : mn1 u = wr (mbl u) 1 (mbl u 111 4) := by unfold mn1; exact if_pos (b2_f hd)
  have w5 : wr (mbl u) 1 (mbl u 111 4) 111 5 = 1 ∧ wr (mbl u) 1 (mbl u 111 4) 111 6 = mbl u 111 4 := by
    unfold wr; rw [if_pos (show mbl u 111 5 = 0 by rw [mbl_k (by decide)]; exact h5)]
    exact ⟨by rw [up_k (by decide), up_rd], up_rd⟩
  have e2 : mn2 u 111 5 = 1 ∧ mn2 u 111 6 = mbl u 111 4 := by
    unfold mn2; rw [e1, up_k (by decide), up_k (by decide)]; exact w5
  have e3 : ∀ k p, wr (mn2 u) k p = mn2 u := fun k p => by unfold wr; exact if_neg (by rw [e2.1]; decide)
  unfold mnS mn3
  rw [if_pos h5]
  split
  · rw [e3]; exact e2
  · exact e2
/-- the nest may go deeper -/
theorem SY.mopn {s t : St} (h : SY s t) (h8 : ¬ t 111 8 = 6) (h5 : t 111 5 = 0) : mop t = up t 111 8 (t 111 8 + 1) := by
  unfold mop; rw [if_neg (fun z => h8 z.2), if_pos h5]
theorem mop_six {t : St} (h8 : t 111 8 = 6) (h5 : t 111 5 = 0) : mop t = wr t 3 (t 111 4) := by unfold mop; exact if_pos ⟨h5, h8⟩
theorem SL.m8 {s t : St} (h : SL s t) (hL : ct (t 111 24) ≤ 160 ∨ ¬ t 111 5 = 0) {v : Int32} : SL s (up t 111 8 v) := by
  refine ⟨h.1.cr (up_k (by decide)) (up_k (by decide)) (up_k (by decide)) (up_k (by decide)) (up_o (by decide)), fun z => ?_⟩
  rw [up_k (by decide)] at z
  exact LD_fr (h.2 z) rfl rfl rfl (up_k (by decide)) (fun k _ => up_o (by omega)) (hL.resolve_right (fun y => y z))
/-- two readers of an operand, in which the nest is op deep -/
def RR (op : Int32) (rec rec' : St → St) : Prop := ∀ s t : St, SL s t → pL t → t 111 8 = op → SL (rec s) (rec' t)
