/-! ===== the trial row as if it were the row ===== -/
def sub (u : St) : St := fun o => if o = 122 then u 123 else u o
theorem sub_o {u : St} {o : Nat} (h : o ≠ 122) : sub u o = u o := if_neg h
theorem sub_r {u : St} : sub u 122 = u 123 := if_pos rfl
theorem sub_up {u : St} {o k : Nat} {v : Int32} (h1 : o ≠ 122) (h2 : o ≠ 123) : sub (up u o k v) = up (sub u) o k v := by
  funext o'
  by_cases q : o' = 122
  · subst q; rw [sub_r, up_o (Ne.symm h2), up_o (Ne.symm h1), sub_r]
  · rw [sub_o q]
    by_cases q2 : o' = o
    · subst q2; unfold up; rw [if_pos rfl, if_pos rfl, sub_o q]
    · rw [up_o q2, up_o q2, sub_o q]
theorem msb_cg {u t : St} {o o' : Nat} (hr : t o' = u o) (a : t 115 = u 115) (l : ∀ j, j < 6 → t (143 + j) = u (143 + j)) (d : ∀ j, j < 3 → t (152 + j) = u (152 + j)) (h1 : tl u 1 ≤ 6) (h2 : tl u 2 ≤ 3) {c m : Int32} : msb t o' c m = msb u o c m := by
  have hs : sgt t o' = sgt u o := by unfold sgt; rw [a, hr]
  have hA : ∀ k, mdA t o' k m = mdA u o k m := fun k => by unfold mdA; rw [a, hr]
  have hT : ∀ k, tl t k = tl u k := fun k => by unfold tl; rw [a]
  have g1 : msL t o' c m (tl t 1) = msL u o c m (tl u 1) := by
    unfold msL; rw [hs, hT]; exact sm_congr (fun j hj => b2_congr (by unfold mlP; rw [hr, l j (by omega)]))
  have g2 : ∀ x, msD t o' c m x (tl t 2) = msD u o c m x (tl u 2) := fun x => by
    unfold msD; rw [hs, hT]; exact it_congr (fun k hk y => by rw [b2_congr (show mdP t o' c m (sgt u o) k ↔ mdP u o c m (sgt u o) k from by unfold mdP; rw [hA, d k (by omega)])])
  have g3 : mmP t o' c m (sgt t o') ↔ mmP u o c m (sgt u o) := by unfold mmP; rw [hs, hr]
  unfold msb
  rw [g1, g2]
  by_cases p : mmP u o c m (sgt u o)
  · rw [if_pos p, if_pos (g3.mpr p)]
  · rw [if_neg p, if_neg (fun z => p (g3.mp z))]
theorem msb_sub {u : St} (h1 : tl u 1 ≤ 6) (h2 : tl u 2 ≤ 3) {c m : Int32} : msb (sub u) 122 c m = msb u 123 c m := msb_cg sub_r (sub_o (by decide)) (fun _ _ => sub_o (by omega)) (fun _ _ => sub_o (by omega)) h1 h2
theorem sm_b2 {P : Nat → Prop} [DecidablePred P] : ∀ n, n ≤ 1000 → ∃ k, k ≤ n ∧ sm (fun j => b2 (P j)) n = nI k := by
  intro n
  induction n with
  | zero => intro _; exact ⟨0, Nat.le_refl _, rfl⟩
  | succ n ih =>
    intro hn
    obtain ⟨k, hk, e⟩ := ih (by omega)
    rw [sm_s, e]
    by_cases p : P n
    · exact ⟨k + 1, by omega, by rw [b2_t p, nI_s]⟩
    · exact ⟨k, by omega, by rw [b2_f p, Int32.add_zero]⟩
theorem msb_rng {u : St} {o : Nat} {c m : Int32} (h1 : tl u 1 ≤ 6) (h2 : tl u 2 ≤ 3) : ∃ k, k ≤ 15 ∧ msb u o c m = nI k := by
  obtain ⟨a, ha, ea⟩ := sm_b2 (P := fun j => mlP u o c m (sgt u o) j) (tl u 1) (by omega)
  obtain ⟨b, hb, eb⟩ := sm_b2 (P := fun d => mdP u o c m (sgt u o) d) (tl u 2) (by omega)
  have e : msD u o c m (msL u o c m (tl u 1)) (tl u 2) = nI (a + b) := by
    unfold msD msL; rw [it_add, ea, eb, znI_add (by omega)]
  unfold msb
  rw [e]
  split
  · exact ⟨a + b + 1, by omega, nI_s _⟩
  · exact ⟨a + b, by omega, rfl⟩
theorem dep_sub {u : St} {k : Nat} (hk : k ≤ 160) : dep (sub u) k = dep u k := dep_eq (fun j hj => sub_o (by omega))
theorem mlR_sub {u : St} : ∀ n, n ≤ 160 → sub (mlR u n) = mlR (sub u) n := by
  intro n
  induction n with
  | zero => intro _; rfl
  | succ n ih =>
    intro hn
    show sub (mlS u n (mlR u n)) = mlS (sub u) n (mlR (sub u) n)
    rw [← ih (by omega)]
    have e : sub u (167 + n) = u (167 + n) := sub_o (by omega)
    unfold mlS
    rw [e, dep_sub (by omega), sub_o (show 121 ≠ 122 by decide), sub_o (show 120 ≠ 122 by decide)]
    by_cases q : u (167 + n) 0 < 2
    · rw [if_pos q, if_pos q, sub_up (by decide) (by decide)]
    · rw [if_neg q, if_neg q, sub_up (by decide) (by decide)]
theorem mbS_sub {u : St} (hO : ct (u 111 23) ≤ 160) : sub (mbS u) = mbS (sub u) := by
  unfold mbS
  rw [sub_o (show 111 ≠ 122 by decide)]
  by_cases q : u 111 23 = 0
  · rw [if_pos q, if_pos q]
  · rw [if_neg q, if_neg q, mlR_sub _ hO]
theorem mbV_sub {u : St} (hO : ct (u 111 23) ≤ 160) : mbV (sub u) = mbV u := by
  unfold mbV
  rw [sub_o (show 111 ≠ 122 by decide), ← mlR_sub _ hO, sub_o (show 120 ≠ 122 by decide), sub_o (show 121 ≠ 122 by decide)]
theorem kn_sub {u : St} {s : Nat} {seen dark m c ng' fg : Int32} (hs : s < 6) : sub (knS u s seen dark m c ng' fg) = knS (sub u) s seen dark m c ng' fg := by
  have e : ∀ k, (kn1 (sub u) seen dark m c) (161 + s) k = (kn1 u seen dark m c) (161 + s) k := fun k => by
    unfold kn1; rw [up_o (by omega), up_o (by omega), up_o (by omega), up_o (by omega), up_o (by omega), up_o (by omega), up_o (by omega), up_o (by omega), sub_o (by omega)]
  unfold knS kn2
  rw [e 2, e 3, e 1, sub_up (by decide) (by decide), sub_up (by decide) (by decide), sub_up (by decide) (by decide), sub_up (by decide) (by decide), sub_up (by decide) (by decide)]
  generalize (kn1 u seen dark m c) (161 + s) 2 = x2
  generalize (kn1 u seen dark m c) (161 + s) 3 = x3
  generalize (kn1 u seen dark m c) (161 + s) 1 = x1
  unfold kn1
  rw [sub_up (by decide) (by decide), sub_up (by decide) (by decide), sub_up (by decide) (by decide), sub_up (by decide) (by decide)]
/-- within bounds: the number of lights, donkeys, of the law's codes -/
def uB (u : St) : Prop := tl u 1 ≤ 6 ∧ tl u 2 ≤ 3 ∧ ct (u 111 23) ≤ 160
theorem uB_sq {u t : St} (h : sq u t) (hu : uB u) : uB t := by
  unfold uB tl at *; rw [h.1 115 (by decide) (by decide) (by decide), h.2 23 (by decide)]; exact hu
theorem tr3_sub {u : St} (hu : uB u) {s m : Nat} {la : Int32} (hs : s < 6) : sub (tr3 u 123 s m la) = tr3 (sub u) 122 s m la := by
  have e1 := fun c x => msb_sub (u := u) hu.1 hu.2.1 (c := c) (m := x)
  have eL : trL (sub u) 122 m la = trL u 123 m la := by unfold trL; rw [e1]
  have e2 : sub (tr2 u 123 m) = tr2 (sub u) 122 m := by
    unfold tr2 tr1
    rw [e1, sub_up (by decide) (by decide), sub_up (by decide) (by decide), sub_o (show 111 ≠ 122 by decide), up_k (k' := 44) (by decide), up_k (k' := 44) (by decide), sub_o (show 111 ≠ 122 by decide)]
  have e3 : tr2 (sub u) 122 m 122 = tr2 u 123 m 123 := by rw [← e2, sub_r]
  unfold tr3
  rw [kn_sub hs, e1, eL, e2, e3]
theorem trS_sub {u : St} (hu : uB u) {s m : Nat} {la : Int32} (hs : s < 6) : sub (trS u 123 s m la) = trS (sub u) 122 s m la := by
  have e3 := tr3_sub hu (s := s) (m := m) (la := la) hs
  have h3 : ct (tr3 u 123 s m la 111 23) ≤ 160 := (uB_sq (sq.rf.t3 (t := u)) hu).2.2
  have eS : sub (mbS (tr3 u 123 s m la)) = mbS (tr3 (sub u) 122 s m la) := by rw [mbS_sub h3, e3]
  have eV : mbV (tr3 (sub u) 122 s m la) = mbV (tr3 u 123 s m la) := by rw [← e3, mbV_sub h3]
  have e4 : sub (tr4 u 123 s m la) = tr4 (sub u) 122 s m la := by
    unfold tr4
    rw [sub_up (by decide) (by decide), eS, ← eS, sub_o (show 111 ≠ 122 by decide)]
  have eR : mrP (tr4 (sub u) 122 s m la) s m ↔ mrP (tr4 u 123 s m la) s m := by
    rw [← e4]; unfold mrP; rw [sub_o (show 117 ≠ 122 by decide), sub_o (show 161 + s ≠ 122 by omega)]
  unfold trS
  rw [eV]
  by_cases q : b2 (0 < mbV (tr3 u 123 s m la)) = 0
  · rw [if_pos q, if_pos q, eS]
  · rw [if_neg q, if_neg q, sub_up (by decide) (by decide), e4, b2_congr eR]
theorem trR_sub {s : Nat} (hs : s < 6) : ∀ (n m : Nat) (la : Int32) (u : St), uB u → sub (trR 123 s n m la u) = trR 122 s n m la (sub u) := by
  intro n
  induction n with
  | zero => intro m la u _; rfl
  | succ n ih =>
    intro m la u hu
    rw [trR, trR, sub_o (show 111 ≠ 122 by decide)]
    by_cases q : u 111 42 = -1
    · have eL : trL (sub u) 122 m la = trL u 123 m la := by unfold trL; rw [msb_sub hu.1 hu.2.1]
      rw [if_neg (fun z => z q), if_neg (fun z => z q), ih _ _ _ (uB_sq (sq.rf.tS (t := u)) hu), trS_sub hu hs, eL]
    · rw [if_pos q, if_pos q]
theorem trF_sub {u : St} (hu : uB u) {s : Nat} (hs : s < 6) : sub (trF u 123 s) = trF (sub u) 122 s := by
  have e0 : sub (tr0 u) = tr0 (sub u) := by
    unfold tr0; rw [sub_up (by decide) (by decide), sub_up (by decide) (by decide), sub_up (by decide) (by decide), sub_up (by decide) (by decide)]
  have eT : tl (sub u) 0 = tl u 0 := by unfold tl; rw [sub_o (by decide)]
  unfold trF
  rw [trR_sub hs _ _ _ _ (uB_sq (sq.rf.t0 (t := u)) hu), e0, eT]
theorem mpa_sub {u : St} {s : Nat} (hs : s < 6) : mpa (sub u) s = mpa u s ∧ mal (sub u) s = mal u s := by
  have e : mal (sub u) s = mal u s := by unfold mal; rw [sub_o (show 111 ≠ 122 by decide), sub_o (show 161 + s ≠ 122 by omega), sub_o (show 117 ≠ 122 by decide)]
  refine ⟨?_, e⟩
  unfold mpa; rw [e, sub_o (show 111 ≠ 122 by decide), sub_o (show 161 + s ≠ 122 by omega)]
theorem cg_sub {u : St} (hu : uB u) {ships : Int32} : ∀ n, n ≤ 6 → (mcg u 123 ships n).1 = (mcg (sub u) 122 ships n).1 ∧ sub (mcg u 123 ships n).2 = (mcg (sub u) 122 ships n).2 := by
  intro n
  induction n with
  | zero => intro _; exact ⟨rfl, rfl⟩
  | succ n ih =>
    intro hn
    obtain ⟨h1, h2⟩ := ih (by omega)
    by_cases hb : b2 (hB ships (nI n)) = 0
    · rw [mcg_1 hb, mcg_1 hb]; exact ⟨h1, h2⟩
    · have hu2 : uB (mcg u 123 ships n).2 := uB_sq sq.rf.cg hu
      rw [mcg_2 hb, mcg_2 hb]
      have e := trF_sub hu2 (s := n) (by omega)
      rw [h2] at e
      refine ⟨?_, e⟩
      show (mcg u 123 ships n).1 + mpa (trF (mcg u 123 ships n).2 123 n) n = (mcg (sub u) 122 ships n).1 + mpa (trF (mcg (sub u) 122 ships n).2 122 n) n
      rw [h1, ← e, (mpa_sub (by omega)).1]
theorem sf_sub {u : St} (hu : uB u) : ∀ n, n ≤ 6 → (msf u 123 n).1 = (msf (sub u) 122 n).1 ∧ sub (msf u 123 n).2 = (msf (sub u) 122 n).2 := by
  intro n
  induction n with
  | zero => intro _; exact ⟨rfl, rfl⟩
  | succ n ih =>
    intro hn
    obtain ⟨h1, h2⟩ := ih (by omega)
    have hu2 : uB (msf u 123 n).2 := uB_sq sq.rf.sf hu
    have e := trF_sub hu2 (s := n) (by omega)
    rw [h2] at e
    have e42 : trF (msf u 123 n).2 123 n 111 42 = trF (msf (sub u) 122 n).2 122 n 111 42 := by rw [← e, sub_o (show 111 ≠ 122 by decide)]
    by_cases q : trF (msf u 123 n).2 123 n 111 42 = -1
    · rw [msf_1 q, msf_1 (by rw [← e42]; exact q), h1]; exact ⟨rfl, e⟩
    · rw [msf_2 q, msf_2 (by rw [← e42]; exact q), h1]; exact ⟨rfl, e⟩
/-! the class's part of one state, the reference's (its trial row told as the row) of another -/
def mix (P u : St) : St := fun o => if o < 111 then P o else sub u o
theorem mix_c {P u : St} {o : Nat} (h : o < 111) : mix P u o = P o := if_pos h
theorem mix_r {P u : St} {o : Nat} (h : 111 ≤ o) : mix P u o = sub u o := if_neg (by omega)
theorem mix_o {P u : St} {o : Nat} (h : 111 ≤ o) (h2 : o ≠ 122) : mix P u o = u o := by rw [mix_r h, sub_o h2]
theorem mix_122 {P u : St} : mix P u 122 = u 123 := by rw [mix_r (by decide), sub_r]
theorem mix_sx {P u : St} : sx (mix P u) (sub u) := ⟨fun o a _ _ => (mix_r (by omega)).symm, fun f _ _ => by rw [mix_r (by decide)]⟩
theorem mix_xx {P P' u : St} : sx (mix P u) (mix P' u) := ⟨fun o a _ _ => by rw [mix_r (by omega), mix_r (by omega)], fun f _ _ => by rw [mix_r (by decide), mix_r (by decide)]⟩
theorem dkM_sq {σ t : St} (h : sx σ t) (m : Nat) : dkM t m = dkM σ m := by
  unfold dkM; exact it_congr (fun k _ la => trL_sq h)
theorem RC_eq {σ τ : St} (h : RC σ) (hA : ∀ o, o < 27 → τ o = σ o) (h115 : τ 115 = σ 115) (h117 : τ 117 = σ 117) (h119 : τ 119 = σ 119) (hB : ∀ o, 143 ≤ o → o < 167 → τ o = σ o) : RC τ := by
  have eT : ∀ k, tl τ k = tl σ k := fun k => by unfold tl; rw [h115]
  have b := h.b
  refine ⟨fun k hk => ?_, fun k hk => ?_, ?_, ?_, fun c hc => ?_, fun k hk => ?_, fun j hj => ?_, fun j hj => ?_, fun d hd => ?_, fun d hd => ?_, fun s hs => ?_⟩
  · rw [hA 6 (by decide), h115]; exact h.e k hk
  · rw [h115]; exact h.p k hk
  · rw [eT, eT, eT, eT, eT]; exact b
  · rw [hA 4 (by decide), h115]; exact h.sg
  · rw [eT] at hc; rw [hA 8 (by decide), h117]; exact h.reef c hc
  · rw [eT] at hk; rw [hA 26 (by decide), h119]; exact h.door k hk
  · rw [eT] at hj; rw [hA 10 (by decide), hB (143 + j) (by omega) (by omega)]; exact h.lx j hj
  · rw [eT] at hj; rw [hA 12 (by decide), hB (143 + j) (by omega) (by omega)]; exact h.lp j hj
  · rw [eT] at hd; rw [hA 14 (by decide), hB (152 + d) (by omega) (by omega)]; exact h.dx d hd
  · rw [eT] at hd; rw [hA 16 (by decide), hB (152 + d) (by omega) (by omega)]; exact h.dp d hd
  · rw [eT] at hs
    have g := h.sh s hs
    rw [hA 18 (by decide), hA 20 (by decide), hA 22 (by decide), hA 24 (by decide), hB (161 + s) (by omega) (by omega)]; exact g
/-- the reference's part is that of σ but for the trial row and the reckoning -/
def UI (σ u : St) : Prop := (∀ o, 111 < o → o ≠ 120 → o ≠ 121 → o ≠ 123 → u o = σ o) ∧ ∀ f, 0 < f → f < 41 → u 111 f = σ 111 f
theorem UI.sq {σ u v : St} (h : UI σ u) (h2 : sq u v) : UI σ v := ⟨fun o a b c d => (h2.1 o (by omega) b c).trans (h.1 o a b c d), fun f a b => (h2.2 f b).trans (h.2 f a b)⟩
theorem UI.tl {σ u : St} (h : UI σ u) (k : Nat) : tl u k = tl σ k := by unfold Jvm.Pilot.CDonkeyLightLaw_law_r8509_9544ed.tl; rw [h.1 115 (by decide) (by decide) (by decide) (by decide)]
theorem UI.uB {σ u : St} (h : UI σ u) (hC : RC σ) (hO : lawOK σ) : uB u := by
  unfold Jvm.Pilot.CDonkeyLightLaw_law_r8509_9544ed.uB
  rw [h.tl, h.tl, h.2 23 (by decide) (by decide)]; exact ⟨hC.b.2.1, hC.b.2.2.1, hO.1⟩
theorem mix_ok {σ P u : St} (h : RC σ) (hL : LW σ σ) (hO : lawOK σ) (hP : ∀ o, o < 56 → P o = σ o) (hu : UI σ u) : RC (mix P u) ∧ LW (mix P u) (mix P u) ∧ lawOK (mix P u) ∧ ∀ k, tl (mix P u) k = tl σ k := by
  have e : ∀ o, 111 < o → o ≠ 120 → o ≠ 121 → o ≠ 122 → o ≠ 123 → mix P u o = σ o := fun o a b c d f => by rw [mix_o (by omega) d]; exact hu.1 o a b c f
  have e23 : mix P u 111 23 = σ 111 23 := by rw [mix_o (by decide) (by decide)]; exact hu.2 23 (by decide) (by decide)
  refine ⟨RC_eq h (fun o ho => by rw [mix_c (by omega)]; exact hP o (by omega)) (e 115 (by decide) (by decide) (by decide) (by decide) (by decide)) (e 117 (by decide) (by decide) (by decide) (by decide) (by decide)) (e 119 (by decide) (by decide) (by decide) (by decide) (by decide)) (fun o a b => e o (by omega) (by omega) (by omega) (by omega) (by omega)), ?_, ?_, fun k => ?_⟩
  · refine LW_eq hL ?_ ?_ ?_ e23 (fun k _ => e _ (by omega) (by omega) (by omega) (by omega) (by omega))
    all_goals rw [mix_c (by decide)]; exact hP _ (by decide)
  · exact lawOK_eq (fun o a b => e o (by omega) (by omega) (by omega) (by omega) (by omega)) e23 hO
  · unfold tl; rw [e 115 (by decide) (by decide) (by decide) (by decide) (by decide)]
