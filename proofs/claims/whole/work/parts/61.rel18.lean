/-! ===== another row of nights told as the row (83) ===== -/
def tau (f : Nat → Int32) (s : St) : St := fun o => if o = 83 then f else s o
theorem tau_o {f : Nat → Int32} {s : St} {o : Nat} (h : o ≠ 83) : tau f s o = s o := if_neg h
theorem tau_r {f : Nat → Int32} {s : St} : tau f s 83 = f := if_pos rfl
theorem tau_up {f : Nat → Int32} {s : St} {o k : Nat} {v : Int32} (h : o ≠ 83) : tau f (up s o k v) = up (tau f s) o k v := by
  funext o'
  by_cases q : o' = 83
  · subst q; rw [tau_r, up_o (Ne.symm h), tau_r]
  · rw [tau_o q]
    by_cases q2 : o' = o
    · subst q2; unfold up; rw [if_pos rfl, if_pos rfl, tau_o q]
    · rw [up_o q2, up_o q2, tau_o q]
theorem tau_rs {f : Nat → Int32} {s : St} {o n : Nat} {i v : Int32} (h : o + 1 ≠ 83) : tau f (rs s o n i v) = rs (tau f s) o n i v := by
  unfold rs; split
  · exact tau_up h
  · rfl
theorem tau_fl {f g : Nat → Int32} {s : St} {o n : Nat} (h : o ≠ 83) : tau f (fl s o n g) = fl (tau f s) o n g := by
  funext o'
  by_cases q : o' = 83
  · subst q; rw [tau_r, fl_o (Ne.symm h), tau_r]
  · rw [tau_o q]
    by_cases q2 : o' = o
    · subst q2; unfold fl; rw [if_pos rfl, if_pos rfl, tau_o q]
    · rw [fl_o q2, fl_o q2, tau_o q]
theorem tau_tls {f : Nat → Int32} {s : St} {ship a b c d : Int32} : tls (tau f s) ship a b c d = tau f (tls s ship a b c d) := by
  have e2 : sD (rs (tau f s) 55 9 4 (sT (tau f s) ship)) ship = sD (rs s 55 9 4 (sT s ship)) ship := by unfold sD; rw [rs_o (by decide), rs_o (by decide), tau_o (by decide)]
  have e1 : sT (tau f s) ship = sT s ship := by unfold sT; rw [tau_o (by decide)]
  have e3 : sW (rs (rs (tau f s) 55 9 4 (sT (tau f s) ship)) 55 9 5 (sD (rs (tau f s) 55 9 4 (sT (tau f s) ship)) ship)) ship = sW (rs (rs s 55 9 4 (sT s ship)) 55 9 5 (sD (rs s 55 9 4 (sT s ship)) ship)) ship := by unfold sW; rw [rs_o (by decide), rs_o (by decide), rs_o (by decide), rs_o (by decide), tau_o (by decide)]
  unfold tls ts3 ts2 ts1
  rw [e3, e2, e1, tau_rs (by decide), tau_rs (by decide), tau_rs (by decide), tau_rs (by decide), tau_rs (by decide), tau_rs (by decide), tau_rs (by decide)]
theorem tau_lst {f : Nat → Int32} {k : Nat} {z : St × Int32} : lst k (tau f z.1, z.2) = (tau f (lst k z).1, (lst k z).2) := by
  have e52 : tau f z.1 52 = z.1 52 := tau_o (by decide)
  have e56 : tau f z.1 56 = z.1 56 := tau_o (by decide)
  have e54 : tau f z.1 54 = z.1 54 := tau_o (by decide)
  have e58 : tau f z.1 58 = z.1 58 := tau_o (by decide)
  unfold lst
  dsimp only
  by_cases h1 : rg (z.1 52) 150 (nI k) < 9
  · rw [if_pos (show rg (tau f z.1 52) 150 (nI k) < 9 by rw [e52]; exact h1), if_pos h1, tau_rs (by decide), e52, e56]
  · rw [if_neg (show ¬ rg (tau f z.1 52) 150 (nI k) < 9 by rw [e52]; exact h1), if_neg h1]
    by_cases h2 : rg (z.1 52) 150 (nI k) = 11
    · rw [if_pos (show rg (tau f z.1 52) 150 (nI k) = 11 by rw [e52]; exact h2), if_pos h2, tau_rs (by decide), e54]
    · rw [if_neg (show ¬ rg (tau f z.1 52) 150 (nI k) = 11 by rw [e52]; exact h2), if_neg h2, tau_rs (by decide), e58, e52]
theorem tau_lrn {f : Nat → Int32} {s : St} (n : Nat) : lrn (tau f s) n = (tau f (lrn s n).1, (lrn s n).2) := by
  induction n with
  | zero => rfl
  | succ n ih => rw [lrn_s, lrn_s, ih, tau_lst]
theorem tau_lwS {f : Nat → Int32} {s : St} : lwS (tau f s) = tau f (lwS s) := by
  unfold lwS; rw [tau_o (show 50 ≠ 83 by decide), tau_lrn]
theorem tau_lwP {f : Nat → Int32} {s : St} : lwP (tau f s) ↔ lwP s := by
  unfold lwP; rw [tau_lwS, tau_o (show 58 ≠ 83 by decide)]
theorem tau_ps2 {f : Nat → Int32} {s : St} {ship m w : Int32} : ps2 (tau f s) ship m w = tau f (ps2 s ship m w) := by
  have e : rs (tau f s) 89 72 (ship * 12 + m) (rg (tau f s 90) 72 (ship * 12 + m) ||| w) = tau f (rs s 89 72 (ship * 12 + m) (rg (s 90) 72 (ship * 12 + m) ||| w)) := by
    rw [tau_rs (by decide), tau_o (show 90 ≠ 83 by decide)]
  unfold ps2
  rw [e, tau_tls, tau_o (show 86 ≠ 83 by decide), tau_o (show 88 ≠ 83 by decide)]
theorem tau_psT {f : Nat → Int32} {s : St} {ship m w : Int32} : psT (tau f s) ship m w = tau f (psT s ship m w) := by
  have e90 : tau f s 90 = s 90 := tau_o (by decide)
  have eb : b2 (lwP (ps2 (tau f s) ship m w)) = b2 (lwP (ps2 s ship m w)) := b2_congr (by rw [tau_ps2]; exact tau_lwP)
  have e92 : ps2 (tau f s) ship m w 92 = ps2 s ship m w 92 := by rw [tau_ps2, tau_o (by decide)]
  have eS : lwS (ps2 (tau f s) ship m w) = tau f (lwS (ps2 s ship m w)) := by rw [tau_ps2, tau_lwS]
  by_cases h1 : rg (s 90) 72 (ship * 12 + m) &&& w = 0
  · by_cases h2 : b2 (lwP (ps2 s ship m w)) = 0
    · rw [← psT_1 h1 h2, ← psT_1 (show rg (tau f s 90) 72 (ship * 12 + m) &&& w = 0 by rw [e90]; exact h1) (by rw [eb]; exact h2), eS, e92, tau_rs (by decide)]
    · rw [← psT_2 h1 h2, ← psT_2 (show rg (tau f s 90) 72 (ship * 12 + m) &&& w = 0 by rw [e90]; exact h1) (by rw [eb]; exact h2), eS, e92, tau_rs (by decide)]
  · rw [← psT_k h1, ← psT_k (show ¬ rg (tau f s 90) 72 (ship * 12 + m) &&& w = 0 by rw [e90]; exact h1)]
theorem tau_psR {f : Nat → Int32} {ship : Int32} : ∀ (n m : Nat) (s : St), psR ship n m (tau f s) = ((psR ship n m s).1, tau f (psR ship n m s).2) := by
  intro n
  induction n with
  | zero => intro m s; rfl
  | succ n ih =>
    intro m s
    have e1 : stk (tau f s) ship (nI m) ↔ stk s ship (nI m) := by unfold stk cR sD; rw [tau_o (show 8 ≠ 83 by decide), tau_o (show 24 ≠ 83 by decide)]
    have e2 : psV (tau f s) (nI m) = psV s (nI m) := by unfold psV; rw [tau_o (show 86 ≠ 83 by decide), tau_o (show 88 ≠ 83 by decide)]
    have e3 : psH (tau f s) ship (nI m) ↔ psH s ship (nI m) := by unfold psH; rw [e2, tau_psT, tau_o (show 92 ≠ 83 by decide)]
    rw [psR, psR]
    by_cases h1 : stk s ship (nI m)
    · rw [if_neg (show ¬ ¬ stk (tau f s) ship (nI m) from fun z => z (e1.mpr h1)), if_neg (show ¬ ¬ stk s ship (nI m) from fun z => z h1)]
      by_cases h2 : psH s ship (nI m)
      · rw [if_pos (show psH (tau f s) ship (nI m) from e3.mpr h2), if_pos (show psH s ship (nI m) from h2), e2, tau_psT]; exact ih _ _
      · rw [if_neg (show ¬ psH (tau f s) ship (nI m) from fun z => h2 (e3.mp z)), if_neg (show ¬ psH s ship (nI m) from h2), e2, tau_psT] <;> rfl
    · rw [if_pos (show ¬ stk (tau f s) ship (nI m) from fun z => h1 (e1.mp z)), if_pos (show ¬ stk s ship (nI m) from h1)]; exact ih _ _
theorem tau_psk {f : Nat → Int32} {s : St} {ship : Int32} : psk (tau f s) ship = ((psk s ship).1, tau f (psk s ship).2) := by
  unfold psk cM
  rw [tau_o (show 6 ≠ 83 by decide)]; exact tau_psR _ _ _
/-- f is the row of o, as far as tries look -/
def fA (f : Nat → Int32) (o : Nat) (P : St) : Prop := ∀ k, k = 0 ∨ k = 1 ∨ k = 6 ∨ (8 ≤ k ∧ k < 11) → P (o + 2) k = f k
theorem tau_lfl {f : Nat → Int32} {s : St} {q : Nat} (hA : fA f q s) {c m r : Int32} : lfl (tau f s) 81 c m r = lfl s q c m r := by
  have e : ng (tau f s) 81 6 = ng s q 6 := by
    show rg (tau f s 83) 29 (nI 6) = rg (s (q + 2)) 29 (nI 6)
    rw [tau_r, rg_nI (by decide) (by decide), rg_nI (by decide) (by decide), hA 6 (by decide)]
  unfold lfl lfP lX lP cM
  rw [e, tau_o (show 10 ≠ 83 by decide), tau_o (show 12 ≠ 83 by decide), tau_o (show 6 ≠ 83 by decide)]
theorem tau_dfl {f : Nat → Int32} {s : St} {q : Nat} (hA : fA f q s) (h3 : ct (cM s 2) ≤ 3) {c m r : Int32} : dfl (tau f s) 81 c m r = dfl s q c m r := by
  have e6 : cM (tau f s) = cM s := by unfold cM; rw [tau_o (show 6 ≠ 83 by decide)]
  unfold dfl
  rw [e6]
  refine sm_congr (fun d hd => b2_congr ?_)
  have e : ng (tau f s) 81 (8 + nI d) = ng s q (8 + nI d) := by
    show rg (tau f s 83) 29 (8 + nI d) = rg (s (q + 2)) 29 (8 + nI d)
    rw [tau_r, show (8 : Int32) = nI 8 from rfl, znI_add (by omega), rg_nI (by omega) (by decide), rg_nI (by omega) (by decide), hA (8 + d) (by omega)]
  unfold dfP Jvm.Pilot.CDonkeyLightLaw_law_r8509_9544ed.dat dP
  rw [e, e6, tau_o (show 16 ≠ 83 by decide)]
theorem tau_rdk {f : Nat → Int32} {s : St} (n : Nat) : rdk (tau f s) n = (tau f (rdk s n).1, (rdk s n).2) := by
  induction n with
  | zero => rfl
  | succ n ih =>
    have e : rg ((rdk (tau f s) n).1 86) 12 (nI n) = rg ((rdk s n).1 86) 12 (nI n) := by rw [ih]; dsimp only; rw [tau_o (by decide)]
    by_cases h : rg ((rdk s n).1 86) 12 (nI n) ≤ 0
    · rw [rdk_1 h, rdk_1 (by rw [e]; exact h), ih]; dsimp only; rw [tau_rs (by decide)]
    · rw [rdk_2 h, rdk_2 (by rw [e]; exact h), ih]; dsimp only; rw [tau_rs (by decide)]
theorem fA_eq {f : Nat → Int32} {q : Nat} {s t : St} (h : fA f q s) (e : t (q + 2) = s (q + 2)) : fA f q t := fun k hk => by rw [e]; exact h k hk
theorem tau_pb1 {f : Nat → Int32} {s : St} {q : Nat} (hq : q + 2 ≠ 86) (hA : fA f q s) (h3 : ct (cM s 2) ≤ 3) {r : Int32} (n : Nat) : pb1 (tau f s) 81 r n = tau f (pb1 s q r n) := by
  induction n with
  | zero => rfl
  | succ n ih =>
    show rs (pb1 (tau f s) 81 r n) 85 12 (nI n) (lfl (pb1 (tau f s) 81 r n) 81 (nI n) (nI n) r + dfl (pb1 (tau f s) 81 r n) 81 (nI n) (nI n) r) = tau f (rs (pb1 s q r n) 85 12 (nI n) (lfl (pb1 s q r n) q (nI n) (nI n) r + dfl (pb1 s q r n) q (nI n) (nI n) r))
    have hA2 : fA f q (pb1 s q r n) := fA_eq hA (pb1_o hq)
    have h32 : ct (cM (pb1 s q r n) 2) ≤ 3 := by unfold cM; rw [pb1_o (by decide)]; exact h3
    rw [ih, tau_lfl hA2, tau_dfl hA2 h32, tau_rs (by decide)]
theorem tau_pbS {f : Nat → Int32} {s : St} {q : Nat} (hq : q = 81 ∨ q = 99) (hA : fA f q s) (h3 : ct (cM s 2) ≤ 3) : pbS (tau f s) 81 = tau f (pbS s q) := by
  have e0 : pb0 (tau f s) 81 = tau f (pb0 s q) := by
    unfold pb0 tln
    rw [tau_rs (by decide), tau_rs (by decide), tau_fl (by decide), tau_fl (by decide)]
    have en : ∀ k, k = 0 ∨ k = 1 → ng (fl (fl (tau f s) 90 72 (fun _ => 0)) 92 72 (fun _ => 0)) 81 (nI k) = ng (fl (fl s 90 72 (fun _ => 0)) 92 72 (fun _ => 0)) q (nI k) := fun k hk => by
      rw [ng_nI (by omega), ng_nI (by omega), fl_o (by decide), fl_o (by decide), fl_o (show q + 2 ≠ 92 by omega), fl_o (show q + 2 ≠ 90 by omega), tau_r, hA k (by omega)]
    have en0 : ng (fl (fl (tau f s) 90 72 (fun _ => 0)) 92 72 (fun _ => 0)) 81 0 = ng (fl (fl s 90 72 (fun _ => 0)) 92 72 (fun _ => 0)) q 0 := en 0 (by decide)
    have en1 : ng (fl (fl (tau f s) 90 72 (fun _ => 0)) 92 72 (fun _ => 0)) 81 1 = ng (fl (fl s 90 72 (fun _ => 0)) 92 72 (fun _ => 0)) q 1 := en 1 (by decide)
    rw [en0, en1]
  have hA0 : fA f q (pb0 s q) := fA_eq hA (pb0_o (by omega) (by omega) (by omega))
  have h30 : ct (cM (pb0 s q) 2) ≤ 3 := by unfold cM; rw [pb0_o (by decide) (by decide) (by decide)]; exact h3
  have er : rch (tau f (pb0 s q)) 81 = rch (pb0 s q) q := by
    have e1 : ng (tau f (pb0 s q)) 81 1 = ng (pb0 s q) q 1 := by
      show rg (tau f (pb0 s q) 83) 29 (nI 1) = rg (pb0 s q (q + 2)) 29 (nI 1)
      rw [tau_r, rg_nI (by decide) (by decide), rg_nI (by decide) (by decide), hA0 1 (by decide)]
    unfold Jvm.Pilot.CDonkeyLightLaw_law_r8509_9544ed.rch
    rw [e1, tau_o (show 4 ≠ 83 by decide)]
  have e6 : cM (tau f (pb0 s q)) 0 = cM (pb0 s q) 0 := by unfold cM; rw [tau_o (by decide)]
  unfold pbS
  rw [e0, er, e6, tau_pb1 (by omega) hA0 h30, tau_rdk]
/-- as PS_begin, the class's state another one that agrees below 111 -/
theorem PS_begin2 {σ P : St} (h : RC σ) (hn : RNs σ) (hP : ∀ o, o < 111 → P o = σ o) : PS σ (pbS P 81) := by
  have b0 := h.b.1
  have o0 : ∀ o, o ≠ 56 → o ≠ 90 → o ≠ 92 → o < 111 → pb0 P 81 o = σ o := fun o a b c d => (pb0_o a b c).trans (hP o d)
  have e6 : ct (cM (pb0 P 81) 0) = tl σ 0 := by
    unfold cM; rw [o0 6 (by decide) (by decide) (by decide) (by decide)]; show ct (cM σ 0) = _; rw [h.m0]
  have eb : pbS P 81 = (rdk (pb1 (pb0 P 81) 81 (rch (pb0 P 81) 81) (tl σ 0)) (tl σ 0)).1 := by unfold pbS; rw [e6]
  have h86 : ∀ m, m < tl σ 0 → pb1 (pb0 P 81) 81 (rch (pb0 P 81) 81) (tl σ 0) 86 m = msb σ 122 (nI m) (nI m) := fun m hm => by
    rw [pb1_86 _ b0 m hm, lfl_eq (σ := σ) (o0 83 (by decide) (by decide) (by decide) (by decide)) (o0 10 (by decide) (by decide) (by decide) (by decide)) (o0 12 (by decide) (by decide) (by decide) (by decide)) (o0 6 (by decide) (by decide) (by decide) (by decide)), dfl_eq (σ := σ) (o0 83 (by decide) (by decide) (by decide) (by decide)) (o0 16 (by decide) (by decide) (by decide) (by decide)) (o0 6 (by decide) (by decide) (by decide) (by decide)), rch_eq (σ := σ) (o0 83 (by decide) (by decide) (by decide) (by decide)) (o0 4 (by decide) (by decide) (by decide) (by decide))]
    exact q_seen h hn (by omega) (by rw [i_nI (by omega)]; omega) (by rw [i_nI (by omega)]; omega)
  obtain ⟨-, h88⟩ := rdk_88 h86 b0 (tl σ 0) (Nat.le_refl _)
  refine ⟨fun o a b c d e f g => (pbS_o a e f c d).trans (hP o g), fun m hm => ⟨?_, ?_⟩, ?_, ?_⟩
  · rw [eb, rdk_o (by decide)]; exact h86 m hm
  · rw [eb]; exact h88 m hm
  · rw [eb, rdk_o (by decide), pb1_o (by decide), pb0_56.1]
    show rg (P 83) 29 (nI 0) = _
    rw [hP 83 (by decide)]; exact (ng_nI (σ := σ) (o := 81) (i := 0) (by decide)).trans hn.1.night
  · rw [eb, rdk_o (by decide), pb1_o (by decide), pb0_56.2]
    show rg (P 83) 29 (nI 1) = _
    rw [hP 83 (by decide)]; exact (ng_nI (σ := σ) (o := 81) (i := 1) (by decide)).trans hn.1.fog.1
/-! rows of nights, counts from another start -/
def RK2 (K : Nat → Int32) (nd ns nc : Nat) (f g : Nat → Int32) : Prop :=
  (f 0 = g 27) ∧
  (f 1 = g 28 ∧ (g 28 = 0 ∨ g 28 = 1)) ∧
  (f 2 + K 2 = g 23) ∧
  (f 3 + K 3 = g 24) ∧
  (f 4 + K 4 = g 25) ∧
  (f 5 + K 5 = g 26) ∧
  (f 6 = g 0) ∧
  (f 7 = g 4) ∧
  (∀ d, d < nd → f (8 + d) = g (1 + d) ∧ 0 ≤ (g (1 + d)).toInt ∧ (g (1 + d)).toInt ≤ 1000) ∧
  (∀ s, s < ns → f (11 + s) = g (5 + s)) ∧
  (∀ c, c < nc → f (17 + c) = g (11 + c)) ∧ g 29 = -1
theorem ud_r {f : Nat → Int32} {k : Nat} {v : Int32} : upd f k v k = v := if_pos rfl
theorem ud_k {f : Nat → Int32} {k j : Nat} {v : Int32} (h : j ≠ k) : upd f k v j = f j := if_neg h
theorem up_row {σ : St} {o k : Nat} {v : Int32} : up σ o k v o = upd (σ o) k v := if_pos rfl
