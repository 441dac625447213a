/-! ===== the run of a work; a work kept ===== -/
theorem RUN.c {σ s t s' t' : St} (R : RUN σ s t) (hs : ∀ o, o ≠ 74 → s' o = s o) (hs4 : ∀ k, k ≠ 4 → k ≠ 5 → k ≠ 6 → s' 74 k = s 74 k) (ht : ∀ o, o ≠ 111 → t' o = t o) (hf : ∀ f, f < 41 → f ≠ 39 → t' 111 f = t 111 f) (hc : s' 74 4 = t' 111 46 ∧ s' 74 5 = t' 111 47 ∧ s' 74 6 = t' 111 39) : RUN σ s' t' := by
  obtain ⟨a, b, c, d, -, f⟩ := R
  refine ⟨fun o h1 h2 h3 h4 h5 h6 h7 h8 h9 => ?_, fun k h1 h2 h3 => ?_, fun o h1 h2 h3 h4 => ?_, fun f h1 h2 h3 => ?_, hc, ?_⟩
  · rw [hs o h4]; exact a o h1 h2 h3 h4 h5 h6 h7 h8 h9
  · rw [hs4 k h1 h2 h3]; exact b k h1 h2 h3
  · rw [ht o (by omega)]; exact c o h1 h2 h3 h4
  · rw [hf f h2 h3]; exact d f h1 h2 h3
  · rw [hs 83 (by decide), ht 122 (by decide)]; exact f
theorem RUN.b1 {σ s t : St} (R : RUN σ s t) : RUN σ (rb1 s) (mg1 t) := by
  obtain ⟨c1, c2, c3⟩ := R.2.2.2.2.1
  refine R.c (fun o ho => up_o ho) (fun k h1 _ _ => up_k h1) (fun o ho => up_o ho) (fun f h1 _ => up_k (by omega)) ⟨?_, ?_, ?_⟩
  · unfold rb1 mg1; rw [up_rd, up_rd, c1]
  · unfold rb1 mg1; rw [up_k (by decide), up_k (by decide)]; exact c2
  · unfold rb1 mg1; rw [up_k (by decide), up_k (by decide)]; exact c3
theorem run_b2 {σ s t : St} (h : RC σ) (hL : LW σ σ) (hO : lawOK σ) (R : RUN σ s t) {st : Nat} (hst : st < 80) (hW : RW σ σ st) (h6 : ¬ σ (511 + st) 0 = 6) : RUN σ (rb2 s (nI st)) (mgD t st) := by
  obtain ⟨R1, eV⟩ := run_do h hL hO R hst hW h6
  obtain ⟨c1, c2, c3⟩ := R1.2.2.2.2.1
  have eD : mgD t st = up (up (mdS t 122 (511 + st)) 111 47 (mdS t 122 (511 + st) 111 47 + (if mdV t 122 (511 + st) = 0 then 0 else 1))) 111 39 (mdS t 122 (511 + st) 111 39 + (if mdV t 122 (511 + st) = 0 then 1 else 0)) := by
    unfold mgD mgD1; rw [up_k (show 39 ≠ 47 by decide)]
  rw [eD]
  unfold rb2
  rw [eV]
  generalize dsS s (nI st) = s1 at *
  generalize mdS t 122 (511 + st) = t1 at *
  by_cases q : mdV t 122 (511 + st) = 0
  · rw [if_pos q, if_pos q, if_pos q]
    refine R1.c (fun o ho => up_o ho) (fun k _ _ h3 => up_k h3) (fun o ho => by rw [up_o ho, up_o ho]) (fun f h1 h2 => by rw [up_k h2, up_k (by omega)]) ⟨?_, ?_, ?_⟩
    · rw [up_k (by decide), up_k (by decide), up_k (by decide)]; exact c1
    · rw [up_k (by decide), up_k (by decide), up_rd, Int32.add_zero]; exact c2
    · rw [up_rd, up_rd, c3]
  · rw [if_neg q, if_neg q, if_neg q]
    refine R1.c (fun o ho => up_o ho) (fun k _ h2 _ => up_k h2) (fun o ho => by rw [up_o ho, up_o ho]) (fun f h1 h2 => by rw [up_k h2, up_k (by omega)]) ⟨?_, ?_, ?_⟩
    · rw [up_k (by decide), up_k (by decide), up_k (by decide)]; exact c1
    · rw [up_rd, up_k (by decide), up_rd, c2]
    · rw [up_k (by decide), up_rd, Int32.add_zero]; exact c3
theorem run_loop {σ : St} (h : RC σ) (hL : LW σ σ) (hO : lawOK σ) {n : Nat} {op : Int32} {rec : Int32 → Int32 → St → St} {rec' : Nat → Nat → St → St} {a b : Nat} (hb : b ≤ 80) (hg : gok σ n a b) (hW : ∀ k, a ≤ k → k < b → RW σ σ k) (hop : n ≠ 0 → ¬ 6 < op)
    (hrec : n ≠ 0 → ∀ (x y : Nat) (s t : St), x ≤ y → y ≤ 80 → gok σ (n - 1) x y → (∀ k, x ≤ k → k < y → RW σ σ k) → RUN σ s t → RUN σ (rec (nI x) (nI y) s) (rec' x y t)) (hstop : ∀ (x y : Int32) (s : St), ¬ s 74 4 < 200 → rec x y s = s) :
    ∀ (m x : Nat) (s t : St) (m' : Nat), a ≤ x → x ≤ b → b - x ≤ m → b - x ≤ m' → RUN σ s t → RUN σ (rsR (raG rec op) (nI b) m (nI x) s) (mgR rec' b m' x t) := by
  intro m
  induction m with
  | zero =>
    intro x s t m' _ _ hm _ R
    rw [mgR_stop (fun z => by have := z.1; omega)]
    exact R
  | succ m ih =>
    intro x s t m' hax hxb hm hm' R
    have cB := R.2.2.2.2.1.1
    by_cases hx : x < b
    · by_cases hc : s 74 4 < 200
      · rw [mgR_go hm' hx (by rw [← cB]; exact hc), rsR, if_pos ⟨nI_ltz hx (by omega), hc⟩]
        have R1 := R.b1
        obtain ⟨ra, rb, rc, rd, -, -⟩ := R1
        have c76 : rg ((rb1 s) 76) 150 (nI x) = σ (511 + x) 0 := by
          rw [rg_nI (by omega) (by decide), ra 76 (by decide) (by decide) (by decide) (by decide) (by decide) (by decide) (by decide) (by decide) (by decide), (hW x hax hx).1]
        have et : ∀ j, j < 80 → (mg1 t) (511 + j) = σ (511 + j) := fun j hj => rc _ (by omega) (by omega) (by omega) (by omega)
        have et0 : t (511 + x) = σ (511 + x) := R.2.2.1 _ (by omega) (by omega) (by omega) (by omega)
        have eE : mgE t x = mgE σ x := by unfold mgE; rw [et0]
        obtain ⟨-, e1, e2⟩ := gok_1 hg hax hx
        rw [c76, eE]
        by_cases h6 : σ (511 + x) 0 = 6
        · rw [if_pos h6]
          obtain ⟨n0, g2⟩ := gok_2 hg hax hx h6
          obtain ⟨w1, w2, w3, w4, -, -, -, w8, -, -⟩ := hW x hax hx
          have f80 : ∀ u v : St, RUN σ u v → rg (u 80) 150 (nI x) = nI (mgE σ x) := fun u v Q => by
            rw [rg_nI (by omega) (by decide), Q.1 80 (by decide) (by decide) (by decide) (by decide) (by decide) (by decide) (by decide) (by decide) (by decide), w4 h6]
            have := (gok_1 hg hax hx).1.2.2.2
            exact (nI_bk this).symm
          have f78 : rg ((rb1 s) 78) 150 (nI x) = σ (511 + x) 1 := by
            rw [rg_nI (by omega) (by decide), ra 78 (by decide) (by decide) (by decide) (by decide) (by decide) (by decide) (by decide) (by decide) (by decide)]
            exact w2.resolve_left (by rw [h6]; decide)
          have etm : ct (tmv (rb1 s) (nI x)) = mgC σ x := by
            unfold tmv mgC; rw [f78, if_neg]
            rw [i_lt]; have := (w8 h6).2; have z30 : (30 : Int32).toInt = 30 := rfl; omega
          have eB : mgB rec' t x = mgI rec' (x + 1) (mgE σ x) (mg1 t) (mgC σ x) := by
            unfold mgB; rw [et x (by omega), if_pos h6]
            unfold mgE mgC; rw [et x (by omega)]
          have hin : ∀ j : Nat, RUN σ (it (fun _ s => rec (nI x + 1) (rg (s 80) 150 (nI x)) s) (rb1 s) j) (mgI rec' (x + 1) (mgE σ x) (mg1 t) j) := by
            intro j
            induction j with
            | zero => exact R.b1
            | succ j jh =>
              rw [it_s, mgI_s]
              generalize it (fun _ s => rec (nI x + 1) (rg (s 80) 150 (nI x)) s) (rb1 s) j = u at *
              generalize mgI rec' (x + 1) (mgE σ x) (mg1 t) j = v at *
              rw [f80 u v jh, nI_s]
              by_cases q : v 111 46 < 200
              · rw [if_pos q]
                exact hrec n0 (x + 1) (mgE σ x) u v (by omega) (by omega) g2 (fun k h1 h2 => hW k (by omega) (by omega)) jh
              · rw [if_neg q, hstop _ _ _ (by rw [jh.2.2.2.2.1.1]; exact q)]
                exact jh
          have eR : raG rec op (nI x) (rb1 s) = it (fun _ s => rec (nI x + 1) (rg (s 80) 150 (nI x)) s) (rb1 s) (mgC σ x) := by
            unfold raG; rw [if_neg (hop n0), etm]
          rw [eR, eB]
          have R2 := hin (mgC σ x)
          rw [f80 _ _ R2]
          exact ih (mgE σ x) _ _ (m' - 1) (by omega) e2 (by omega) (by omega) R2
        · rw [if_neg h6]
          have e3 : mgE σ x = x + 1 := by
            unfold mgE; rw [(hW x hax hx).2.2.2.2.2.2.2.2.2 h6, i_nI (by omega)]; exact Int.toNat_natCast _
          have eB : mgB rec' t x = mgD (mg1 t) x := by
            unfold mgB; rw [et x (by omega), if_neg h6]
          rw [e3, eB, nI_s]
          exact ih (x + 1) _ _ (m' - 1) (by omega) (by omega) (by omega) (by omega) (run_b2 h hL hO R.b1 (by omega) (hW x hax hx) h6)
      · rw [mgR_stop (fun z => hc (by rw [cB]; exact z.2)), rsR_stop (fun z => hc z.2)]
        exact R
    · have hle : b ≤ x := by omega
      rw [mgR_stop (fun z => hx z.1), rsR_stop (fun z => ?_)]
      · exact R
      · have h1 := z.1
        rw [i_lt, i_nI (by omega), i_nI (by omega)] at h1; omega
theorem rgN_stop : ∀ (n : Nat) (op x y : Int32) (s : St), ¬ s 74 4 < 200 → rgN n op x y s = s := by
  intro n op x y s h
  cases n with
  | zero => exact rsR_stop (fun z => h z.2)
  | succ n => exact rsR_stop (fun z => h z.2)
theorem run_N {σ : St} (h : RC σ) (hL : LW σ σ) (hO : lawOK σ) : ∀ (n : Nat) (op : Int32), op = nI (6 - n) → n ≤ 6 → ∀ (a b : Nat) (s t : St), a ≤ b → b ≤ 80 → gok σ n a b → (∀ k, a ≤ k → k < b → RW σ σ k) → RUN σ s t → RUN σ (rgN n op (nI a) (nI b) s) (mgN n a b t) := by
  intro n
  induction n with
  | zero =>
    intro op _ _ a b s t hab hb hg hW R
    show RUN σ (rsR (raG (fun _ _ s => s) (op + 1)) (nI b) ((nI b).toInt - (nI a).toInt).toNat (nI a) s) (mgR (fun _ _ t => t) b (b - a) a t)
    exact run_loop h hL hO (n := 0) hb hg hW (fun z => absurd rfl z) (fun z => absurd rfl z) (fun _ _ _ _ => rfl) _ a s t (b - a) (Nat.le_refl _) hab (by rw [i_nI (by omega), i_nI (by omega)]; omega) (Nat.le_refl _) R
  | succ n ih =>
    intro op hop hn a b s t hab hb hg hW R
    have e : op + 1 = nI (6 - n) := by rw [hop, nI_s]; congr 1; omega
    show RUN σ (rsR (raG (rgN n (op + 1)) (op + 1)) (nI b) ((nI b).toInt - (nI a).toInt).toNat (nI a) s) (mgR (mgN n) b (b - a) a t)
    refine run_loop h hL hO (n := n + 1) hb hg hW (fun _ => ?_) (fun _ x y s t hxy hy g w R => ih (op + 1) e (by omega) x y s t hxy hy g w R) (fun x y s hs => rgN_stop n (op + 1) x y s hs) _ a s t (b - a) (Nat.le_refl _) hab (by rw [i_nI (by omega), i_nI (by omega)]; omega) (Nat.le_refl _) R
    rw [e, i_lt, i_nI (by omega)]
    have : (6 : Int32).toInt = 6 := rfl
    omega
