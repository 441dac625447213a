/-! ===== would; the logs ===== -/
theorem tln_e {σ : St} {a b : Int32} : tln σ a b = up (up σ 56 7 a) 56 8 b := by
  unfold tln
  rw [show ∀ (u : St) (v : Int32), rs u 55 9 7 v = up u 56 7 v from fun u v => rs9 (k := 7) (by decide), show ∀ (u : St) (v : Int32), rs u 55 9 8 v = up u 56 8 v from fun u v => rs9 (k := 8) (by decide)]
theorem q_would {σ t : St} (h : RC σ) (hL : LW σ σ) (hO : lawOK σ) (hq : sx σ t) {i : Nat} (hi : i < tl σ 3) {seen dark m c n9 fg : Int32} : lwP (tls (tln σ n9 fg) (nI i) seen dark m c) ↔ 0 < mbV (knS t i seen dark m c n9 fg) := by
  have f : ∀ o, o ≠ 56 → tln σ n9 fg o = σ o := fun o ho => by rw [tln_e, up_o ho, up_o ho]
  have r : ∀ k, t (161 + i) k = σ (161 + i) k := fun k => by rw [hq.1 (161 + i) (by omega) (by omega) (by omega)]
  have qk : sx σ (knS t i seen dark m c n9 fg) := hq.tr (sq.rf.kn).x
  have hW : LW (tls (tln σ n9 fg) (nI i) seen dark m c) (knS t i seen dark m c n9 fg) := by
    refine LW_eq hL ?_ ?_ ?_ (qk.2 23 (by decide) (by decide)) (fun k _ => qk.1 _ (by omega) (by omega) (by omega))
    all_goals rw [tls_o (by decide)]; exact f _ (by decide)
  have hK : LK (tls (tln σ n9 fg) (nI i) seen dark m c) (knS t i seen dark m c n9 fg) := by
    refine kn_LK ?_ ?_ ?_ ?_ ?_
    · unfold sT; rw [f 22 (by decide), r]; exact h.s2 hi
    · unfold sD; rw [f 24 (by decide), r]; exact h.s3 hi
    · unfold sW; rw [f 20 (by decide), r]; exact h.s1 hi
    · rw [tln_e, up_k (by decide), up_rd]
    · rw [tln_e, up_rd]
  unfold lwP
  rw [law_ans hW (qk.law hO) hK]
theorem i_rem {x y : Int32} (hx : 0 ≤ x.toInt) (hy : 0 < y.toInt) : (x - x / y * y).toInt = x.toInt % y.toInt := by
  have h1 := Int32.toInt_lt x
  have hd : (x / y).toInt = x.toInt / y.toInt := by
    rw [Int32.toInt_div, Int.tdiv_eq_ediv_of_nonneg hx]
    have h2 : 0 ≤ x.toInt / y.toInt := Int.ediv_nonneg hx (by omega)
    have h3 : x.toInt / y.toInt ≤ x.toInt := Int.ediv_le_self _ hx
    exact Int.bmod_eq_of_le (by omega) (by omega)
  have h2 : 0 ≤ x.toInt / y.toInt := Int.ediv_nonneg hx (by omega)
  have h3 : x.toInt / y.toInt * y.toInt ≤ x.toInt := Int.ediv_mul_le _ (by omega)
  have h4 : 0 ≤ x.toInt / y.toInt * y.toInt := Int.mul_nonneg h2 (by omega)
  have hm : (x / y * y).toInt = x.toInt / y.toInt * y.toInt := by
    rw [Int32.toInt_mul, hd]
    exact Int.bmod_eq_of_le (by omega) (by omega)
  rw [Int32.toInt_sub, hm]
  rw [Int.bmod_eq_of_le (by omega) (by omega), Int.emod_def, Int.mul_comm]
theorem fln_v {p : Int32} (hp : 1 ≤ p.toInt ∧ p.toInt ≤ 9) : ∀ (n : Nat) (x : Int32), 0 ≤ x.toInt → x.toInt + n ≤ 100000 → (p.toInt - x.toInt % p.toInt) % p.toInt ≤ n → (fln p n x).toInt = x.toInt + (p.toInt - x.toInt % p.toInt) % p.toInt := by
  have hc : p.toInt = 1 ∨ p.toInt = 2 ∨ p.toInt = 3 ∨ p.toInt = 4 ∨ p.toInt = 5 ∨ p.toInt = 6 ∨ p.toInt = 7 ∨ p.toInt = 8 ∨ p.toInt = 9 := by omega
  intro n
  induction n with
  | zero =>
    intro x hx _ h
    show x.toInt = _
    have : 0 ≤ (p.toInt - x.toInt % p.toInt) % p.toInt := Int.emod_nonneg _ (by omega)
    omega
  | succ n ih =>
    intro x hx hb h
    have hr := i_rem (y := p) hx (by omega)
    have z0 : (0 : Int32).toInt = 0 := rfl
    rw [fln]
    by_cases q : fl0 x p
    · rw [if_pos q]
      have e : x.toInt % p.toInt = 0 := by rw [← hr]; have q' : x - x / p * p = 0 := q; rw [q']; rfl
      rw [e]
      rcases hc with c | c | c | c | c | c | c | c | c <;> rw [c] <;> omega
    · rw [if_neg q]
      have e : ¬ x.toInt % p.toInt = 0 := fun z => q (by show x - x / p * p = 0; rw [i_eq, hr, z, z0])
      have e1 : (x + 1).toInt = x.toInt + 1 := i_add rfl rfl (by omega) (by omega)
      have g := ih (x + 1) (by omega) (by omega) (by rw [e1]; rcases hc with c | c | c | c | c | c | c | c | c <;> rw [c] at e h ⊢ <;> omega)
      rw [g, e1]
      rcases hc with c | c | c | c | c | c | c | c | c <;> rw [c] at e ⊢ <;> omega
theorem q_flash {σ : St} (h : RC σ) {j : Nat} (hj : j < tl σ 1) {m : Int32} (hm : 0 ≤ m.toInt ∧ m.toInt ≤ 1000) : (if lft m (rg (σ 12) 6 (nI j)) = 0 then m else m + rg (σ 12) 6 (nI j) - lft m (rg (σ 12) 6 (nI j))) = fln (σ (143 + j) 1) 9 m ∧ fl0 (fln (σ (143 + j) 1) 9 m) (σ (143 + j) 1) := by
  have e : rg (σ 12) 6 (nI j) = σ (143 + j) 1 := h.y hj
  have hp := (h.lp j hj).2
  have z0 : (0 : Int32).toInt = 0 := rfl
  have hr := i_rem (x := m) (y := σ (143 + j) 1) hm.1 (by omega)
  have hl : lft m (σ (143 + j) 1) = m - m / σ (143 + j) 1 * σ (143 + j) 1 := if_neg (h.pl hj)
  have hc : (σ (143 + j) 1).toInt = 1 ∨ (σ (143 + j) 1).toInt = 2 ∨ (σ (143 + j) 1).toInt = 3 ∨ (σ (143 + j) 1).toInt = 4 ∨ (σ (143 + j) 1).toInt = 5 ∨ (σ (143 + j) 1).toInt = 6 ∨ (σ (143 + j) 1).toInt = 7 ∨ (σ (143 + j) 1).toInt = 8 ∨ (σ (143 + j) 1).toInt = 9 := by omega
  have hk : (((σ (143 + j) 1).toInt - m.toInt % (σ (143 + j) 1).toInt) % (σ (143 + j) 1).toInt) ≤ (9 : Nat) := by
    rcases hc with c | c | c | c | c | c | c | c | c <;> rw [c] <;> omega
  have g := fln_v hp 9 m hm.1 (by omega) hk
  have g0 : 0 ≤ (fln (σ (143 + j) 1) 9 m).toInt := by
    rw [g]; have : 0 ≤ ((σ (143 + j) 1).toInt - m.toInt % (σ (143 + j) 1).toInt) % (σ (143 + j) 1).toInt := Int.emod_nonneg _ (by omega)
    omega
  refine ⟨?_, ?_⟩
  · rw [e, hl, i_eq, g]
    by_cases q : m - m / σ (143 + j) 1 * σ (143 + j) 1 = 0
    · rw [if_pos q]
      have q2 : m.toInt % (σ (143 + j) 1).toInt = 0 := by rw [← hr, q]; rfl
      rw [q2]
      rcases hc with c | c | c | c | c | c | c | c | c <;> rw [c] <;> omega
    · rw [if_neg q]
      have q2 : ¬ m.toInt % (σ (143 + j) 1).toInt = 0 := fun z => q (by rw [i_eq, hr, z, z0])
      have e1 : (m + σ (143 + j) 1).toInt = m.toInt + (σ (143 + j) 1).toInt := i_add rfl rfl (by omega) (by omega)
      have hb1 : 0 ≤ m.toInt % (σ (143 + j) 1).toInt := Int.emod_nonneg _ (by omega)
      have hb2 : m.toInt % (σ (143 + j) 1).toInt < (σ (143 + j) 1).toInt := Int.emod_lt_of_pos _ (by omega)
      rw [i_sub e1 hr (by omega) (by omega)]
      rcases hc with c | c | c | c | c | c | c | c | c <;> rw [c] at q2 ⊢ <;> omega
  · show fln (σ (143 + j) 1) 9 m - fln (σ (143 + j) 1) 9 m / σ (143 + j) 1 * σ (143 + j) 1 = 0
    rw [i_eq, i_rem g0 (by omega), g, z0]
    rcases hc with c | c | c | c | c | c | c | c | c <;> rw [c] <;> omega
