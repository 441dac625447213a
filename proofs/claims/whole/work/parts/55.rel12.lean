/-! ===== codes ===== -/
/-- bits as a number -/
def btN (Q : Nat → Prop) [DecidablePred Q] : Nat → Nat
  | 0 => 0
  | n + 1 => if Q n then 2 ^ n + btN Q n else btN Q n
theorem btN_lt {Q : Nat → Prop} [DecidablePred Q] : ∀ n, btN Q n < 2 ^ n := by
  intro n
  induction n with
  | zero => exact Nat.zero_lt_one
  | succ n ih => rw [btN, Nat.pow_succ]; split <;> omega
theorem btN_b {Q : Nat → Prop} [DecidablePred Q] : ∀ n k, k < n → ((btN Q n).testBit k = true ↔ Q k) := by
  intro n
  induction n with
  | zero => intro k hk; omega
  | succ n ih =>
    intro k hk
    rw [btN]
    by_cases q : k = n
    · subst q
      have h0 : (btN Q k).testBit k = false := Nat.testBit_lt_two_pow (btN_lt k)
      by_cases p : Q k
      · rw [if_pos p, Nat.testBit_two_pow_add_eq, h0]; exact ⟨fun _ => p, fun _ => rfl⟩
      · rw [if_neg p, h0]; exact ⟨fun z => absurd z (by decide), fun z => absurd z p⟩
    · by_cases p : Q n
      · rw [if_pos p, Nat.testBit_two_pow_add_gt (by omega)]; exact ih k (by omega)
      · rw [if_neg p]; exact ih k (by omega)
set_option maxRecDepth 100000 in
theorem or_b : ∀ n : Fin 8, ∀ r : Fin 128, r.val < 2 ^ n.val → nI r.val ||| (1 <<< (nI n.val &&& 31)) = nI (2 ^ n.val + r.val) := by decide +kernel
theorem bt_nI {Q : Nat → Prop} [DecidablePred Q] : ∀ n, n ≤ 8 → bt Q n = nI (btN Q n) := by
  intro n
  induction n with
  | zero => intro _; rfl
  | succ n ih =>
    intro hn
    rw [bt_s, ih (by omega), btN]
    have hl := @btN_lt Q _ n
    have h128 : 2 ^ n ≤ 128 := by
      have : 2 ^ n ≤ 2 ^ 7 := Nat.pow_le_pow_right (by decide) (by omega)
      exact this
    by_cases p : Q n
    · rw [if_pos p, if_pos p]; exact or_b ⟨n, by omega⟩ ⟨btN Q n, by omega⟩ hl
    · rw [if_neg p, if_neg p, Int32.or_zero]
set_option maxRecDepth 100000 in
theorem hB_b : ∀ r : Fin 256, ∀ k : Fin 8, (hB (nI r.val) (nI k.val) ↔ r.val.testBit k.val = true) := by decide +kernel
theorem row_e {Q : Nat → Prop} [DecidablePred Q] {n row : Nat} (hn : n ≤ 8) (hr : row < 2 ^ n) : (∀ k, k < n → (hB (nI row) (nI k) ↔ Q k)) ↔ row = btN Q n := by
  have h256 : 2 ^ n ≤ 256 := by
    have : 2 ^ n ≤ 2 ^ 8 := Nat.pow_le_pow_right (by decide) hn
    exact this
  have hb : ∀ k, k < n → (hB (nI row) (nI k) ↔ row.testBit k = true) := fun k hk => hB_b ⟨row, by omega⟩ ⟨k, by omega⟩
  constructor
  · intro h
    apply Nat.eq_of_testBit_eq
    intro k
    rcases Nat.lt_or_ge k n with q | q
    · have e : (row.testBit k = true) ↔ ((btN Q n).testBit k = true) := (hb k q).symm.trans ((h k q).trans (btN_b n k q).symm)
      exact Bool.eq_iff_iff.mpr e
    · have h1 : 2 ^ n ≤ 2 ^ k := Nat.pow_le_pow_right (by decide) q
      rw [Nat.testBit_lt_two_pow (show row < 2 ^ k by omega), Nat.testBit_lt_two_pow (show btN Q n < 2 ^ k by have := @btN_lt Q _ n; omega)]
  · intro h k hk
    rw [hb k hk, h]; exact btN_b n k hk
/-- rows made: of the donkeys ahead of D, starts ahead of a for the D-th -/
abbrev rwR (σ : St) (n d a : Nat) : Nat := btN (fun i => fIn (nI a + nI i) (σ (152 + d) 1)) n
theorem rs110 {s : St} {k : Nat} {v : Int32} (h : k < 256) : rs s 109 256 (nI k) v = up s 110 k v := rs_nI h (by decide)
theorem mmI_v {σ s : St} {n d : Nat} {p : Int32} (hp : p = σ (152 + d) 1) (hn : n ≤ 8) : ∀ a k, mmI s p (nI n) a 110 k = 1 ∨ mmI s p (nI n) a 110 k = s 110 k := by
  intro a
  induction a with
  | zero => intro k; exact Or.inr rfl
  | succ a ih =>
    intro k
    show rs (mmI s p (nI n) a) 109 256 (rof (nI a) p (nI n)) 1 110 k = 1 ∨ rs (mmI s p (nI n) a) 109 256 (rof (nI a) p (nI n)) 1 110 k = s 110 k
    unfold rs
    split
    · by_cases q : k = (rof (nI a) p (nI n)).toInt.toNat
      · left; rw [q, up_rd]
      · rw [up_k q]; exact ih k
    · exact ih k
theorem rof_e {σ : St} {n d a : Nat} {p : Int32} (hp : p = σ (152 + d) 1) (hn : n ≤ 8) : rof (nI a) p (nI n) = nI (rwR σ n d a) := by
  unfold rof
  rw [show ct (nI n) = n from ct_nI (by omega), hp]
  exact bt_nI n hn
theorem rw_lt {σ : St} {n d a : Nat} (hn : n ≤ 8) : rwR σ n d a < 256 := by
  have h1 : rwR σ n d a < 2 ^ n := @btN_lt (fun i => fIn (nI a + nI i) (σ (152 + d) 1)) _ n
  have : 2 ^ n ≤ 2 ^ 8 := Nat.pow_le_pow_right (by decide) hn
  have e : (2 : Nat) ^ 8 = 256 := rfl
  omega
theorem mmI_e {σ s : St} {n d : Nat} {p : Int32} (hp : p = σ (152 + d) 1) (hn : n ≤ 8) : ∀ a k, ((∃ j, j < a ∧ rwR σ n d j = k) → mmI s p (nI n) a 110 k = 1) ∧ ((¬ ∃ j, j < a ∧ rwR σ n d j = k) → mmI s p (nI n) a 110 k = s 110 k) := by
  intro a
  induction a with
  | zero => intro k; exact ⟨fun ⟨j, hj, _⟩ => absurd hj (Nat.not_lt_zero j), fun _ => rfl⟩
  | succ a ih =>
    intro k
    have es : mmI s p (nI n) (a + 1) = up (mmI s p (nI n) a) 110 (rwR σ n d a) 1 := by
      show rs (mmI s p (nI n) a) 109 256 (rof (nI a) p (nI n)) 1 = _
      rw [rof_e hp hn, rs110 (rw_lt hn)]
    rw [es]
    by_cases q : k = rwR σ n d a
    · rw [q, up_rd]
      exact ⟨fun _ => rfl, fun z => absurd ⟨a, by omega, rfl⟩ z⟩
    · rw [up_k q]
      refine ⟨fun ⟨j, hj, e⟩ => (ih k).1 ⟨j, ?_, e⟩, fun z => (ih k).2 (fun ⟨j, hj, e⟩ => z ⟨j, by omega, e⟩)⟩
      rcases Nat.lt_or_ge j a with y | y
      · exact y
      · exact absurd (by rw [← e, show j = a by omega]) q
/-- made by a donkey -/
abbrev mdeR (σ : St) (n D k : Nat) : Prop := ∃ d, d < D ∧ ∃ a, a < ct (σ (152 + d) 1) ∧ rwR σ n d a = k
theorem mmD_e {σ s : St} (h : RC σ) (hs : ∀ o, o ≠ 110 → s o = σ o) {n : Nat} (hn : n ≤ 8) : ∀ D, D ≤ tl σ 2 → ∀ k, (mdeR σ n D k → mmD s (nI n) D 110 k = 1) ∧ (¬ mdeR σ n D k → mmD s (nI n) D 110 k = s 110 k) := by
  intro D
  induction D with
  | zero => intro _ k; exact ⟨fun ⟨d, hd, _⟩ => absurd hd (Nat.not_lt_zero d), fun _ => rfl⟩
  | succ D ih =>
    intro hD k
    have es : mmD s (nI n) (D + 1) = mmI (mmD s (nI n) D) (σ (152 + D) 1) (nI n) (ct (σ (152 + D) 1)) := by
      show mmI (mmD s (nI n) D) (dP (mmD s (nI n) D) (nI D)) (nI n) (ct (dP (mmD s (nI n) D) (nI D))) = _
      have e : dP (mmD s (nI n) D) (nI D) = σ (152 + D) 1 := by
        unfold dP; rw [mmD_o (by decide), hs 16 (by decide)]; exact h.v (by omega)
      rw [e]
    obtain ⟨i1, i2⟩ := mmI_e (σ := σ) (s := mmD s (nI n) D) (d := D) rfl hn (ct (σ (152 + D) 1)) k
    obtain ⟨j1, j2⟩ := ih (by omega) k
    rw [es]
    by_cases q : ∃ j, j < ct (σ (152 + D) 1) ∧ rwR σ n D j = k
    · refine ⟨fun _ => i1 q, fun z => absurd ⟨D, by omega, q⟩ z⟩
    · rw [i2 q]
      refine ⟨fun ⟨d, hd, z⟩ => j1 ⟨d, ?_, z⟩, fun z => j2 (fun ⟨d, hd, y⟩ => z ⟨d, by omega, y⟩)⟩
      rcases Nat.lt_or_ge d D with y | y
      · exact y
      · exact absurd (by rw [← show d = D by omega]; exact z) q
theorem mmS_e {σ s : St} (h : RC σ) (hs : ∀ o, o ≠ 110 → s o = σ o) {n k : Nat} (hn : n ≤ 8) (hk : k < 256) : (mdeR σ n (tl σ 2) k → mmS s (nI n) 110 k = 1) ∧ (¬ mdeR σ n (tl σ 2) k → mmS s (nI n) 110 k = 0) := by
  have e2 : ct (cM s 2) = tl σ 2 := by unfold cM; rw [hs 6 (by decide)]; show ct (cM σ 2) = _; rw [h.m2]
  have g := mmD_e (s := fl s 110 256 (fun _ => 0)) h (fun o ho => by rw [fl_o ho]; exact hs o ho) hn (tl σ 2) (Nat.le_refl _) k
  unfold mmS
  rw [e2]
  refine ⟨g.1, fun z => (g.2 z).trans (fl_in hk)⟩
theorem mkN_e {σ : St} (h : RC σ) {n row : Nat} (hn : n ≤ 8) (hr : row < 2 ^ n) : mkN σ (nI row) n ↔ ¬ mdeR σ n (tl σ 2) row := by
  have k : ∀ d, d < tl σ 2 → ∀ a, mkA (nI row) (nI a) (σ (152 + d) 1) n ↔ rwR σ n d a = row := by
    intro d hd a
    have e := row_e (Q := fun i => fIn (nI a + nI i) (σ (152 + d) 1)) hn hr
    constructor
    · intro z
      exact (e.mp (fun k hk => (z k hk).trans (fIn_0 (h.pd hd)).symm)).symm
    · intro z k hk
      exact (e.mpr z.symm k hk).trans (fIn_0 (h.pd hd))
  constructor
  · intro z ⟨d, hd, a, ha, e⟩
    exact z d hd a ha ((k d hd a).mpr e)
  · intro z d hd a ha y
    exact z ⟨d, hd, a, ha, (k d hd a).mp y⟩
theorem sm_sp {f : Nat → Int32} {m : Nat} : ∀ n, m ≤ n → (∀ k, m ≤ k → k < n → f k = 0) → sm f n = sm f m := by
  intro n
  induction n with
  | zero => intro h _; rw [show m = 0 by omega]
  | succ n ih =>
    intro h h2
    by_cases q : m = n + 1
    · rw [q]
    · rw [sm_s, h2 n (by omega) (by omega), ih (by omega) (fun k a b => h2 k a (by omega)), Int32.add_zero]
theorem i_c1 {x s : Int32} : x + 1 - (s + 1) = x - s + 0 := by
  have e : x + 1 + (-s + -1) = (x + -s) + (1 + -1) := by rw [Int32.add_assoc, Int32.add_assoc, ← Int32.add_assoc 1, Int32.add_comm 1, Int32.add_assoc]
  rw [Int32.sub_eq_add_neg, Int32.neg_add, Int32.sub_eq_add_neg, Int32.sub_eq_add_neg, e]; rfl
theorem i_c0 {x s : Int32} : x + 1 - (s + 0) = x - s + 1 := by
  rw [Int32.add_zero, Int32.sub_eq_add_neg, Int32.sub_eq_add_neg, Int32.add_assoc, Int32.add_comm 1, ← Int32.add_assoc]
/-- how many are not made, the first of them: after m rows -/
theorem mco_e {σ s : St} (h : RC σ) (hs : ∀ o, o ≠ 110 → s o = σ o) {n : Nat} (hn : n ≤ 8) : ∀ (m : Nat), m ≤ 2 ^ n → cf m (mco σ n m) (nI m - sm ((mmS s (nI n)) 110) m) (fnd (fun k => if rg ((mmS s (nI n)) 110) 256 (nI k) = 0 then some (nI k) else none) m) := by
  have h256 : 2 ^ n ≤ 256 := by
    have : 2 ^ n ≤ 2 ^ 8 := Nat.pow_le_pow_right (by decide) hn
    exact this
  intro m
  induction m with
  | zero => intro _; exact ⟨(show nI 0 - (0 : Int32) = 0 by decide), rfl, ⟨fun _ => rfl, fun _ => rfl⟩, (show 0 ≤ (0 : Int32).toInt by decide), (show (0 : Int32).toInt ≤ ((0 : Nat) : Int) by decide)⟩
  | succ m ih =>
    intro hm
    have g := ih (by omega)
    have eR := mkN_e h hn (show m < 2 ^ n by omega)
    have e1 := mmS_e h hs hn (show m < 256 by omega)
    have eM : mco σ n (m + 1) = mcoB σ n m (mco σ n m) := rfl
    have eB : ((m + 1 : Nat) : Int) = (m : Int) + 1 := by omega
    rw [eM, eB, fnd_o, sm_s, rg_nI (show m < 256 by omega) (by decide)]
    unfold mcoB
    by_cases q : mdeR σ n (tl σ 2) m
    · rw [if_pos (show ¬ b2 (¬ mkN σ (nI m) n) = 0 from fun z => b2_z z (fun y => eR.mp y q)), e1.1 q, if_neg (by decide)]
      have ee : nI (m + 1) - (sm ((mmS s (nI n)) 110) m + 1) = nI m - sm ((mmS s (nI n)) 110) m + 0 := by
        rw [← nI_s]; exact i_c1
      rw [ee]
      exact cf_no g
    · rw [if_neg (show ¬ ¬ b2 (¬ mkN σ (nI m) n) = 0 from fun z => z (b2_f (fun y => y (eR.mpr q)))), e1.2 q, if_pos rfl]
      have ee : nI (m + 1) - (sm ((mmS s (nI n)) 110) m + 0) = nI m - sm ((mmS s (nI n)) 110) m + 1 := by
        rw [← nI_s]; exact i_c0
      rw [ee]
      exact cf_yes g (by omega)
theorem sh_pow : ∀ n : Fin 9, (1 : Int32) <<< (nI n.val &&& 31) = nI (2 ^ n.val) := by decide +kernel
theorem ct_pow {n : Nat} (hn : n ≤ 8) : ct (1 <<< (nI n &&& 31)) = 2 ^ n := by
  have h256 : 2 ^ n ≤ 256 := by
    have : 2 ^ n ≤ 2 ^ 8 := Nat.pow_le_pow_right (by decide) hn
    exact this
  rw [sh_pow ⟨n, by omega⟩]; exact ct_nI (show 2 ^ n < 2147483648 by omega)
theorem mmS_hi {σ s : St} (h : RC σ) (hs : ∀ o, o ≠ 110 → s o = σ o) {n k : Nat} (hn : n ≤ 8) (hk : k < 256) (h2 : 2 ^ n ≤ k) : mmS s (nI n) 110 k = 0 := (mmS_e h hs hn hk).2 (fun ⟨d, _, a, _, e⟩ => by
  have := @btN_lt (fun i => fIn (nI a + nI i) (σ (152 + d) 1)) _ n
  have e' : btN (fun i => fIn (nI a + nI i) (σ (152 + d) 1)) n = k := e
  omega)
theorem q_code {σ s : St} (h : RC σ) (hs : ∀ o, o ≠ 110 → s o = σ o) {n : Nat} (hn : n ≤ 8) {w : Int32} : (if w = 0 then 1 <<< (nI n &&& 31) - sm ((mmS s (nI n)) 110) 256 else fuF (mmS s (nI n)) (ct (1 <<< (nI n &&& 31)))) = (if w = 0 then (mco σ n (ct (1 <<< (nI n &&& 31)))).1 else (mco σ n (ct (1 <<< (nI n &&& 31)))).2) := by
  have h256 : 2 ^ n ≤ 256 := by
    have : 2 ^ n ≤ 2 ^ 8 := Nat.pow_le_pow_right (by decide) hn
    exact this
  obtain ⟨a, b, -⟩ := mco_e h hs hn (2 ^ n) (Nat.le_refl _)
  rw [ct_pow hn, sm_sp (f := (mmS s (nI n)) 110) 256 h256 (fun k h1 h2 => mmS_hi h hs hn h2 h1), sh_pow ⟨n, by omega⟩, a, b]
  rfl
theorem fuF_e {σ s : St} (h : RC σ) (hs : ∀ o, o ≠ 110 → s o = σ o) {n : Nat} (hn : n ≤ 8) : fuF (mmS s (nI n)) (ct (1 <<< (nI n &&& 31))) = -1 ↔ ¬ (0 : Int32) < (mco σ n (ct (1 <<< (nI n &&& 31)))).1 := by
  have h256 : 2 ^ n ≤ 256 := by
    have : 2 ^ n ≤ 2 ^ 8 := Nat.pow_le_pow_right (by decide) hn
    exact this
  obtain ⟨-, -, c, d, -⟩ := mco_e h hs hn (2 ^ n) (Nat.le_refl _)
  have z0 : (0 : Int32).toInt = 0 := rfl
  rw [ct_pow hn]
  unfold fuF
  cases hz : fnd (fun k => if rg ((mmS s (nI n)) 110) 256 (nI k) = 0 then some (nI k) else none) (2 ^ n) with
  | none => rw [c.mpr hz]; exact ⟨fun _ => by decide, fun _ => rfl⟩
  | some v =>
    have hne : ¬ (mco σ n (2 ^ n)).1 = 0 := fun y => by rw [c.mp y] at hz; exact absurd hz (by simp)
    obtain ⟨k, hk, e⟩ := fnd_w hz
    have ev : v = nI k := by
      by_cases y : rg ((mmS s (nI n)) 110) 256 (nI k) = 0
      · simp only [if_pos y] at e; exact (Option.some.inj e).symm
      · simp only [if_neg y] at e; exact absurd e (by simp)
    refine ⟨fun y => absurd (show v = -1 from y) (by rw [ev]; exact nI_ne (by omega)), fun y => absurd ?_ y⟩
    rw [i_lt, z0]
    have : (mco σ n (2 ^ n)).1.toInt ≠ 0 := fun u => hne (Int32.toInt_inj.mp (by rw [u]; rfl))
    omega
theorem mmS_o {s : St} {n : Int32} {o : Nat} (h : o ≠ 110) : mmS s n o = s o := by unfold mmS; rw [mmD_o h, fl_o h]
theorem q_shortest {σ : St} (h : RC σ) : ∀ n, n ≤ 8 → (∀ o, o ≠ 110 → (stF σ n).2 o = σ o) ∧ (stF σ n).1 = fnd (fun k => if (0 : Int32) < (mco σ (k + 1) (ct (1 <<< (nI (k + 1) &&& 31)))).1 then some (nI (k + 1)) else none) n := by
  intro n
  induction n with
  | zero => intro _; exact ⟨fun _ _ => rfl, rfl⟩
  | succ n ih =>
    intro hn
    obtain ⟨h1, h2⟩ := ih (by omega)
    cases hz : stF σ n with
    | mk a s =>
      rw [hz] at h1 h2
      cases a with
      | some x =>
        have h2' : fnd (fun k => if (0 : Int32) < (mco σ (k + 1) (ct (1 <<< (nI (k + 1) &&& 31)))).1 then some (nI (k + 1)) else none) n = some x := h2.symm
        rw [stF_m hz (Nat.le_succ n), fnd_n h2']
        exact ⟨h1, rfl⟩
      | none =>
        have h2' : fnd (fun k => if (0 : Int32) < (mco σ (k + 1) (ct (1 <<< (nI (k + 1) &&& 31)))).1 then some (nI (k + 1)) else none) n = none := h2.symm
        have e := fuF_e h h1 (n := n + 1) hn
        rw [fnd_s h2']
        by_cases q : fuF (mmS s (nI (n + 1))) (ct (1 <<< (nI (n + 1) &&& 31))) = -1
        · rw [stF_1 hz q, if_neg (e.mp q)]
          exact ⟨fun o ho => by show mmS s (nI (n + 1)) o = _; rw [mmS_o ho]; exact h1 o ho, rfl⟩
        · rw [stF_2 hz q, if_pos (Decidable.not_not.mp (fun z => q (e.mpr z)))]
          exact ⟨fun o ho => by show mmS s (nI (n + 1)) o = _; rw [mmS_o ho]; exact h1 o ho, rfl⟩
/-! ===== winks ===== -/
theorem mlb_p {p : Int32} {l : Nat} : ∀ n, n ≤ l → mlb p l n = pwr p n := by
  intro n
  induction n with
  | zero => intro _; rfl
  | succ n ih => intro hn; rw [mlb_1 (by omega), pwr_s, ih (by omega)]
theorem pwr_0 {b : Int32} : pwr b 0 = 1 := rfl
theorem mlb_0 {p : Int32} {l : Nat} : mlb p l 0 = 1 := rfl
theorem mlb_e {p : Int32} {l : Nat} : ∀ n, l ≤ n → mlb p l n = pwr p l * pwr (16 - p) (n - l) := by
  intro n
  induction n with
  | zero => intro h; rw [show l = 0 by omega, mlb_0, Nat.sub_zero, pwr_0, pwr_0, Int64.mul_one]
  | succ n ih =>
    intro hn
    by_cases q : l = n + 1
    · rw [mlb_p (n + 1) (by omega), q, Nat.sub_self, pwr_0, Int64.mul_one]
    · rw [mlb_2 (by omega), ih (by omega), show n + 1 - l = (n - l) + 1 by omega, pwr_s, Int64.mul_assoc]
theorem L_mul {x y : Int64} {a b : Int} (hx : 0 ≤ x.toInt ∧ x.toInt ≤ a) (hy : 0 ≤ y.toInt ∧ y.toInt ≤ b) (hab : a * b < 9223372036854775808) : 0 ≤ (x * y).toInt ∧ (x * y).toInt ≤ a * b := by
  have h1 : 0 ≤ x.toInt * y.toInt := Int.mul_nonneg hx.1 hy.1
  have h2 : x.toInt * y.toInt ≤ a * b := Int.mul_le_mul hx.2 hy.2 hy.1 (by omega)
  have e : (x * y).toInt = x.toInt * y.toInt := by rw [Int64.toInt_mul]; exact Int.bmod_eq_of_le (by omega) (by omega)
  rw [e]; exact ⟨h1, h2⟩
theorem L_add {x y : Int64} {a b : Int} (hx : 0 ≤ x.toInt ∧ x.toInt ≤ a) (hy : 0 ≤ y.toInt ∧ y.toInt ≤ b) (hab : a + b < 9223372036854775808) : 0 ≤ (x + y).toInt ∧ (x + y).toInt ≤ a + b := by
  have e : (x + y).toInt = x.toInt + y.toInt := by rw [Int64.toInt_add]; exact Int.bmod_eq_of_le (by omega) (by omega)
  rw [e]; omega
theorem mlb_r {p : Int32} (hp : 0 ≤ p.toInt ∧ p.toInt ≤ 16) {l : Nat} : ∀ n, n ≤ 6 → 0 ≤ (mlb p l n).toInt ∧ (mlb p l n).toInt ≤ (16 : Int) ^ n := by
  have e16 : (16 - p).toInt = 16 - p.toInt := i_sub (show (16 : Int32).toInt = 16 from rfl) rfl (by omega) (by omega)
  intro n
  induction n with
  | zero => intro _; rw [mlb_0]; exact ⟨by decide, by decide⟩
  | succ n ih =>
    intro hn
    have g := ih (by omega)
    have hb : (16 : Int) ^ n * 16 < 9223372036854775808 := by
      have hc : n = 0 ∨ n = 1 ∨ n = 2 ∨ n = 3 ∨ n = 4 ∨ n = 5 := by omega
      rcases hc with rfl | rfl | rfl | rfl | rfl | rfl <;> decide
    rw [show (16 : Int) ^ (n + 1) = 16 ^ n * 16 from rfl]
    by_cases q : n < l
    · rw [mlb_1 q]; exact L_mul g (by rw [Int32.toInt_toInt64]; exact hp) hb
    · rw [mlb_2 q]; exact L_mul g (by rw [Int32.toInt_toInt64, e16]; omega) hb
theorem gcl_100 : ∀ (k n m : Nat) (x y : Int64), 0 ≤ x.toInt → 0 ≤ y.toInt → y.toInt.toNat < 2 ^ k → 2 * k + 1 ≤ n → y.toInt.toNat < m → gcl n x y = gcl m x y := by
  intro k
  induction k with
  | zero =>
    intro n m x y hx hy h1 h2 h3
    have hz : y = 0 := Int64.toInt_inj.mp (by rw [L_z]; have : (2 : Nat) ^ 0 = 1 := rfl; omega)
    obtain ⟨a, rfl⟩ : ∃ a, n = a + 1 := ⟨n - 1, by omega⟩
    obtain ⟨b, rfl⟩ : ∃ b, m = b + 1 := ⟨m - 1, by omega⟩
    rw [gcl, gcl, if_pos hz, if_pos hz]
  | succ k ih =>
    intro n m x y hx hy h1 h2 h3
    obtain ⟨a, rfl⟩ : ∃ a, n = a + 1 := ⟨n - 1, by omega⟩
    obtain ⟨b, rfl⟩ : ∃ b, m = b + 1 := ⟨m - 1, by omega⟩
    rw [gcl, gcl]
    by_cases hz : y = 0
    · rw [if_pos hz, if_pos hz]
    · rw [if_neg hz, if_neg hz]
      have hp := L_ne hz hy
      have hr := L_rem hx hp
      have r0 : 0 ≤ x.toInt % y.toInt := Int.emod_nonneg _ (by omega)
      have r1 : x.toInt % y.toInt < y.toInt := Int.emod_lt_of_pos _ hp
      have e2 : (2 : Nat) ^ (k + 1) = 2 ^ k + 2 ^ k := by rw [Nat.pow_succ]; omega
      generalize hrr : x - x / y * y = r at hr ⊢
      by_cases q : r.toInt.toNat < 2 ^ k
      · exact ih a b y r hy (by omega) q (by omega) (by omega)
      · obtain ⟨a', rfl⟩ : ∃ c, a = c + 1 := ⟨a - 1, by omega⟩
        obtain ⟨b', rfl⟩ : ∃ c, b = c + 1 := ⟨b - 1, by omega⟩
        rw [gcl, gcl]
        by_cases hz2 : r = 0
        · rw [if_pos hz2, if_pos hz2]
        · rw [if_neg hz2, if_neg hz2]
          have hp2 := L_ne hz2 (by omega)
          have hr2 := L_rem hy hp2
          have s0 : 0 ≤ y.toInt % r.toInt := Int.emod_nonneg _ (by omega)
          have s1 : y.toInt % r.toInt < r.toInt := Int.emod_lt_of_pos _ hp2
          have s2 : y.toInt % r.toInt ≤ y.toInt - r.toInt := by
            have d1 : 1 ≤ y.toInt / r.toInt := (Int.le_ediv_iff_mul_le hp2).mpr (by omega)
            have d2 := Int.emod_add_mul_ediv y.toInt r.toInt
            have d3 : r.toInt * 1 ≤ r.toInt * (y.toInt / r.toInt) := Int.mul_le_mul_of_nonneg_left d1 (by omega)
            omega
          exact ih a' b' r _ (by omega) (by rw [hr2]; exact s0) (by rw [hr2]; omega) (by omega) (by rw [hr2]; omega)
theorem gcl_nz : ∀ (n : Nat) (x y : Int64), 0 ≤ x.toInt → 0 ≤ y.toInt → y.toInt.toNat < n → (¬ x = 0 ∨ ¬ y = 0) → ¬ gcl n x y = 0 := by
  intro n
  induction n with
  | zero => intro x y _ _ h; omega
  | succ n ih =>
    intro x y hx hy h hne
    rw [gcl]
    by_cases hz : y = 0
    · rw [if_pos hz]; exact hne.resolve_right (fun z => z hz)
    · rw [if_neg hz]
      have hp := L_ne hz hy
      have hr := L_rem hx hp
      have r0 : 0 ≤ x.toInt % y.toInt := Int.emod_nonneg _ (by omega)
      have r1 : x.toInt % y.toInt < y.toInt := Int.emod_lt_of_pos _ hp
      exact ih y _ hy (by rw [hr]; exact r0) (by rw [hr]; omega) (Or.inl hz)
theorem q_wink {a p q : Int32} {l n : Nat} {part : Int32} (ha : 0 ≤ a.toInt ∧ a.toInt ≤ 16) (hp : 0 ≤ p.toInt ∧ p.toInt ≤ 16) (hq : 0 ≤ q.toInt ∧ q.toInt ≤ 16) (hl : l ≤ n) (hn : n ≤ 6) :
    xwi a p q (nI l) (nI n) part = mwi a p q l n part ∧ 0 ≤ (mwU a p l n).toInt ∧ 0 ≤ (mwL a p q l n).toInt ∧ (¬ mwU a p l n = 0 → ¬ gcl (mwU a p l n).toInt.toNat.succ (mwL a p q l n) (mwU a p l n) = 0) := by
  have e16 : (16 - a).toInt = 16 - a.toInt := i_sub (show (16 : Int32).toInt = 16 from rfl) rfl (by omega) (by omega)
  have h16 : (16 : Int) ^ n ≤ 16777216 := by
    have hc : n = 0 ∨ n = 1 ∨ n = 2 ∨ n = 3 ∨ n = 4 ∨ n = 5 ∨ n = 6 := by omega
    rcases hc with rfl | rfl | rfl | rfl | rfl | rfl | rfl <;> decide
  have hU1 : 0 ≤ (mwU a p l n).toInt ∧ (mwU a p l n).toInt ≤ 16 * 16777216 := L_mul (by rw [Int32.toInt_toInt64]; exact ha) ⟨(mlb_r hp n hn).1, Int.le_trans (mlb_r hp n hn).2 h16⟩ (by decide)
  have hV1 : 0 ≤ ((16 - a).toInt64 * mlb q l n).toInt ∧ ((16 - a).toInt64 * mlb q l n).toInt ≤ 16 * 16777216 := L_mul (by rw [Int32.toInt_toInt64, e16]; omega) ⟨(mlb_r hq n hn).1, Int.le_trans (mlb_r hq n hn).2 h16⟩ (by decide)
  have hL1 : 0 ≤ (mwL a p q l n).toInt ∧ (mwL a p q l n).toInt ≤ 16 * 16777216 + 16 * 16777216 := L_add hU1 hV1 (by decide)
  have c1 : ct (nI l) = l := ct_nI (by omega)
  have c2 : ct (nI n - nI l) = n - l := by
    unfold ct; rw [i_sub (i_nI (show n < 2147483648 by omega)) (i_nI (show l < 2147483648 by omega)) (by omega) (by omega)]; omega
  have eU : xkU a p (nI l) (nI n) = mwU a p l n := by
    unfold xkU mwU; rw [c1, c2, mlb_e n hl, Int64.mul_assoc]
  have eL : xkL a p q (nI l) (nI n) = mwL a p q l n := by
    unfold xkL mwL; rw [eU, c1, c2, mlb_e n hl, Int64.mul_assoc]
  have eG : gcl 100 (mwL a p q l n) (mwU a p l n) = gcl (mwU a p l n).toInt.toNat.succ (mwL a p q l n) (mwU a p l n) := gcl_100 40 100 _ _ _ hL1.1 hU1.1 (by have : (2 : Nat) ^ 40 = 1099511627776 := rfl; omega) (by decide) (by omega)
  have hgn : ¬ mwU a p l n = 0 → ¬ gcl (mwU a p l n).toInt.toNat.succ (mwL a p q l n) (mwU a p l n) = 0 := fun z => gcl_nz _ _ _ hL1.1 hU1.1 (by omega) (Or.inr z)
  refine ⟨?_, hU1.1, hL1.1, hgn⟩
  unfold xwi mwi
  rw [eU, eL, eG]
  by_cases z : mwU a p l n = 0
  · rw [if_pos z, if_pos z]
  · rw [if_neg z, if_neg z, if_neg (hgn z)]
