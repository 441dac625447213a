/-! ===== the law's answer: the class's code and the reference's ===== -/
theorem rs_nI {σ : St} {o n d : Nat} {v : Int32} (h : d < n) (hn : n < 100000) : rs σ o n (nI d) v = up σ (o + 1) d v := by
  unfold rs
  rw [i_nI (show d < 2147483648 by omega), if_pos ⟨by omega, by omega⟩, Int.toNat_natCast]
abbrev LX (a v b w : Int32) : Prop := (b = 0 ∧ a = 11 ∧ v = w) ∨ (b = 1 ∧ a = w ∧ 0 ≤ w.toInt ∧ w.toInt < 9) ∨ (b = 2 ∧ a = 12) ∨ (b = 3 ∧ a = 13) ∨ (b = 4 ∧ a = 14) ∨ (b = 5 ∧ a = 15) ∨ (b = 6 ∧ a = 16) ∨ (b = 7 ∧ a = 9) ∨ (b = 8 ∧ a = 10)
def LK (s t : St) : Prop := ∀ j, j < 9 → s 56 j = t 121 j
def LM (s t : St) : Prop := t 111 23 = s 50 4 ∧ ct (s 50 4) ≤ 150 ∧ ∀ k, k < ct (s 50 4) → LX (s 52 k) (s 54 k) (t (167 + k) 0) (t (167 + k) 1)
theorem div_m1 {x : Int32} : x / (-1) = -x := by
  apply Int32.toInt_inj.mp
  rw [Int32.toInt_div, show (-1 : Int32).toInt = -1 from rfl, Int32.toInt_neg, Int.tdiv_neg, Int.tdiv_one]
theorem rem_m1 {x : Int32} : x - x / (-1) * (-1) = 0 := by
  rw [div_m1, Int32.neg_mul, Int32.mul_neg, Int32.mul_one, Int32.neg_neg, Int32.sub_self]
theorem jnd_9 {x y : Int32} : jnd 9 x y = (if y < x then y else x) := by unfold jnd; rw [if_pos rfl]
theorem jnd_12 {x y : Int32} : jnd 12 x y = (x + y) := by unfold jnd; rw [if_neg (by decide), if_pos rfl]
theorem jnd_13 {x y : Int32} : jnd 13 x y = (x - y) := by unfold jnd; rw [if_neg (by decide), if_neg (by decide), if_pos rfl]
theorem jnd_14 {x y : Int32} : jnd 14 x y = (x * y) := by unfold jnd; rw [if_neg (by decide), if_neg (by decide), if_neg (by decide), if_pos rfl]
theorem jnd_15 {x y : Int32} : jnd 15 x y = (if y = 0 then 0 else x / y) := by unfold jnd; rw [if_neg (by decide), if_neg (by decide), if_neg (by decide), if_neg (by decide), if_pos rfl]
theorem jnd_16 {x y : Int32} : jnd 16 x y = (if y = 0 then 0 else x - x / y * y) := by unfold jnd; rw [if_neg (by decide), if_neg (by decide), if_neg (by decide), if_neg (by decide), if_neg (by decide), if_pos rfl]
theorem jnd_10 {x y : Int32} : jnd 10 x y = (if x < y then y else x) := by unfold jnd; rw [if_neg (by decide), if_neg (by decide), if_neg (by decide), if_neg (by decide), if_neg (by decide), if_neg (by decide)]
theorem mby_2 {u v : Int32} : mby 2 u v = (u + v) := by unfold mby; rw [if_pos rfl]
theorem mby_3 {u v : Int32} : mby 3 u v = (u - v) := by unfold mby; rw [if_neg (by decide), if_pos rfl]
theorem mby_4 {u v : Int32} : mby 4 u v = (u * v) := by unfold mby; rw [if_neg (by decide), if_neg (by decide), if_pos rfl]
theorem mby_5 {u v : Int32} : mby 5 u v = (if v = 0 then 0 else if v = -1 then -u else u / v) := by unfold mby; rw [if_neg (by decide), if_neg (by decide), if_neg (by decide), if_pos rfl]
theorem mby_6 {u v : Int32} : mby 6 u v = (if v = 0 ∨ v = -1 then 0 else u - u / v * v) := by unfold mby; rw [if_neg (by decide), if_neg (by decide), if_neg (by decide), if_neg (by decide), if_pos rfl]
theorem mby_7 {u v : Int32} : mby 7 u v = (if u < v then u else v) := by unfold mby; rw [if_neg (by decide), if_neg (by decide), if_neg (by decide), if_neg (by decide), if_neg (by decide), if_pos rfl]
theorem mby_8 {u v : Int32} : mby 8 u v = (if v < u then u else v) := by unfold mby; rw [if_neg (by decide), if_neg (by decide), if_neg (by decide), if_neg (by decide), if_neg (by decide), if_neg (by decide)]
theorem jnd_mby {a v b w x y : Int32} (h : LX a v b w) (hb : ¬ b < 2) : ¬ a < 9 ∧ ¬ a = 11 ∧ jnd a x y = mby b x y := by
  rcases h with ⟨q, -, -⟩ | ⟨q, -, -, -⟩ | ⟨q, e⟩ | ⟨q, e⟩ | ⟨q, e⟩ | ⟨q, e⟩ | ⟨q, e⟩ | ⟨q, e⟩ | ⟨q, e⟩
  · exact absurd (by rw [q]; decide) hb
  · exact absurd (by rw [q]; decide) hb
  · subst q; subst e; exact ⟨by decide, by decide, jnd_12.trans mby_2.symm⟩
  · subst q; subst e; exact ⟨by decide, by decide, jnd_13.trans mby_3.symm⟩
  · subst q; subst e; exact ⟨by decide, by decide, jnd_14.trans mby_4.symm⟩
  · subst q; subst e
    refine ⟨by decide, by decide, ?_⟩
    rw [jnd_15, mby_5]
    by_cases y0 : y = 0
    · rw [if_pos y0, if_pos y0]
    · rw [if_neg y0, if_neg y0]
      by_cases y1 : y = -1
      · rw [if_pos y1, y1]; exact div_m1
      · rw [if_neg y1]
  · subst q; subst e
    refine ⟨by decide, by decide, ?_⟩
    rw [jnd_16, mby_6]
    by_cases y0 : y = 0
    · rw [if_pos y0, if_pos (Or.inl y0)]
    · rw [if_neg y0]
      by_cases y1 : y = -1
      · rw [if_pos (Or.inr y1), y1]; exact rem_m1
      · rw [if_neg (fun z => z.elim y0 y1)]
  · subst q; subst e
    refine ⟨by decide, by decide, ?_⟩
    rw [jnd_9, mby_7]
    by_cases h1 : y < x
    · rw [if_pos h1, if_neg (fun z => by rw [i_lt] at h1 z; omega)]
    · by_cases h2 : x < y
      · rw [if_neg h1, if_pos h2]
      · rw [if_neg h1, if_neg h2, i_eq]; rw [i_lt] at h1 h2; omega
  · subst q; subst e
    refine ⟨by decide, by decide, ?_⟩
    rw [jnd_10, mby_8]
    by_cases h1 : x < y
    · rw [if_pos h1, if_neg (fun z => by rw [i_lt] at h1 z; omega)]
    · by_cases h2 : y < x
      · rw [if_neg h1, if_pos h2]
      · rw [if_neg h1, if_neg h2, i_eq]; rw [i_lt] at h1 h2; omega
theorem law_run {s t : St} (hM : LM s t) (hO : lawOK t) (hK : LK s t) : ∀ i, i ≤ ct (s 50 4) → (lrn s i).2 = nI (dep t i) ∧ ∀ j, j < dep t i → (lrn s i).1 58 j = mlR t i 120 j := by
  intro i
  induction i with
  | zero => intro _; exact ⟨rfl, fun j hj => absurd hj (Nat.not_lt_zero j)⟩
  | succ i ih =>
    intro hi
    obtain ⟨h1, h2⟩ := ih (by omega)
    have hN := hM.2.1
    have hX := hM.2.2 i (by omega)
    have hd : dep t i ≤ i := dep_le
    have hO2 := hO.2 i (by rw [hM.1]; omega)
    have e52 : rg ((lrn s i).1 52) 150 (nI i) = s 52 i := by rw [lrn_o (by decide)]; exact rg_nI (by omega) (by decide)
    have e54 : rg ((lrn s i).1 54) 150 (nI i) = s 54 i := by rw [lrn_o (by decide)]; exact rg_nI (by omega) (by decide)
    have eR : mlR t (i + 1) = mlS t i (mlR t i) := rfl
    by_cases hb : t (167 + i) 0 < 2
    · have hdep : dep t (i + 1) = dep t i + 1 := by rw [dep_s, if_pos hb]
      -- a value goes on the stack
      have key : ∀ v : Int32, lrn s (i + 1) = (rs (lrn s i).1 57 150 (lrn s i).2 v, (lrn s i).2 + 1) → mlR t (i + 1) = up (mlR t i) 120 (dep t i) v → (lrn s (i + 1)).2 = nI (dep t (i + 1)) ∧ ∀ j, j < dep t (i + 1) → (lrn s (i + 1)).1 58 j = mlR t (i + 1) 120 j := by
        intro v ha hb'
        rw [ha, hb', hdep, h1, rs_nI (by omega) (by decide), nI_s]
        refine ⟨rfl, fun j hj => ?_⟩
        show up (lrn s i).1 58 (dep t i) v 58 j = _
        by_cases q : j = dep t i
        · subst q; rw [up_rd, up_rd]
        · rw [up_k q, up_k q]; exact h2 j (by omega)
      rcases hX with ⟨q, e, ev⟩ | ⟨q, e, w0, w9⟩ | ⟨q, -⟩ | ⟨q, -⟩ | ⟨q, -⟩ | ⟨q, -⟩ | ⟨q, -⟩ | ⟨q, -⟩ | ⟨q, -⟩
      · refine key (s 54 i) ?_ ?_
        · rw [lrn_s]; unfold lst; rw [e52, e54, if_neg (by rw [e]; decide), if_pos e]
        · rw [eR]; unfold mlS; rw [if_pos hb, if_pos q, ev]
      · have hw : s 52 i = nI (t (167 + i) 1).toInt.toNat := by rw [e]; exact (nI_bk w0).symm
        refine key (t 121 (t (167 + i) 1).toInt.toNat) ?_ ?_
        · rw [lrn_s]; unfold lst; rw [e52, if_pos (by rw [e, i_lt]; exact w9), hw, lrn_o (by decide), rg_nI (by omega) (by decide), hK _ (by omega)]
        · rw [eR]; unfold mlS; rw [if_pos hb, if_neg (by rw [q]; decide)]
      all_goals exact absurd hb (by rw [q]; decide)
    · have hdep : dep t (i + 1) = dep t i - 1 := by rw [dep_s, if_neg hb]
      have hd2 := hO2.2 hb
      obtain ⟨a9, a11, ej⟩ := jnd_mby (x := mlR t i 120 (dep t i - 2)) (y := mlR t i 120 (dep t i - 1)) hX hb
      have i1 : nI (dep t i) + (-1) = nI (dep t i - 1) := nI_p (by omega) (by omega)
      have i2 : nI (dep t i - 1) - 1 = nI (dep t i - 2) := by rw [Int32.sub_eq_add_neg]; exact nI_p (by omega) (by omega)
      have r1 : rg ((lrn s i).1 58) 150 (nI (dep t i - 1)) = mlR t i 120 (dep t i - 1) := by rw [rg_nI (by omega) (by decide)]; exact h2 _ (by omega)
      have r2 : rg ((lrn s i).1 58) 150 (nI (dep t i - 2)) = mlR t i 120 (dep t i - 2) := by rw [rg_nI (by omega) (by decide)]; exact h2 _ (by omega)
      have eS : lrn s (i + 1) = (up (lrn s i).1 58 (dep t i - 2) (mby (t (167 + i) 0) (mlR t i 120 (dep t i - 2)) (mlR t i 120 (dep t i - 1))), nI (dep t i - 1)) := by
        rw [lrn_s]; unfold lst; rw [e52, if_neg a9, if_neg a11, h1, i1, i2, r1, r2, ej, rs_nI (by omega) (by decide)]
      have eM : mlR t (i + 1) = up (mlR t i) 120 (dep t i - 2) (mby (t (167 + i) 0) (mlR t i 120 (dep t i - 2)) (mlR t i 120 (dep t i - 1))) := by
        rw [eR]; unfold mlS; rw [if_neg hb]
      rw [eS, eM, hdep]
      refine ⟨rfl, fun j hj => ?_⟩
      show up (lrn s i).1 58 (dep t i - 2) _ 58 j = _
      by_cases q : j = dep t i - 2
      · subst q; rw [up_rd, up_rd]
      · rw [up_k q, up_k q]; exact h2 j (by omega)
theorem dep_1le {t : St} (hO : lawOK t) : ∀ k, 0 < k → k ≤ ct (t 111 23) → 1 ≤ dep t k := by
  intro k
  cases k with
  | zero => intro h; omega
  | succ k =>
    intro _ hk
    rw [dep_s]
    split
    · omega
    · rename_i hb
      have := (hO.2 k (by omega)).2 hb
      omega
/-- the law told: many codes, or none yet (seen - 1) -/
def LW (s t : St) : Prop := (¬ t 111 23 = 0 ∧ 0 < ct (t 111 23) ∧ LM s t) ∨ (t 111 23 = 0 ∧ s 50 4 = 3 ∧ s 52 0 = 0 ∧ s 52 1 = 11 ∧ s 54 1 = 1 ∧ s 52 2 = 13)
theorem law_ans {s t : St} (h : LW s t) (hO : lawOK t) (hK : LK s t) : rg ((lwS s) 58) 150 0 = mbV t := by
  unfold lwS mbV
  rcases h with ⟨h0, hp, hM⟩ | ⟨h0, h4, a0, a1, v1, a2⟩
  · rw [if_neg h0, ← hM.1]
    have hr := (law_run hM hO hK (ct (s 50 4)) (Nat.le_refl _)).2 0 (by rw [← hM.1]; exact dep_1le hO _ hp (Nat.le_refl _))
    rw [← hM.1] at hr
    exact (rg_nI (i := 0) (by decide) (by decide)).trans hr
  · rw [if_pos h0, h4, show ct 3 = 3 from rfl, ← hK 0 (by decide)]
    have z : ∀ k, rg ((lrn s k).1 52) 150 (nI k) = rg (s 52) 150 (nI k) := fun k => by rw [lrn_o (by decide)]
    have e1 : lrn s 1 = (up s 58 0 (s 56 0), 1) := by
      rw [lrn_s]; show lst 0 (s, 0) = _; unfold lst
      rw [show rg (s 52) 150 (nI 0) = 0 from (rg_nI (by decide) (by decide)).trans a0, if_pos (by decide)]
      show (rs s 57 150 (nI 0) (rg (s 56) 9 (nI 0)), (0 : Int32) + 1) = _
      rw [rs_nI (by decide) (by decide), rg_nI (by decide) (by decide)]; rfl
    have e2 : lrn s 2 = (up (up s 58 0 (s 56 0)) 58 1 1, 2) := by
      rw [lrn_s, e1]; unfold lst
      rw [show rg ((up s 58 0 (s 56 0)) 52) 150 (nI 1) = 11 from by rw [up_o (by decide)]; exact (rg_nI (by decide) (by decide)).trans a1, if_neg (by decide), if_pos rfl]
      show (rs (up s 58 0 (s 56 0)) 57 150 (nI 1) (rg ((up s 58 0 (s 56 0)) 54) 150 (nI 1)), (1 : Int32) + 1) = _
      rw [rs_nI (by decide) (by decide), rg_nI (by decide) (by decide), up_o (by decide), v1]; rfl
    have e3 : (lrn s 3).1 = up (up (up s 58 0 (s 56 0)) 58 1 1) 58 0 (s 56 0 - 1) := by
      rw [lrn_s, e2]; unfold lst
      rw [show rg ((up (up s 58 0 (s 56 0)) 58 1 1) 52) 150 (nI 2) = 13 from by rw [up_o (by decide), up_o (by decide)]; exact (rg_nI (by decide) (by decide)).trans a2, if_neg (by decide), if_neg (by decide)]
      dsimp only
      rw [show (2 : Int32) + (-1) - 1 = nI 0 from by decide, show (2 : Int32) + (-1) = nI 1 from by decide, jnd_13]
      rw [rs_nI (by decide) (by decide), rg_nI (by decide) (by decide), rg_nI (by decide) (by decide), up_rd, up_k (by decide), up_rd]
    rw [e3]
    exact (rg_nI (i := 0) (by decide) (by decide)).trans up_rd
