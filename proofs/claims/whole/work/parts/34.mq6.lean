/-! put -/
def myN (σ : St) (n : Nat) : Int32 := it (fun _ w => w * σ 115 0) 1 n
def pt0 (σ : St) : St := fl σ 123 31 (σ 122)
/-- the way's last digits, donkey by donkey from the last: what is left, the cells, the state -/
def mpJ (D : Nat) (c : Int32) (q : Nat) (z : Int32 × Int32 × St) : Int32 × Int32 × St := (z.1 / c, 16 * z.2.1 + (z.1 - z.1 / c * c), up z.2.2 123 (1 + (D - q - 1)) (z.1 - z.1 / c * c))
def mpI (D : Nat) (c way : Int32) (s : St) (n : Nat) : Int32 × Int32 × St := it (mpJ D c) (way, 0, s) n
theorem mpI_s {D n : Nat} {c way : Int32} {s : St} : mpI D c way s (n + 1) = ((mpI D c way s n).1 / c, 16 * (mpI D c way s n).2.1 + ((mpI D c way s n).1 - (mpI D c way s n).1 / c * c), up (mpI D c way s n).2.2 123 (1 + (D - n - 1)) ((mpI D c way s n).1 - (mpI D c way s n).1 / c * c)) := rfl
theorem mpI_0 {D : Nat} {c way : Int32} {s : St} : mpI D c way s 0 = (way, 0, s) := rfl
theorem wq.I {D n : Nat} {c way : Int32} {σ s : St} (h : wq σ s) (hD : D ≤ 3) : wq σ (mpI D c way s n).2.2 := by
  induction n with
  | zero => exact h
  | succ n ih => rw [mpI_s]; exact ih.row (by omega)
abbrev mpU (D : Nat) (c : Int32) (s : St) (way : Int32) : St := (mpI D c way s D).2.2
def mpZ (D : Nat) (c : Int32) (s : St) (ships way : Int32) : (Int32 × Int32) × St := (((mcg (mpU D c s way) 123 ships (ct (mpU D c s way 115 3))).1, (mpI D c way s D).2.1), (mcg (mpU D c s way) 123 ships (ct (mpU D c s way 115 3))).2)
def mpB (D : Nat) (c ships : Int32) (k : Nat) (x : (Int32 × Int32) × St) : (Int32 × Int32) × St := if (mpZ D c x.2 ships (nI k)).1.1 ≤ x.1.1 then (x.1, (mpZ D c x.2 ships (nI k)).2) else mpZ D c x.2 ships (nI k)
def mpN (σ : St) (D : Nat) (c ships : Int32) (n : Nat) : (Int32 × Int32) × St := it (mpB D c ships) ((-1, 0), pt0 σ) n
theorem mpN_0 {σ : St} {D : Nat} {c ships : Int32} : mpN σ D c ships 0 = ((-1, 0), pt0 σ) := by unfold mpN; rw [it_0]
theorem mpN_s {σ : St} {D : Nat} {c ships : Int32} {i : Nat} : mpN σ D c ships (i + 1) = mpB D c ships i (mpN σ D c ships i) := by unfold mpN; rw [it_s]
theorem mpN_1 {σ : St} {D : Nat} {c ships : Int32} {i : Nat} {u : St} (e : u = mpU D c (mpN σ D c ships i).2 (nI i)) (h : (mcg u 123 ships (ct (u 115 3))).1 ≤ (mpN σ D c ships i).1.1) : mpN σ D c ships (i + 1) = ((mpN σ D c ships i).1, (mcg u 123 ships (ct (u 115 3))).2) := by
  rw [mpN_s]; unfold mpB mpZ; rw [← e, if_pos h]
theorem mpN_2 {σ : St} {D : Nat} {c ships : Int32} {i : Nat} {u : St} (e : u = mpU D c (mpN σ D c ships i).2 (nI i)) (h : ¬ (mcg u 123 ships (ct (u 115 3))).1 ≤ (mpN σ D c ships i).1.1) : mpN σ D c ships (i + 1) = (((mcg u 123 ships (ct (u 115 3))).1, (mpI D c (nI i) (mpN σ D c ships i).2 D).2.1), (mcg u 123 ships (ct (u 115 3))).2) := by
  rw [mpN_s]; unfold mpB mpZ; rw [← e, if_neg h]
theorem sq.w2 {σ t : St} (h : sq σ t) : wq σ t := h.h
theorem wq.N {σ : St} {D : Nat} {c ships : Int32} {n : Nat} (hD : D ≤ 3) : wq (pt0 σ) (mpN σ D c ships n).2 := by
  induction n with
  | zero => rw [mpN_0]; exact wq.rf
  | succ n ih =>
    have hz : wq (pt0 σ) (mcg (mpU D c (mpN σ D c ships n).2 (nI n)) 123 ships (ct (mpU D c (mpN σ D c ships n).2 (nI n) 115 3))).2 := (ih.I hD).tr sq.rf.cg.h
    by_cases h : (mcg (mpU D c (mpN σ D c ships n).2 (nI n)) 123 ships (ct (mpU D c (mpN σ D c ships n).2 (nI n) 115 3))).1 ≤ (mpN σ D c ships n).1.1
    · rw [mpN_1 rfl h]; exact hz
    · rw [mpN_2 rfl h]; exact hz
theorem pt0_o {σ : St} {o : Nat} (h : o ≠ 123) : pt0 σ o = σ o := fl_o h
theorem pt0_w {σ : St} (hw : mW σ) : mW (pt0 σ) := mW_eq (pt0_o (by decide)) (fun o h1 h2 => pt0_o (by omega)) (by rw [pt0_o (by decide)]) (by rw [pt0_o (by decide)]) hw
theorem pt0_r {σ : St} (hr : rW σ 122) : rW (pt0 σ) 123 := by
  unfold rW pt0 fl; simp only [if_true]; exact hr
theorem zin_r {r : Nat} (h1 : 1 ≤ r) (h2 : r ≤ 3) : zin (1 + (nI r + (-1))) 31 (1 + (r - 1)) := by
  rw [nI_p h1 (by omega)]
  exact zin_add (c := 1) (by omega) (by decide)
theorem r_exit {D q : Nat} (h : q ≤ D) (hD : D ≤ 3) (hc : nI (D - q) + (-1) < 0) : q = D := by
  by_cases hq : q = D
  · exact hq
  · rw [nI_p (by omega) (by omega)] at hc
    exact absurd hc (nI_ge0 (by omega))
theorem r_go {D q : Nat} (h : q ≤ D) (hD : D ≤ 3) (hc : ¬ nI (D - q) + (-1) < 0) : q < D := by
  by_cases hq : q = D
  · subst hq
    exact absurd (show nI (q - q) + (-1) < 0 by rw [Nat.sub_self]; decide) hc
  · omega
/-! save -/
def vt1 (s : St) (x p : Nat) : St := up (up s 123 29 (nI x)) 123 30 (nI p)
def mvF (u : St) : Int32 × St := msf u 123 (ct (u 115 3))
def mvB (x p : Nat) (z : (Int32 × Int32 × Int32) × St) : (Int32 × Int32 × Int32) × St := if ons (mvF (vt1 z.2 x (p + 1))).1 6 ≤ z.1.1 then (z.1, (mvF (vt1 z.2 x (p + 1))).2) else ((ons (mvF (vt1 z.2 x (p + 1))).1 6, nI x, nI (p + 1)), (mvF (vt1 z.2 x (p + 1))).2)
def mvP (x : Nat) (z : (Int32 × Int32 × Int32) × St) (n : Nat) : (Int32 × Int32 × Int32) × St := it (mvB x) z n
theorem mvP_s {x i : Nat} {z : (Int32 × Int32 × Int32) × St} : mvP x z (i + 1) = mvB x i (mvP x z i) := by unfold mvP; rw [it_s]
def mvQ (x : Nat) (z : (Int32 × Int32 × Int32) × St) : (Int32 × Int32 × Int32) × St := mvP x z 9
def mvX (σ : St) (n : Nat) : (Int32 × Int32 × Int32) × St := it (fun x z => mvQ x z) ((-1, -1, -1), pt0 σ) n
theorem mvX_q {σ : St} {n : Nat} : mvX σ (n + 1) = mvQ n (mvX σ n) := by unfold mvX; simp only [it_s]
theorem mvQ_p {x : Nat} {z : (Int32 × Int32 × Int32) × St} : mvQ x z = mvP x z 9 := by unfold mvQ; exact Eq.refl _
theorem mvP_0 {x : Nat} {z : (Int32 × Int32 × Int32) × St} : mvP x z 0 = z := by unfold mvP; rw [it_0]
theorem mvX_0 {σ : St} : mvX σ 0 = ((-1, -1, -1), pt0 σ) := by unfold mvX; rw [it_0]
theorem mvP_1 {x i : Nat} {z : (Int32 × Int32 × Int32) × St} {u : St} (e : u = vt1 (mvP x z i).2 x (i + 1)) (h : ons (msf u 123 (ct (u 115 3))).1 6 ≤ (mvP x z i).1.1) : mvP x z (i + 1) = ((mvP x z i).1, (msf u 123 (ct (u 115 3))).2) := by
  rw [mvP_s]; unfold mvB mvF; rw [← e, if_pos h]
theorem mvP_2 {x i : Nat} {z : (Int32 × Int32 × Int32) × St} {u : St} (e : u = vt1 (mvP x z i).2 x (i + 1)) (h : ¬ ons (msf u 123 (ct (u 115 3))).1 6 ≤ (mvP x z i).1.1) : mvP x z (i + 1) = ((ons (msf u 123 (ct (u 115 3))).1 6, nI x, nI (i + 1)), (msf u 123 (ct (u 115 3))).2) := by
  rw [mvP_s]; unfold mvB mvF; rw [← e, if_neg h]
/-- as wq, but a light may be told in the row -/
def vq (σ t : St) : Prop := (∀ o, o ≠ 111 → o ≠ 120 → o ≠ 121 → o ≠ 123 → t o = σ o) ∧ (∀ f, f < 41 → t 111 f = σ 111 f) ∧ (¬ 1 + σ 123 28 = 0 → ¬ 1 + t 123 28 = 0)
theorem vq.rf {σ : St} : vq σ σ := ⟨fun _ _ _ _ _ => rfl, fun _ _ => rfl, id⟩
theorem vq.tr {σ t u : St} (h : vq σ t) (h2 : vq t u) : vq σ u := ⟨fun o a b c d => (h2.1 o a b c d).trans (h.1 o a b c d), fun f hf => (h2.2.1 f hf).trans (h.2.1 f hf), fun z => h2.2.2 (h.2.2 z)⟩
theorem sq.v {σ t : St} (h : sq σ t) : vq σ t := ⟨fun o a b c _ => h.1 o a b c, h.2, fun z => by rw [h.1 123 (by decide) (by decide) (by decide)]; exact z⟩
theorem vq.w {σ t : St} (h : vq σ t) (hw : mW σ) : mW t := mW_eq (h.1 115 (by decide) (by decide) (by decide) (by decide)) (fun o h1 h2 => h.1 o (by omega) (by omega) (by omega) (by omega)) (h.2.1 23 (by decide)) (h.2.1 37 (by decide)) hw
theorem vq.t {σ t : St} (h : vq σ t) {x p : Nat} : vq σ (vt1 t x p) := by
  unfold vt1
  exact ⟨fun o a b c d => by rw [up_o d, up_o d]; exact h.1 o a b c d, fun f hf => by rw [up_o (by decide), up_o (by decide)]; exact h.2.1 f hf, fun z => by rw [up_k (by decide), up_k (by decide)]; exact h.2.2 z⟩
theorem vt1_r {t : St} {x p : Nat} (h : ¬ 1 + t 123 28 = 0) (hp : 0 < p) (hp2 : p < 100) : rW (vt1 t x p) 123 := by
  unfold rW vt1
  rw [up_k (by decide), up_k (by decide), up_rd]
  refine ⟨h, Or.inr ?_⟩
  intro z
  have z2 : nI p = nI 0 := z
  rw [znI_eq (by omega) (by omega)] at z2; omega
theorem vq.P {σ : St} {x n : Nat} {z : (Int32 × Int32 × Int32) × St} (h : vq σ z.2) : vq σ (mvP x z n).2 := by
  induction n with
  | zero => exact h
  | succ n ih =>
    have hf : vq σ (msf (vt1 (mvP x z n).2 x (n + 1)) 123 (ct (vt1 (mvP x z n).2 x (n + 1) 115 3))).2 := ih.t.tr sq.rf.sf.v
    by_cases h1 : ons (msf (vt1 (mvP x z n).2 x (n + 1)) 123 (ct (vt1 (mvP x z n).2 x (n + 1) 115 3))).1 6 ≤ (mvP x z n).1.1
    · rw [mvP_1 rfl h1]; exact hf
    · rw [mvP_2 rfl h1]; exact hf
theorem vq.X {σ : St} {n : Nat} : vq (pt0 σ) (mvX σ n).2 := by
  induction n with
  | zero => rw [mvX_0]; exact vq.rf
  | succ n ih => rw [mvX_q, mvQ_p]; exact ih.P
def mvV (σ : St) (w : Int32) : Int32 := if w = 0 then (mvX σ (tl σ 0)).1.1 else if w = 1 then (mvX σ (tl σ 0)).1.2.1 else (mvX σ (tl σ 0)).1.2.2
/-! Euclid's steps -/
theorem L_lo (x : Int64) : -9223372036854775808 ≤ x.toInt := Int64.le_toInt x
theorem L_hi (x : Int64) : x.toInt < 9223372036854775808 := Int64.toInt_lt x
theorem L_z : (0 : Int64).toInt = 0 := rfl
theorem L_rem {x y : Int64} (hx : 0 ≤ x.toInt) (hy : 0 < y.toInt) : (x - x / y * y).toInt = x.toInt % y.toInt := by
  have h1 := L_hi x
  have hd : (x / y).toInt = x.toInt / y.toInt := by
    rw [Int64.toInt_div, Int.tdiv_eq_ediv_of_nonneg hx]
    have h2 : 0 ≤ x.toInt / y.toInt := Int.ediv_nonneg hx (by omega)
    have h3 : x.toInt / y.toInt ≤ x.toInt := Int.ediv_le_self _ hx
    exact Int.bmod_eq_of_le (by omega) (by omega)
  have h2 : 0 ≤ x.toInt / y.toInt := Int.ediv_nonneg hx (by omega)
  have hm : (x / y * y).toInt = x.toInt / y.toInt * y.toInt := by
    rw [Int64.toInt_mul, hd]
    have h3 : x.toInt / y.toInt * y.toInt ≤ x.toInt := Int.ediv_mul_le _ (by omega)
    have h4 : 0 ≤ x.toInt / y.toInt * y.toInt := Int.mul_nonneg h2 (by omega)
    exact Int.bmod_eq_of_le (by omega) (by omega)
  rw [Int64.toInt_sub, hm]
  have h3 : x.toInt / y.toInt * y.toInt ≤ x.toInt := Int.ediv_mul_le _ (by omega)
  have h4 : 0 ≤ x.toInt / y.toInt * y.toInt := Int.mul_nonneg h2 (by omega)
  rw [Int.bmod_eq_of_le (by omega) (by omega), Int.emod_def, Int.mul_comm]
theorem L_ne {y : Int64} (h : ¬ y = 0) (h0 : 0 ≤ y.toInt) : 0 < y.toInt := by
  have : y.toInt ≠ 0 := fun z => h (Int64.toInt_inj.mp z)
  omega
theorem gcl_fuel : ∀ (n m : Nat) (x y : Int64), 0 ≤ x.toInt → 0 ≤ y.toInt → y.toInt.toNat < n → y.toInt.toNat < m → gcl n x y = gcl m x y := by
  intro n
  induction n with
  | zero => intro m x y _ _ h; omega
  | succ n ih =>
    intro m x y hx hy h1 h2
    cases m with
    | zero => omega
    | succ m =>
      rw [gcl, gcl]
      split
      · rfl
      · rename_i hz
        have hp := L_ne hz hy
        have hr := L_rem hx hp
        have h3 : 0 ≤ x.toInt % y.toInt := Int.emod_nonneg _ (by omega)
        have h4 : x.toInt % y.toInt < y.toInt := Int.emod_lt_of_pos _ hp
        exact ih m y _ hy (by rw [hr]; exact h3) (by rw [hr]; omega) (by rw [hr]; omega)
theorem gcl_go {n : Nat} {x y L U : Int64} (hx : 0 ≤ x.toInt) (hy : 0 ≤ y.toInt) (h : gcl (y.toInt.toNat + 1) x y = gcl n L U) (hz : ¬ y = 0) : gcl ((x - x / y * y).toInt.toNat + 1) y (x - x / y * y) = gcl n L U ∧ 0 ≤ (x - x / y * y).toInt ∧ (x - x / y * y).toInt.toNat < y.toInt.toNat := by
  have hp := L_ne hz hy
  have hr := L_rem hx hp
  have h3 : 0 ≤ x.toInt % y.toInt := Int.emod_nonneg _ (by omega)
  have h4 : x.toInt % y.toInt < y.toInt := Int.emod_lt_of_pos _ hp
  refine ⟨?_, by rw [hr]; exact h3, by rw [hr]; omega⟩
  rw [← h]
  refine Eq.trans ?_ (show gcl (y.toInt.toNat + 1) x y = gcl y.toInt.toNat y (x - x / y * y) from if_neg hz).symm
  exact gcl_fuel _ _ _ _ hy (by rw [hr]; exact h3) (by omega) (by rw [hr]; omega)
theorem gcl_end {n : Nat} {x y L U : Int64} (h : gcl (y.toInt.toNat + 1) x y = gcl n L U) (hz : y = 0) : x = gcl n L U := by
  rw [← h, gcl, if_pos hz]
theorem i_nIc {x : Int32} {d : Nat} (h : x = nI d) : x - 1 = nI (d - 0) + (-1) := by rw [h, Nat.sub_zero, Int32.sub_eq_add_neg]
theorem znW1 {w : Int32} (h : ¬ 1 ≤ w ∨ w = 1) : True := trivial

set_option maxRecDepth 20000 in
set_option maxHeartbeats 4000000 in
theorem c_Mo_put {l : Launch} {G : Gz} (hG : zI G) (σ : St) (ships : Int32) (w : Int32) (hw : mW (up σ 111 0 0)) (hr : rW (up σ 111 0 0) 122) (hD : (up σ 111 0 0) 115 2 = nI (ct ((up σ 111 0 0) 115 2))) (hc : ct ((up σ 111 0 0) 115 2) = 0 ∨ ¬ (up σ 111 0 0) 115 0 = 0) (hv18 : 0 ≤ ships ∧ ships ≤ ((1 <<< ((up σ 111 0 0) 115 3 &&& 31)) - 1)) (hv27 : 0 ≤ w ∧ w ≤ 1) : MI l G y_Mo_put prog_14_method_74_code 10 .int 9 [.ref (G.1 111), .int ships, .int w] σ (if w = 0 then (mpN (up σ 111 0 0) (ct ((up σ 111 0 0) 115 2)) ((up σ 111 0 0) 115 0) ships (ct (myN (up σ 111 0 0) (ct ((up σ 111 0 0) 115 2))))).1.1 else (mpN (up σ 111 0 0) (ct ((up σ 111 0 0) 115 2)) ((up σ 111 0 0) 115 0) ships (ct (myN (up σ 111 0 0) (ct ((up σ 111 0 0) 115 2))))).1.2) ((mpN (up σ 111 0 0) (ct ((up σ 111 0 0) 115 2)) ((up σ 111 0 0) 115 0) ships (ct (myN (up σ 111 0 0) (ct ((up σ 111 0 0) 115 2))))).2) := by
  refine MI.of hG (by decide) (Nat.le_of_ble_eq_true rfl) (fun X hx hq => ?_)
  show J l G X 10 σ 0 [(0, .ref (G.1 111)), (1, .int ships), (2, .int w)] []
  have hb1 : ct ((up σ 111 0 0) 115 1) ≤ 6 := hw.1.2.1
  have hb2 : ct ((up σ 111 0 0) 115 2) ≤ 3 := hw.1.2.2.1
  have hb0 : ct ((up σ 111 0 0) 115 0) ≤ 12 := hw.1.1
  have hb3 : ct ((up σ 111 0 0) 115 3) ≤ 6 := hw.1.2.2.2.1
  have hb4 : ct ((up σ 111 0 0) 115 4) ≤ 6 := hw.1.2.2.2.2
  refine j_aload_n hx d_Mo_put_0 rfl 0 rfl ?_
  refine j_iconst (v := 0) hx d_Mo_put_1 (by decide) ?_
  refine j_put hx ck_Mo 0 (by decide) t_1418 (by decide) (sh_111 _ _) rfl (Nat.le_of_ble_eq_true rfl) (sh_111 _ _) d_Mo_put_2 ?_
  refine j_aload_n hx d_Mo_put_5 rfl 0 rfl ?_
  refine j_iload_n hx d_Mo_put_6 rfl 1 rfl ?_
  refine j_iconst (v := 0) hx d_Mo_put_7 (by decide) ?_
  refine j_iconst (v := 1) hx d_Mo_put_8 (by decide) ?_
  refine j_aload_n hx d_Mo_put_9 rfl 0 rfl ?_
  refine j_get hx ck_Mo 12 (by decide) t_1430 (by decide) (sh_111 _ _) rfl d_Mo_put_10 ?_
  refine j_iconst (v := 3) hx d_Mo_put_13 (by decide) ?_
  have hz14_1 : zin (3) 6 3 := by first | exact ⟨rfl, by decide⟩ | exact zin_nI (by omega) (by first | decide | omega) | exact zin_of (by omega) (by omega)
  refine j_ialdk hx ia_115 hz14_1 d_Mo_put_14 ?_
  refine j_ishl hx d_Mo_put_15 ?_
  refine j_iconst (v := 1) hx d_Mo_put_16 (by decide) ?_
  refine j_isub hx d_Mo_put_17 ?_
  refine j_callSi hx (c_Mo_in1 hG (up σ 111 0 0) ships 0 ((1 <<< (((up σ 111 0 0) 115 3) &&& 31)) - 1) (by exact hv18)) mo_Mo_in t_1582 t_1581 (by decide) rfl rfl (Nat.le_of_ble_eq_true rfl) d_Mo_put_18 ?_
  refine j_if_eq (tgt := 33) hx d_Mo_put_21 (by decide) (fun zc21 => absurd zc21 (by decide)) (fun _ => ?_)
  refine j_iload_n hx d_Mo_put_24 rfl 2 rfl ?_
  refine j_iconst (v := 0) hx d_Mo_put_25 (by decide) ?_
  refine j_iconst (v := 1) hx d_Mo_put_26 (by decide) ?_
  refine j_callSi hx (c_Mo_in1 hG (up σ 111 0 0) w 0 1 (by exact hv27)) mo_Mo_in t_1582 t_1581 (by decide) rfl rfl (Nat.le_of_ble_eq_true rfl) d_Mo_put_27 ?_
  refine j_if_ne (tgt := 37) hx d_Mo_put_30 (by decide) (fun _ => ?_) (fun zc30 => absurd zc30 (by decide))
  refine j_iconst (v := 0) hx d_Mo_put_37 (by decide) ?_
  refine j_iconst (v := 1) hx d_Mo_put_38 (by decide) ?_
  refine j_iconst (v := 1) hx d_Mo_put_39 (by decide) ?_
  refine j_callVi hx (c_Mo_bad0 hG (up σ 111 0 0) 0 1 1 (by rfl) (by exact up_rd)) mo_Mo_bad mv_Mo_bad t_1584 (by decide) rfl (by decide) (sh_111 _ _) rfl rfl (Nat.le_of_ble_eq_true rfl) d_Mo_put_40 ?_
  refine j_if_eq (tgt := 48) hx d_Mo_put_43 (by decide) (fun _ => ?_) (fun zc43 => absurd (by decide) zc43)
  refine j_iconst (v := 1) hx d_Mo_put_48 (by decide) ?_
  refine j_istore_n hx [(3, .int 1), (0, .ref (G.1 111)), (1, .int ships), (2, .int w)] d_Mo_put_49 rfl (by decide) rfl ?_
  refine j_iconst (v := (-1)) hx d_Mo_put_50 (by decide) ?_
  refine j_istore hx [(4, .int ((-1))), (3, .int 1), (0, .ref (G.1 111)), (1, .int ships), (2, .int w)] d_Mo_put_51 (by decide) rfl ?_
  refine j_iconst (v := 0) hx d_Mo_put_53 (by decide) ?_
  refine j_istore hx [(5, .int 0), (4, .int ((-1))), (3, .int 1), (0, .ref (G.1 111)), (1, .int ships), (2, .int w)] d_Mo_put_54 (by decide) rfl ?_
  refine j_iconst (v := 0) hx d_Mo_put_56 (by decide) ?_
  refine j_istore hx [(6, .int 0), (5, .int 0), (4, .int ((-1))), (3, .int 1), (0, .ref (G.1 111)), (1, .int ships), (2, .int w)] d_Mo_put_57 (by decide) rfl ?_
  have hl59 : ∀ (N9 : Nat) (i : Nat), (i ≤ (ct ((up σ 111 0 0) 115 2))) → (ct ((up σ 111 0 0) 115 2)) - i = N9 → J l G X 10 (up σ 111 0 0) 59 [(0, .ref (G.1 111)), (1, .int ships), (2, .int w), (3, .int (myN (up σ 111 0 0) i)), (4, .int ((-1))), (5, .int 0), (6, .int (nI i))] [] := by
    intro N9
    induction N9 using Nat.strongRecOn with
    | _ N9 ih59 =>
      intro i hi_i hm59
      refine j_iload hx d_Mo_put_59 6 rfl ?_
      refine j_aload_n hx d_Mo_put_61 rfl 0 rfl ?_
      refine j_get hx ck_Mo 12 (by decide) t_1430 (by decide) (sh_111 _ _) rfl d_Mo_put_62 ?_
      refine j_iconst (v := 2) hx d_Mo_put_65 (by decide) ?_
      have hz66_2 : zin (2) 6 2 := by first | exact ⟨rfl, by decide⟩ | exact zin_nI (by omega) (by first | decide | omega) | exact zin_of (by omega) (by omega)
      refine j_ialdk hx ia_115 hz66_2 d_Mo_put_66 ?_
      refine j_icmp_ge (tgt := 85) hx d_Mo_put_67 (by decide) (fun zc67 => ?_) (fun zc67 => ?_)
      · skip
        obtain rfl := ct_end' hi_i zc67
        refine j_aload_n hx d_Mo_put_85 rfl 0 rfl ?_
        refine j_get hx ck_Mo 33 (by decide) t_1451 (by decide) (sh_111 _ _) rfl d_Mo_put_86 ?_
        refine j_aload_n hx d_Mo_put_89 rfl 0 rfl ?_
        refine j_get hx ck_Mo 34 (by decide) t_1452 (by decide) (sh_111 _ _) rfl d_Mo_put_90 ?_
        refine j_callSv hx (c_Mo_copies hG ia_122 ia_123 (up σ 111 0 0) (by first | assumption | omega)) mo_Mo_copies t_1710 t_1709 (by decide) rfl rfl (Nat.le_of_ble_eq_true rfl) d_Mo_put_93 ?_
        obtain ⟨s9_1, eg_1⟩ : ∃ z : St, z = pt0 (up σ 111 0 0) := ⟨_, rfl⟩
        refine J.to (σ' := s9_1) (by rw [eg_1]; rfl) rfl ?_
        have hpw : mW (pt0 (up σ 111 0 0)) := pt0_w hw
        have hpr : rW (pt0 (up σ 111 0 0)) 123 := pt0_r hr
        refine j_iconst (v := 0) hx d_Mo_put_96 (by decide) ?_
        refine j_istore hx [(6, .int 0), (0, .ref (G.1 111)), (1, .int ships), (2, .int w), (3, .int (myN (up σ 111 0 0) (ct ((up σ 111 0 0) 115 2)))), (4, .int ((-1))), (5, .int 0)] d_Mo_put_97 (by decide) rfl ?_
        have hl99 : ∀ (N9 : Nat) (i : Nat), (i ≤ (ct (myN (up σ 111 0 0) (ct ((up σ 111 0 0) 115 2))))) → (ct (myN (up σ 111 0 0) (ct ((up σ 111 0 0) 115 2)))) - i = N9 → J l G X 10 ((mpN (up σ 111 0 0) (ct ((up σ 111 0 0) 115 2)) ((up σ 111 0 0) 115 0) ships i).2) 99 [(0, .ref (G.1 111)), (1, .int ships), (2, .int w), (3, .int (myN (up σ 111 0 0) (ct ((up σ 111 0 0) 115 2)))), (4, .int ((mpN (up σ 111 0 0) (ct ((up σ 111 0 0) 115 2)) ((up σ 111 0 0) 115 0) ships i).1.1)), (5, .int ((mpN (up σ 111 0 0) (ct ((up σ 111 0 0) 115 2)) ((up σ 111 0 0) 115 0) ships i).1.2)), (6, .int (nI i))] [] := by
          intro N9
          induction N9 using Nat.strongRecOn with
          | _ N9 ih99 =>
            intro i hi_i hm99
            have hq9 : wq (pt0 (up σ 111 0 0)) (mpN (up σ 111 0 0) (ct ((up σ 111 0 0) 115 2)) ((up σ 111 0 0) 115 0) ships i).2 := wq.N hb2
            have e115 : (mpN (up σ 111 0 0) (ct ((up σ 111 0 0) 115 2)) ((up σ 111 0 0) 115 0) ships i).2 115 = (up σ 111 0 0) 115 := by rw [hq9.1 115 (by decide) (by decide) (by decide) (by decide), pt0_o (by decide)]
            have e9 : (mpN (up σ 111 0 0) (ct ((up σ 111 0 0) 115 2)) ((up σ 111 0 0) 115 0) ships i).2 115 2 - 1 = nI (ct ((up σ 111 0 0) 115 2) - 0) + (-1) := i_nIc (by rw [e115]; exact hD)
            refine j_iload hx d_Mo_put_99 6 rfl ?_
            refine j_iload_n hx d_Mo_put_101 rfl 3 rfl ?_
            refine j_icmp_ge (tgt := 214) hx d_Mo_put_102 (by decide) (fun zc102 => ?_) (fun zc102 => ?_)
            · skip
              obtain rfl := ct_end' hi_i zc102
              refine j_iload_n hx d_Mo_put_214 rfl 2 rfl ?_
              refine j_if_ne (tgt := 223) hx d_Mo_put_215 (by decide) (fun zc215 => ?_) (fun zc215 => ?_)
              · skip
                refine j_iload hx d_Mo_put_223 5 rfl ?_
                exact j_iret hx hq rfl d_Mo_put_225 (by first | (first | exact (if_pos zc215).symm | exact (if_neg zc215).symm) | fail) (by first | (rfl) | fail)
              · skip
                refine j_iload hx d_Mo_put_218 4 rfl ?_
                refine j_goto (tgt := 225) hx d_Mo_put_220 (by decide) ?_
                exact j_iret hx hq rfl d_Mo_put_225 (by first | (first | exact (if_pos zc215).symm | exact (if_neg zc215).symm) | fail) (by first | (rfl) | fail)
            · skip
              have hlt99 := ct_go hi_i zc102
              refine j_iload hx d_Mo_put_105 6 rfl ?_
              refine j_istore hx [(7, .int (nI i)), (0, .ref (G.1 111)), (1, .int ships), (2, .int w), (3, .int (myN (up σ 111 0 0) (ct ((up σ 111 0 0) 115 2)))), (4, .int ((mpN (up σ 111 0 0) (ct ((up σ 111 0 0) 115 2)) ((up σ 111 0 0) 115 0) ships i).1.1)), (5, .int ((mpN (up σ 111 0 0) (ct ((up σ 111 0 0) 115 2)) ((up σ 111 0 0) 115 0) ships i).1.2)), (6, .int (nI i))] d_Mo_put_107 (by decide) rfl ?_
              refine j_iconst (v := 0) hx d_Mo_put_109 (by decide) ?_
              refine j_istore hx [(8, .int 0), (7, .int (nI i)), (0, .ref (G.1 111)), (1, .int ships), (2, .int w), (3, .int (myN (up σ 111 0 0) (ct ((up σ 111 0 0) 115 2)))), (4, .int ((mpN (up σ 111 0 0) (ct ((up σ 111 0 0) 115 2)) ((up σ 111 0 0) 115 0) ships i).1.1)), (5, .int ((mpN (up σ 111 0 0) (ct ((up σ 111 0 0) 115 2)) ((up σ 111 0 0) 115 0) ships i).1.2)), (6, .int (nI i))] d_Mo_put_110 (by decide) rfl ?_
              refine j_aload_n hx d_Mo_put_112 rfl 2 rfl ?_
              refine j_get hx ck_Mo 12 (by decide) t_1430 (by decide) (sh_111 _ _) rfl d_Mo_put_113 ?_
              refine j_iconst (v := 2) hx d_Mo_put_116 (by decide) ?_
              have hz117_3 : zin (2) 6 2 := by first | exact ⟨rfl, by decide⟩ | exact zin_nI (by omega) (by first | decide | omega) | exact zin_of (by omega) (by omega)
              refine j_ialdk hx ia_115 hz117_3 d_Mo_put_117 ?_
              refine j_iconst (v := 1) hx d_Mo_put_118 (by decide) ?_
              refine j_isub hx d_Mo_put_119 ?_
              refine j_istore hx [(9, .int ((((mpN (up σ 111 0 0) (ct ((up σ 111 0 0) 115 2)) ((up σ 111 0 0) 115 0) ships i).2) 115 2) - 1)), (8, .int 0), (7, .int (nI i)), (0, .ref (G.1 111)), (1, .int ships), (2, .int w), (3, .int (myN (up σ 111 0 0) (ct ((up σ 111 0 0) 115 2)))), (4, .int ((mpN (up σ 111 0 0) (ct ((up σ 111 0 0) 115 2)) ((up σ 111 0 0) 115 0) ships i).1.1)), (5, .int ((mpN (up σ 111 0 0) (ct ((up σ 111 0 0) 115 2)) ((up σ 111 0 0) 115 0) ships i).1.2)), (6, .int (nI i))] d_Mo_put_120 (by decide) rfl ?_
              have hl122 : ∀ (N9 : Nat) (q : Nat), (q ≤ ct ((up σ 111 0 0) 115 2)) → ct ((up σ 111 0 0) 115 2) - q = N9 → J l G X 10 ((mpI (ct ((up σ 111 0 0) 115 2)) ((up σ 111 0 0) 115 0) (nI i) (mpN (up σ 111 0 0) (ct ((up σ 111 0 0) 115 2)) ((up σ 111 0 0) 115 0) ships i).2 q).2.2) 122 [(0, .ref (G.1 111)), (1, .int ships), (2, .int w), (3, .int (myN (up σ 111 0 0) (ct ((up σ 111 0 0) 115 2)))), (4, .int ((mpN (up σ 111 0 0) (ct ((up σ 111 0 0) 115 2)) ((up σ 111 0 0) 115 0) ships i).1.1)), (5, .int ((mpN (up σ 111 0 0) (ct ((up σ 111 0 0) 115 2)) ((up σ 111 0 0) 115 0) ships i).1.2)), (6, .int (nI i)), (7, .int ((mpI (ct ((up σ 111 0 0) 115 2)) ((up σ 111 0 0) 115 0) (nI i) (mpN (up σ 111 0 0) (ct ((up σ 111 0 0) 115 2)) ((up σ 111 0 0) 115 0) ships i).2 q).1)), (8, .int ((mpI (ct ((up σ 111 0 0) 115 2)) ((up σ 111 0 0) 115 0) (nI i) (mpN (up σ 111 0 0) (ct ((up σ 111 0 0) 115 2)) ((up σ 111 0 0) 115 0) ships i).2 q).2.1)), (9, .int (nI (ct ((up σ 111 0 0) 115 2) - q) + (-1)))] [] := by
                intro N9
                induction N9 using Nat.strongRecOn with
                | _ N9 ih122 =>
                  intro q hq8 hm122
                  have hqI : wq (pt0 (up σ 111 0 0)) (mpI (ct ((up σ 111 0 0) 115 2)) ((up σ 111 0 0) 115 0) (nI i) (mpN (up σ 111 0 0) (ct ((up σ 111 0 0) 115 2)) ((up σ 111 0 0) 115 0) ships i).2 q).2.2 := hq9.I hb2
                  have i115 : (mpI (ct ((up σ 111 0 0) 115 2)) ((up σ 111 0 0) 115 0) (nI i) (mpN (up σ 111 0 0) (ct ((up σ 111 0 0) 115 2)) ((up σ 111 0 0) 115 0) ships i).2 q).2.2 115 = (up σ 111 0 0) 115 := by rw [hqI.1 115 (by decide) (by decide) (by decide) (by decide), pt0_o (by decide)]
                  refine j_iload hx d_Mo_put_122 9 rfl ?_
                  refine j_if_lt (tgt := 179) hx d_Mo_put_124 (by decide) (fun zc124 => ?_) (fun zc124 => ?_)
                  · skip
                    obtain rfl := r_exit hq8 hb2 zc124
                    obtain ⟨s9_2, eg_2⟩ : ∃ z : St, z = mpU (ct ((up σ 111 0 0) 115 2)) ((up σ 111 0 0) 115 0) (mpN (up σ 111 0 0) (ct ((up σ 111 0 0) 115 2)) ((up σ 111 0 0) 115 0) ships i).2 (nI i) := ⟨_, rfl⟩
                    refine J.to (σ' := s9_2) (by rw [eg_2]; first | done | rfl) rfl ?_
                    refine j_aload_n hx d_Mo_put_179 rfl 0 rfl ?_
                    refine j_aload_n hx d_Mo_put_180 rfl 0 rfl ?_
                    refine j_get hx ck_Mo 34 (by decide) t_1452 (by decide) (sh_111 _ _) rfl d_Mo_put_181 ?_
                    refine j_iload_n hx d_Mo_put_184 rfl 1 rfl ?_
                    refine j_callVi hx (c_Mo_cargoBy hG ia_123 s9_2 ships (by rw [eg_2]; exact (hq9.I hb2).w hpw) (by rw [eg_2]; exact (hq9.I hb2).2.2 hpr) (by decide) (by decide) (by decide)) mo_Mo_cargoBy mv_Mo_cargoBy t_1833 (by decide) rfl (by decide) (sh_111 _ _) rfl rfl (Nat.le_of_ble_eq_true rfl) d_Mo_put_185 ?_
                    refine j_istore hx [(9, .int ((mcg s9_2 123 ships (tl s9_2 3)).1)), (0, .ref (G.1 111)), (1, .int ships), (2, .int w), (3, .int (myN (up σ 111 0 0) (ct ((up σ 111 0 0) 115 2)))), (4, .int ((mpN (up σ 111 0 0) (ct ((up σ 111 0 0) 115 2)) ((up σ 111 0 0) 115 0) ships i).1.1)), (5, .int ((mpN (up σ 111 0 0) (ct ((up σ 111 0 0) 115 2)) ((up σ 111 0 0) 115 0) ships i).1.2)), (6, .int (nI i)), (7, .int ((mpI (ct ((up σ 111 0 0) 115 2)) ((up σ 111 0 0) 115 0) (nI i) (mpN (up σ 111 0 0) (ct ((up σ 111 0 0) 115 2)) ((up σ 111 0 0) 115 0) ships i).2 (ct ((up σ 111 0 0) 115 2))).1)), (8, .int ((mpI (ct ((up σ 111 0 0) 115 2)) ((up σ 111 0 0) 115 0) (nI i) (mpN (up σ 111 0 0) (ct ((up σ 111 0 0) 115 2)) ((up σ 111 0 0) 115 0) ships i).2 (ct ((up σ 111 0 0) 115 2))).2.1))] d_Mo_put_188 (by decide) rfl ?_
                    refine j_iload hx d_Mo_put_190 0 rfl ?_
                    refine j_iload hx d_Mo_put_192 5 rfl ?_
                    refine j_icmp_gt (tgt := 200) hx d_Mo_put_194 (by decide) (fun zc194 => ?_) (fun zc194 => ?_)
                    · skip
                      refine j_iload hx d_Mo_put_200 0 rfl ?_
                      refine j_istore hx [(4, .int ((mcg s9_2 123 ships (tl s9_2 3)).1)), (9, .int ((mcg s9_2 123 ships (tl s9_2 3)).1)), (0, .ref (G.1 111)), (1, .int ships), (2, .int w), (3, .int (myN (up σ 111 0 0) (ct ((up σ 111 0 0) 115 2)))), (5, .int ((mpN (up σ 111 0 0) (ct ((up σ 111 0 0) 115 2)) ((up σ 111 0 0) 115 0) ships i).1.2)), (6, .int (nI i)), (7, .int ((mpI (ct ((up σ 111 0 0) 115 2)) ((up σ 111 0 0) 115 0) (nI i) (mpN (up σ 111 0 0) (ct ((up σ 111 0 0) 115 2)) ((up σ 111 0 0) 115 0) ships i).2 (ct ((up σ 111 0 0) 115 2))).1)), (8, .int ((mpI (ct ((up σ 111 0 0) 115 2)) ((up σ 111 0 0) 115 0) (nI i) (mpN (up σ 111 0 0) (ct ((up σ 111 0 0) 115 2)) ((up σ 111 0 0) 115 0) ships i).2 (ct ((up σ 111 0 0) 115 2))).2.1))] d_Mo_put_202 (by decide) rfl ?_
                      refine j_iload hx d_Mo_put_204 9 rfl ?_
                      refine j_istore hx [(5, .int ((mpI (ct ((up σ 111 0 0) 115 2)) ((up σ 111 0 0) 115 0) (nI i) (mpN (up σ 111 0 0) (ct ((up σ 111 0 0) 115 2)) ((up σ 111 0 0) 115 0) ships i).2 (ct ((up σ 111 0 0) 115 2))).2.1)), (4, .int ((mcg s9_2 123 ships (tl s9_2 3)).1)), (9, .int ((mcg s9_2 123 ships (tl s9_2 3)).1)), (0, .ref (G.1 111)), (1, .int ships), (2, .int w), (3, .int (myN (up σ 111 0 0) (ct ((up σ 111 0 0) 115 2)))), (6, .int (nI i)), (7, .int ((mpI (ct ((up σ 111 0 0) 115 2)) ((up σ 111 0 0) 115 0) (nI i) (mpN (up σ 111 0 0) (ct ((up σ 111 0 0) 115 2)) ((up σ 111 0 0) 115 0) ships i).2 (ct ((up σ 111 0 0) 115 2))).1)), (8, .int ((mpI (ct ((up σ 111 0 0) 115 2)) ((up σ 111 0 0) 115 0) (nI i) (mpN (up σ 111 0 0) (ct ((up σ 111 0 0) 115 2)) ((up σ 111 0 0) 115 0) ships i).2 (ct ((up σ 111 0 0) 115 2))).2.1))] d_Mo_put_206 (by decide) rfl ?_
                      refine j_iinc hx [(6, .int ((nI i) + 1)), (5, .int ((mpI (ct ((up σ 111 0 0) 115 2)) ((up σ 111 0 0) 115 0) (nI i) (mpN (up σ 111 0 0) (ct ((up σ 111 0 0) 115 2)) ((up σ 111 0 0) 115 0) ships i).2 (ct ((up σ 111 0 0) 115 2))).2.1)), (4, .int ((mcg s9_2 123 ships (tl s9_2 3)).1)), (9, .int ((mcg s9_2 123 ships (tl s9_2 3)).1)), (0, .ref (G.1 111)), (1, .int ships), (2, .int w), (3, .int (myN (up σ 111 0 0) (ct ((up σ 111 0 0) 115 2)))), (7, .int ((mpI (ct ((up σ 111 0 0) 115 2)) ((up σ 111 0 0) 115 0) (nI i) (mpN (up σ 111 0 0) (ct ((up σ 111 0 0) 115 2)) ((up σ 111 0 0) 115 0) ships i).2 (ct ((up σ 111 0 0) 115 2))).1)), (8, .int ((mpI (ct ((up σ 111 0 0) 115 2)) ((up σ 111 0 0) 115 0) (nI i) (mpN (up σ 111 0 0) (ct ((up σ 111 0 0) 115 2)) ((up σ 111 0 0) 115 0) ships i).2 (ct ((up σ 111 0 0) 115 2))).2.1))] d_Mo_put_208 7 rfl rfl (by decide) rfl ?_
                      refine j_goto (tgt := 99) hx d_Mo_put_211 (by decide) ?_
                      refine J.lsub (ls' := [(0, .ref (G.1 111)), (1, .int ships), (2, .int w), (3, .int (myN (up σ 111 0 0) (ct ((up σ 111 0 0) 115 2)))), (4, .int ((mcg s9_2 123 ships (tl s9_2 3)).1)), (5, .int ((mpI (ct ((up σ 111 0 0) 115 2)) ((up σ 111 0 0) 115 0) (nI i) (mpN (up σ 111 0 0) (ct ((up σ 111 0 0) 115 2)) ((up σ 111 0 0) 115 0) ships i).2 (ct ((up σ 111 0 0) 115 2))).2.1)), (6, .int ((nI i) + 1))]) [4, 5, 6, 7, 2, 1, 0] rfl ?_
                      refine J.to ?_ ?_ (ih99 _ ?_ (i + 1) hlt99 rfl)
                      · first | (first | (rw [mpN_1 eg_2 (i_nlt zc194)]; done) | (rw [mpN_2 eg_2 (i_lle zc194)]; done)) | fail
                      · first | (simp only [nI_s]; first | (rw [mpN_1 eg_2 (i_nlt zc194)]; done) | (rw [mpN_2 eg_2 (i_lle zc194)]; done)) | fail
                      · first | (omega) | fail
                    · skip
                      refine j_goto (tgt := 208) hx d_Mo_put_197 (by decide) ?_
                      refine j_iinc hx [(6, .int ((nI i) + 1)), (9, .int ((mcg s9_2 123 ships (tl s9_2 3)).1)), (0, .ref (G.1 111)), (1, .int ships), (2, .int w), (3, .int (myN (up σ 111 0 0) (ct ((up σ 111 0 0) 115 2)))), (4, .int ((mpN (up σ 111 0 0) (ct ((up σ 111 0 0) 115 2)) ((up σ 111 0 0) 115 0) ships i).1.1)), (5, .int ((mpN (up σ 111 0 0) (ct ((up σ 111 0 0) 115 2)) ((up σ 111 0 0) 115 0) ships i).1.2)), (7, .int ((mpI (ct ((up σ 111 0 0) 115 2)) ((up σ 111 0 0) 115 0) (nI i) (mpN (up σ 111 0 0) (ct ((up σ 111 0 0) 115 2)) ((up σ 111 0 0) 115 0) ships i).2 (ct ((up σ 111 0 0) 115 2))).1)), (8, .int ((mpI (ct ((up σ 111 0 0) 115 2)) ((up σ 111 0 0) 115 0) (nI i) (mpN (up σ 111 0 0) (ct ((up σ 111 0 0) 115 2)) ((up σ 111 0 0) 115 0) ships i).2 (ct ((up σ 111 0 0) 115 2))).2.1))] d_Mo_put_208 7 rfl rfl (by decide) rfl ?_
                      refine j_goto (tgt := 99) hx d_Mo_put_211 (by decide) ?_
                      refine J.lsub (ls' := [(0, .ref (G.1 111)), (1, .int ships), (2, .int w), (3, .int (myN (up σ 111 0 0) (ct ((up σ 111 0 0) 115 2)))), (4, .int ((mpN (up σ 111 0 0) (ct ((up σ 111 0 0) 115 2)) ((up σ 111 0 0) 115 0) ships i).1.1)), (5, .int ((mpN (up σ 111 0 0) (ct ((up σ 111 0 0) 115 2)) ((up σ 111 0 0) 115 0) ships i).1.2)), (6, .int ((nI i) + 1))]) [2, 3, 4, 5, 6, 7, 0] rfl ?_
                      refine J.to ?_ ?_ (ih99 _ ?_ (i + 1) hlt99 rfl)
                      · first | (first | (rw [mpN_1 eg_2 (i_nlt zc194)]; done) | (rw [mpN_2 eg_2 (i_lle zc194)]; done)) | fail
                      · first | (simp only [nI_s]; first | (rw [mpN_1 eg_2 (i_nlt zc194)]; done) | (rw [mpN_2 eg_2 (i_lle zc194)]; done)) | fail
                      · first | (omega) | fail
                  · skip
                    have hqlt := r_go hq8 hb2 zc124
                    refine j_aload_n hx d_Mo_put_127 rfl 0 rfl ?_
                    refine j_get hx ck_Mo 34 (by decide) t_1452 (by decide) (sh_111 _ _) rfl d_Mo_put_128 ?_
                    refine j_iconst (v := 1) hx d_Mo_put_131 (by decide) ?_
                    refine j_iload hx d_Mo_put_132 9 rfl ?_
                    refine j_iadd hx d_Mo_put_134 ?_
                    refine j_iload hx d_Mo_put_135 7 rfl ?_
                    refine j_aload_n hx d_Mo_put_137 rfl 0 rfl ?_
                    refine j_get hx ck_Mo 12 (by decide) t_1430 (by decide) (sh_111 _ _) rfl d_Mo_put_138 ?_
                    refine j_iconst (v := 0) hx d_Mo_put_141 (by decide) ?_
                    have hz142_4 : zin (0) 6 0 := by first | exact ⟨rfl, by decide⟩ | exact zin_nI (by omega) (by first | decide | omega) | exact zin_of (by omega) (by omega)
                    refine j_ialdk hx ia_115 hz142_4 d_Mo_put_142 ?_
                    refine j_irem hx d_Mo_put_143 (by rw [i115]; exact hc.resolve_left (by omega)) ?_
                    have hz144_5 : zin (1 + (nI (ct ((up σ 111 0 0) 115 2) - q) + (-1))) 31 ((1 + (ct ((up σ 111 0 0) 115 2) - q - 1))) := by exact zin_r (by omega) (by omega)
                    refine j_iastk hx ia_123 hz144_5 d_Mo_put_144 ?_
                    refine j_iload hx d_Mo_put_145 7 rfl ?_
                    refine j_aload_n hx d_Mo_put_147 rfl 0 rfl ?_
                    refine j_get hx ck_Mo 12 (by decide) t_1430 (by decide) (sh_111 _ _) rfl d_Mo_put_148 ?_
                    refine j_iconst (v := 0) hx d_Mo_put_151 (by decide) ?_
                    have hz152_6 : zin (0) 6 0 := by first | exact ⟨rfl, by decide⟩ | exact zin_nI (by omega) (by first | decide | omega) | exact zin_of (by omega) (by omega)
                    refine j_ialdk hx ia_115 hz152_6 d_Mo_put_152 ?_
                    refine j_idiv hx d_Mo_put_153 (by rw [up_o (show 115 ≠ 123 by decide), i115]; exact hc.resolve_left (by omega)) ?_
                    refine j_istore hx [(7, .int (((mpI (ct ((up σ 111 0 0) 115 2)) ((up σ 111 0 0) 115 0) (nI i) (mpN (up σ 111 0 0) (ct ((up σ 111 0 0) 115 2)) ((up σ 111 0 0) 115 0) ships i).2 q).1) / ((up ((mpI (ct ((up σ 111 0 0) 115 2)) ((up σ 111 0 0) 115 0) (nI i) (mpN (up σ 111 0 0) (ct ((up σ 111 0 0) 115 2)) ((up σ 111 0 0) 115 0) ships i).2 q).2.2) 123 ((1 + (ct ((up σ 111 0 0) 115 2) - q - 1))) (((mpI (ct ((up σ 111 0 0) 115 2)) ((up σ 111 0 0) 115 0) (nI i) (mpN (up σ 111 0 0) (ct ((up σ 111 0 0) 115 2)) ((up σ 111 0 0) 115 0) ships i).2 q).1) - ((mpI (ct ((up σ 111 0 0) 115 2)) ((up σ 111 0 0) 115 0) (nI i) (mpN (up σ 111 0 0) (ct ((up σ 111 0 0) 115 2)) ((up σ 111 0 0) 115 0) ships i).2 q).1) / (((mpI (ct ((up σ 111 0 0) 115 2)) ((up σ 111 0 0) 115 0) (nI i) (mpN (up σ 111 0 0) (ct ((up σ 111 0 0) 115 2)) ((up σ 111 0 0) 115 0) ships i).2 q).2.2) 115 0) * (((mpI (ct ((up σ 111 0 0) 115 2)) ((up σ 111 0 0) 115 0) (nI i) (mpN (up σ 111 0 0) (ct ((up σ 111 0 0) 115 2)) ((up σ 111 0 0) 115 0) ships i).2 q).2.2) 115 0))) 115 0))), (0, .ref (G.1 111)), (1, .int ships), (2, .int w), (3, .int (myN (up σ 111 0 0) (ct ((up σ 111 0 0) 115 2)))), (4, .int ((mpN (up σ 111 0 0) (ct ((up σ 111 0 0) 115 2)) ((up σ 111 0 0) 115 0) ships i).1.1)), (5, .int ((mpN (up σ 111 0 0) (ct ((up σ 111 0 0) 115 2)) ((up σ 111 0 0) 115 0) ships i).1.2)), (6, .int (nI i)), (8, .int ((mpI (ct ((up σ 111 0 0) 115 2)) ((up σ 111 0 0) 115 0) (nI i) (mpN (up σ 111 0 0) (ct ((up σ 111 0 0) 115 2)) ((up σ 111 0 0) 115 0) ships i).2 q).2.1)), (9, .int (nI (ct ((up σ 111 0 0) 115 2) - q) + (-1)))] d_Mo_put_154 (by decide) rfl ?_
                    refine j_bipush (v := 16) hx d_Mo_put_156 (by decide) ?_
                    refine j_iload hx d_Mo_put_158 8 rfl ?_
                    refine j_imul hx d_Mo_put_160 ?_
                    refine j_aload_n hx d_Mo_put_161 rfl 1 rfl ?_
                    refine j_get hx ck_Mo 34 (by decide) t_1452 (by decide) (sh_111 _ _) rfl d_Mo_put_162 ?_
                    refine j_iconst (v := 1) hx d_Mo_put_165 (by decide) ?_
                    refine j_iload hx d_Mo_put_166 9 rfl ?_
                    refine j_iadd hx d_Mo_put_168 ?_
                    have hz169_7 : zin (1 + (nI (ct ((up σ 111 0 0) 115 2) - q) + (-1))) 31 ((1 + (ct ((up σ 111 0 0) 115 2) - q - 1))) := by exact zin_r (by omega) (by omega)
                    refine j_ialdk hx ia_123 hz169_7 d_Mo_put_169 ?_
                    refine j_iadd hx d_Mo_put_170 ?_
                    refine j_istore hx [(8, .int ((16 * ((mpI (ct ((up σ 111 0 0) 115 2)) ((up σ 111 0 0) 115 0) (nI i) (mpN (up σ 111 0 0) (ct ((up σ 111 0 0) 115 2)) ((up σ 111 0 0) 115 0) ships i).2 q).2.1)) + ((up ((mpI (ct ((up σ 111 0 0) 115 2)) ((up σ 111 0 0) 115 0) (nI i) (mpN (up σ 111 0 0) (ct ((up σ 111 0 0) 115 2)) ((up σ 111 0 0) 115 0) ships i).2 q).2.2) 123 ((1 + (ct ((up σ 111 0 0) 115 2) - q - 1))) (((mpI (ct ((up σ 111 0 0) 115 2)) ((up σ 111 0 0) 115 0) (nI i) (mpN (up σ 111 0 0) (ct ((up σ 111 0 0) 115 2)) ((up σ 111 0 0) 115 0) ships i).2 q).1) - ((mpI (ct ((up σ 111 0 0) 115 2)) ((up σ 111 0 0) 115 0) (nI i) (mpN (up σ 111 0 0) (ct ((up σ 111 0 0) 115 2)) ((up σ 111 0 0) 115 0) ships i).2 q).1) / (((mpI (ct ((up σ 111 0 0) 115 2)) ((up σ 111 0 0) 115 0) (nI i) (mpN (up σ 111 0 0) (ct ((up σ 111 0 0) 115 2)) ((up σ 111 0 0) 115 0) ships i).2 q).2.2) 115 0) * (((mpI (ct ((up σ 111 0 0) 115 2)) ((up σ 111 0 0) 115 0) (nI i) (mpN (up σ 111 0 0) (ct ((up σ 111 0 0) 115 2)) ((up σ 111 0 0) 115 0) ships i).2 q).2.2) 115 0))) 123 ((1 + (ct ((up σ 111 0 0) 115 2) - q - 1)))))), (7, .int (((mpI (ct ((up σ 111 0 0) 115 2)) ((up σ 111 0 0) 115 0) (nI i) (mpN (up σ 111 0 0) (ct ((up σ 111 0 0) 115 2)) ((up σ 111 0 0) 115 0) ships i).2 q).1) / ((up ((mpI (ct ((up σ 111 0 0) 115 2)) ((up σ 111 0 0) 115 0) (nI i) (mpN (up σ 111 0 0) (ct ((up σ 111 0 0) 115 2)) ((up σ 111 0 0) 115 0) ships i).2 q).2.2) 123 ((1 + (ct ((up σ 111 0 0) 115 2) - q - 1))) (((mpI (ct ((up σ 111 0 0) 115 2)) ((up σ 111 0 0) 115 0) (nI i) (mpN (up σ 111 0 0) (ct ((up σ 111 0 0) 115 2)) ((up σ 111 0 0) 115 0) ships i).2 q).1) - ((mpI (ct ((up σ 111 0 0) 115 2)) ((up σ 111 0 0) 115 0) (nI i) (mpN (up σ 111 0 0) (ct ((up σ 111 0 0) 115 2)) ((up σ 111 0 0) 115 0) ships i).2 q).1) / (((mpI (ct ((up σ 111 0 0) 115 2)) ((up σ 111 0 0) 115 0) (nI i) (mpN (up σ 111 0 0) (ct ((up σ 111 0 0) 115 2)) ((up σ 111 0 0) 115 0) ships i).2 q).2.2) 115 0) * (((mpI (ct ((up σ 111 0 0) 115 2)) ((up σ 111 0 0) 115 0) (nI i) (mpN (up σ 111 0 0) (ct ((up σ 111 0 0) 115 2)) ((up σ 111 0 0) 115 0) ships i).2 q).2.2) 115 0))) 115 0))), (0, .ref (G.1 111)), (1, .int ships), (2, .int w), (3, .int (myN (up σ 111 0 0) (ct ((up σ 111 0 0) 115 2)))), (4, .int ((mpN (up σ 111 0 0) (ct ((up σ 111 0 0) 115 2)) ((up σ 111 0 0) 115 0) ships i).1.1)), (5, .int ((mpN (up σ 111 0 0) (ct ((up σ 111 0 0) 115 2)) ((up σ 111 0 0) 115 0) ships i).1.2)), (6, .int (nI i)), (9, .int (nI (ct ((up σ 111 0 0) 115 2) - q) + (-1)))] d_Mo_put_171 (by decide) rfl ?_
                    refine j_iinc hx [(9, .int ((nI (ct ((up σ 111 0 0) 115 2) - q) + (-1)) + (-1))), (8, .int ((16 * ((mpI (ct ((up σ 111 0 0) 115 2)) ((up σ 111 0 0) 115 0) (nI i) (mpN (up σ 111 0 0) (ct ((up σ 111 0 0) 115 2)) ((up σ 111 0 0) 115 0) ships i).2 q).2.1)) + ((up ((mpI (ct ((up σ 111 0 0) 115 2)) ((up σ 111 0 0) 115 0) (nI i) (mpN (up σ 111 0 0) (ct ((up σ 111 0 0) 115 2)) ((up σ 111 0 0) 115 0) ships i).2 q).2.2) 123 ((1 + (ct ((up σ 111 0 0) 115 2) - q - 1))) (((mpI (ct ((up σ 111 0 0) 115 2)) ((up σ 111 0 0) 115 0) (nI i) (mpN (up σ 111 0 0) (ct ((up σ 111 0 0) 115 2)) ((up σ 111 0 0) 115 0) ships i).2 q).1) - ((mpI (ct ((up σ 111 0 0) 115 2)) ((up σ 111 0 0) 115 0) (nI i) (mpN (up σ 111 0 0) (ct ((up σ 111 0 0) 115 2)) ((up σ 111 0 0) 115 0) ships i).2 q).1) / (((mpI (ct ((up σ 111 0 0) 115 2)) ((up σ 111 0 0) 115 0) (nI i) (mpN (up σ 111 0 0) (ct ((up σ 111 0 0) 115 2)) ((up σ 111 0 0) 115 0) ships i).2 q).2.2) 115 0) * (((mpI (ct ((up σ 111 0 0) 115 2)) ((up σ 111 0 0) 115 0) (nI i) (mpN (up σ 111 0 0) (ct ((up σ 111 0 0) 115 2)) ((up σ 111 0 0) 115 0) ships i).2 q).2.2) 115 0))) 123 ((1 + (ct ((up σ 111 0 0) 115 2) - q - 1)))))), (7, .int (((mpI (ct ((up σ 111 0 0) 115 2)) ((up σ 111 0 0) 115 0) (nI i) (mpN (up σ 111 0 0) (ct ((up σ 111 0 0) 115 2)) ((up σ 111 0 0) 115 0) ships i).2 q).1) / ((up ((mpI (ct ((up σ 111 0 0) 115 2)) ((up σ 111 0 0) 115 0) (nI i) (mpN (up σ 111 0 0) (ct ((up σ 111 0 0) 115 2)) ((up σ 111 0 0) 115 0) ships i).2 q).2.2) 123 ((1 + (ct ((up σ 111 0 0) 115 2) - q - 1))) (((mpI (ct ((up σ 111 0 0) 115 2)) ((up σ 111 0 0) 115 0) (nI i) (mpN (up σ 111 0 0) (ct ((up σ 111 0 0) 115 2)) ((up σ 111 0 0) 115 0) ships i).2 q).1) - ((mpI (ct ((up σ 111 0 0) 115 2)) ((up σ 111 0 0) 115 0) (nI i) (mpN (up σ 111 0 0) (ct ((up σ 111 0 0) 115 2)) ((up σ 111 0 0) 115 0) ships i).2 q).1) / (((mpI (ct ((up σ 111 0 0) 115 2)) ((up σ 111 0 0) 115 0) (nI i) (mpN (up σ 111 0 0) (ct ((up σ 111 0 0) 115 2)) ((up σ 111 0 0) 115 0) ships i).2 q).2.2) 115 0) * (((mpI (ct ((up σ 111 0 0) 115 2)) ((up σ 111 0 0) 115 0) (nI i) (mpN (up σ 111 0 0) (ct ((up σ 111 0 0) 115 2)) ((up σ 111 0 0) 115 0) ships i).2 q).2.2) 115 0))) 115 0))), (0, .ref (G.1 111)), (1, .int ships), (2, .int w), (3, .int (myN (up σ 111 0 0) (ct ((up σ 111 0 0) 115 2)))), (4, .int ((mpN (up σ 111 0 0) (ct ((up σ 111 0 0) 115 2)) ((up σ 111 0 0) 115 0) ships i).1.1)), (5, .int ((mpN (up σ 111 0 0) (ct ((up σ 111 0 0) 115 2)) ((up σ 111 0 0) 115 0) ships i).1.2)), (6, .int (nI i))] d_Mo_put_173 9 rfl rfl (by decide) rfl ?_
                    refine j_goto (tgt := 122) hx d_Mo_put_176 (by decide) ?_
                    refine J.lsub (ls' := [(0, .ref (G.1 111)), (1, .int ships), (2, .int w), (3, .int (myN (up σ 111 0 0) (ct ((up σ 111 0 0) 115 2)))), (4, .int ((mpN (up σ 111 0 0) (ct ((up σ 111 0 0) 115 2)) ((up σ 111 0 0) 115 0) ships i).1.1)), (5, .int ((mpN (up σ 111 0 0) (ct ((up σ 111 0 0) 115 2)) ((up σ 111 0 0) 115 0) ships i).1.2)), (6, .int (nI i)), (7, .int (((mpI (ct ((up σ 111 0 0) 115 2)) ((up σ 111 0 0) 115 0) (nI i) (mpN (up σ 111 0 0) (ct ((up σ 111 0 0) 115 2)) ((up σ 111 0 0) 115 0) ships i).2 q).1) / ((up ((mpI (ct ((up σ 111 0 0) 115 2)) ((up σ 111 0 0) 115 0) (nI i) (mpN (up σ 111 0 0) (ct ((up σ 111 0 0) 115 2)) ((up σ 111 0 0) 115 0) ships i).2 q).2.2) 123 ((1 + (ct ((up σ 111 0 0) 115 2) - q - 1))) (((mpI (ct ((up σ 111 0 0) 115 2)) ((up σ 111 0 0) 115 0) (nI i) (mpN (up σ 111 0 0) (ct ((up σ 111 0 0) 115 2)) ((up σ 111 0 0) 115 0) ships i).2 q).1) - ((mpI (ct ((up σ 111 0 0) 115 2)) ((up σ 111 0 0) 115 0) (nI i) (mpN (up σ 111 0 0) (ct ((up σ 111 0 0) 115 2)) ((up σ 111 0 0) 115 0) ships i).2 q).1) / (((mpI (ct ((up σ 111 0 0) 115 2)) ((up σ 111 0 0) 115 0) (nI i) (mpN (up σ 111 0 0) (ct ((up σ 111 0 0) 115 2)) ((up σ 111 0 0) 115 0) ships i).2 q).2.2) 115 0) * (((mpI (ct ((up σ 111 0 0) 115 2)) ((up σ 111 0 0) 115 0) (nI i) (mpN (up σ 111 0 0) (ct ((up σ 111 0 0) 115 2)) ((up σ 111 0 0) 115 0) ships i).2 q).2.2) 115 0))) 115 0))), (8, .int ((16 * ((mpI (ct ((up σ 111 0 0) 115 2)) ((up σ 111 0 0) 115 0) (nI i) (mpN (up σ 111 0 0) (ct ((up σ 111 0 0) 115 2)) ((up σ 111 0 0) 115 0) ships i).2 q).2.1)) + ((up ((mpI (ct ((up σ 111 0 0) 115 2)) ((up σ 111 0 0) 115 0) (nI i) (mpN (up σ 111 0 0) (ct ((up σ 111 0 0) 115 2)) ((up σ 111 0 0) 115 0) ships i).2 q).2.2) 123 ((1 + (ct ((up σ 111 0 0) 115 2) - q - 1))) (((mpI (ct ((up σ 111 0 0) 115 2)) ((up σ 111 0 0) 115 0) (nI i) (mpN (up σ 111 0 0) (ct ((up σ 111 0 0) 115 2)) ((up σ 111 0 0) 115 0) ships i).2 q).1) - ((mpI (ct ((up σ 111 0 0) 115 2)) ((up σ 111 0 0) 115 0) (nI i) (mpN (up σ 111 0 0) (ct ((up σ 111 0 0) 115 2)) ((up σ 111 0 0) 115 0) ships i).2 q).1) / (((mpI (ct ((up σ 111 0 0) 115 2)) ((up σ 111 0 0) 115 0) (nI i) (mpN (up σ 111 0 0) (ct ((up σ 111 0 0) 115 2)) ((up σ 111 0 0) 115 0) ships i).2 q).2.2) 115 0) * (((mpI (ct ((up σ 111 0 0) 115 2)) ((up σ 111 0 0) 115 0) (nI i) (mpN (up σ 111 0 0) (ct ((up σ 111 0 0) 115 2)) ((up σ 111 0 0) 115 0) ships i).2 q).2.2) 115 0))) 123 ((1 + (ct ((up σ 111 0 0) 115 2) - q - 1)))))), (9, .int ((nI (ct ((up σ 111 0 0) 115 2) - q) + (-1)) + (-1)))]) [3, 4, 5, 6, 7, 8, 9, 2, 1, 0] rfl ?_
                    refine J.to ?_ ?_ (ih122 _ ?_ (q + 1) hqlt rfl)
                    · first | (rw [mpI_s, i115]) | fail
                    · first | (rw [mpI_s, up_rd, up_o (show 115 ≠ 123 by decide), i115, nI_p (show 1 ≤ ct ((up σ 111 0 0) 115 2) - q by omega) (by omega), show ct ((up σ 111 0 0) 115 2) - (q + 1) = ct ((up σ 111 0 0) 115 2) - q - 1 by omega]) | fail
                    · first | (omega) | fail
              refine J.lsub (ls' := [(0, .ref (G.1 111)), (1, .int ships), (2, .int w), (3, .int (myN (up σ 111 0 0) (ct ((up σ 111 0 0) 115 2)))), (4, .int ((mpN (up σ 111 0 0) (ct ((up σ 111 0 0) 115 2)) ((up σ 111 0 0) 115 0) ships i).1.1)), (5, .int ((mpN (up σ 111 0 0) (ct ((up σ 111 0 0) 115 2)) ((up σ 111 0 0) 115 0) ships i).1.2)), (6, .int (nI i)), (7, .int (nI i)), (8, .int 0), (9, .int ((((mpN (up σ 111 0 0) (ct ((up σ 111 0 0) 115 2)) ((up σ 111 0 0) 115 0) ships i).2) 115 2) - 1))]) [3, 4, 5, 6, 7, 8, 9, 2, 1, 0] rfl ?_
              refine J.to ?_ ?_ (hl122 _ 0 (Nat.zero_le _) rfl)
              · first | (rfl) | fail
              · first | (rw [mpI_0, e9]) | fail
        refine J.lsub (ls' := [(0, .ref (G.1 111)), (1, .int ships), (2, .int w), (3, .int (myN (up σ 111 0 0) (ct ((up σ 111 0 0) 115 2)))), (4, .int ((-1))), (5, .int 0), (6, .int 0)]) [1, 2, 3, 4, 5, 6, 0] rfl ?_
        refine J.to ?_ ?_ (hl99 _ 0 (Nat.zero_le _) rfl)
        · first | (rw [eg_1, mpN_0]) | fail
        · first | (rw [mpN_0]; rfl) | fail
      · skip
        have hlt59 := ct_go hi_i zc67
        refine j_iload_n hx d_Mo_put_70 rfl 3 rfl ?_
        refine j_aload_n hx d_Mo_put_71 rfl 0 rfl ?_
        refine j_get hx ck_Mo 12 (by decide) t_1430 (by decide) (sh_111 _ _) rfl d_Mo_put_72 ?_
        refine j_iconst (v := 0) hx d_Mo_put_75 (by decide) ?_
        have hz76_8 : zin (0) 6 0 := by first | exact ⟨rfl, by decide⟩ | exact zin_nI (by omega) (by first | decide | omega) | exact zin_of (by omega) (by omega)
        refine j_ialdk hx ia_115 hz76_8 d_Mo_put_76 ?_
        refine j_imul hx d_Mo_put_77 ?_
        refine j_istore_n hx [(3, .int ((myN (up σ 111 0 0) i) * ((up σ 111 0 0) 115 0))), (0, .ref (G.1 111)), (1, .int ships), (2, .int w), (4, .int ((-1))), (5, .int 0), (6, .int (nI i))] d_Mo_put_78 rfl (by decide) rfl ?_
        refine j_iinc hx [(6, .int ((nI i) + 1)), (3, .int ((myN (up σ 111 0 0) i) * ((up σ 111 0 0) 115 0))), (0, .ref (G.1 111)), (1, .int ships), (2, .int w), (4, .int ((-1))), (5, .int 0)] d_Mo_put_79 6 rfl rfl (by decide) rfl ?_
        refine j_goto (tgt := 59) hx d_Mo_put_82 (by decide) ?_
        refine J.lsub (ls' := [(0, .ref (G.1 111)), (1, .int ships), (2, .int w), (3, .int ((myN (up σ 111 0 0) i) * ((up σ 111 0 0) 115 0))), (4, .int ((-1))), (5, .int 0), (6, .int ((nI i) + 1))]) [2, 3, 4, 1, 5, 6, 0] rfl ?_
        refine J.to ?_ ?_ (ih59 _ ?_ (i + 1) hlt59 rfl)
        · first | (first | rfl | (simp [zc67]; done)) | fail
        · first | (simp only [nI_s]; rfl) | fail
        · first | (omega) | fail
  refine J.lsub (ls' := [(0, .ref (G.1 111)), (1, .int ships), (2, .int w), (3, .int 1), (4, .int ((-1))), (5, .int 0), (6, .int 0)]) [4, 5, 6, 3, 2, 1, 0] rfl ?_
  refine J.to ?_ ?_ (hl59 _ 0 (Nat.zero_le _) rfl)
  · first | (first | rfl | (simp []; done)) | fail
  · first | (rfl) | fail

set_option maxRecDepth 20000 in
set_option maxHeartbeats 4000000 in
theorem c_Mo_putI {l : Launch} {G : Gz} (hG : zI G) (σ : St) (ships : Int32) (w : Int32) (hbad : ¬ ((0 ≤ ships ∧ ships ≤ ((1 <<< ((up σ 111 0 0) 115 3 &&& 31)) - 1)) ∧ (0 ≤ w ∧ w ≤ 1))) : MI l G y_Mo_put prog_14_method_74_code 10 .int 4 [.ref (G.1 111), .int ships, .int w] σ 0 (mrf σ 1 1) := by
  refine MI.of hG (by decide) (Nat.le_of_ble_eq_true rfl) (fun X hx hq => ?_)
  show J l G X 10 σ 0 [(0, .ref (G.1 111)), (1, .int ships), (2, .int w)] []
  refine j_aload_n hx d_Mo_put_0 rfl 0 rfl ?_
  refine j_iconst (v := 0) hx d_Mo_put_1 (by decide) ?_
  refine j_put hx ck_Mo 0 (by decide) t_1418 (by decide) (sh_111 _ _) rfl (Nat.le_of_ble_eq_true rfl) (sh_111 _ _) d_Mo_put_2 ?_
  refine j_aload_n hx d_Mo_put_5 rfl 0 rfl ?_
  refine j_iload_n hx d_Mo_put_6 rfl 1 rfl ?_
  refine j_iconst (v := 0) hx d_Mo_put_7 (by decide) ?_
  refine j_iconst (v := 1) hx d_Mo_put_8 (by decide) ?_
  refine j_aload_n hx d_Mo_put_9 rfl 0 rfl ?_
  refine j_get hx ck_Mo 12 (by decide) t_1430 (by decide) (sh_111 _ _) rfl d_Mo_put_10 ?_
  refine j_iconst (v := 3) hx d_Mo_put_13 (by decide) ?_
  have hz14_1 : zin (3) 6 3 := by first | exact ⟨rfl, by decide⟩ | exact zin_nI (by omega) (by first | decide | omega) | exact zin_of (by omega) (by omega)
  refine j_ialdk hx ia_115 hz14_1 d_Mo_put_14 ?_
  refine j_ishl hx d_Mo_put_15 ?_
  refine j_iconst (v := 1) hx d_Mo_put_16 (by decide) ?_
  refine j_isub hx d_Mo_put_17 ?_
  by_cases hn18 : 0 ≤ ships ∧ ships ≤ ((1 <<< (((up σ 111 0 0) 115 3) &&& 31)) - 1)
  · skip
    refine j_callSi hx (c_Mo_in1 hG (up σ 111 0 0) ships 0 ((1 <<< (((up σ 111 0 0) 115 3) &&& 31)) - 1) (by exact hn18)) mo_Mo_in t_1582 t_1581 (by decide) rfl rfl (Nat.le_of_ble_eq_true rfl) d_Mo_put_18 ?_
    refine j_if_eq (tgt := 33) hx d_Mo_put_21 (by decide) (fun zc21 => absurd zc21 (by decide)) (fun _ => ?_)
    refine j_iload_n hx d_Mo_put_24 rfl 2 rfl ?_
    refine j_iconst (v := 0) hx d_Mo_put_25 (by decide) ?_
    refine j_iconst (v := 1) hx d_Mo_put_26 (by decide) ?_
    by_cases hn27 : 0 ≤ w ∧ w ≤ 1
    · skip
      exact absurd ⟨hn18, hn27⟩ hbad
    refine j_callSi hx (c_Mo_in0 hG (up σ 111 0 0) w 0 1 (by exact hn27)) mo_Mo_in t_1582 t_1581 (by decide) rfl rfl (Nat.le_of_ble_eq_true rfl) d_Mo_put_27 ?_
    refine j_if_ne (tgt := 37) hx d_Mo_put_30 (by decide) (fun zc30 => absurd rfl zc30) (fun _ => ?_)
    refine j_iconst (v := 1) hx d_Mo_put_33 (by decide) ?_
    refine j_goto (tgt := 38) hx d_Mo_put_34 (by decide) ?_
    refine j_iconst (v := 1) hx d_Mo_put_38 (by decide) ?_
    refine j_iconst (v := 1) hx d_Mo_put_39 (by decide) ?_
    refine j_callVi hx (c_Mo_bad1 hG (up σ 111 0 0) 1 1 1 (by decide) (by exact up_rd) (by decide) (by decide)) mo_Mo_bad mv_Mo_bad t_1584 (by decide) rfl (by decide) (sh_111 _ _) rfl rfl (Nat.le_of_ble_eq_true rfl) d_Mo_put_40 ?_
    refine j_if_eq (tgt := 48) hx d_Mo_put_43 (by decide) (fun zc43 => absurd zc43 (by decide)) (fun _ => ?_)
    refine j_iconst (v := 0) hx d_Mo_put_46 (by decide) ?_
    exact j_iret hx hq rfl d_Mo_put_47 (by first | (rfl) | fail) (by first | (rfl) | fail)
  refine j_callSi hx (c_Mo_in0 hG (up σ 111 0 0) ships 0 ((1 <<< (((up σ 111 0 0) 115 3) &&& 31)) - 1) (by exact hn18)) mo_Mo_in t_1582 t_1581 (by decide) rfl rfl (Nat.le_of_ble_eq_true rfl) d_Mo_put_18 ?_
  refine j_if_eq (tgt := 33) hx d_Mo_put_21 (by decide) (fun _ => ?_) (fun zc21 => absurd (by decide) zc21)
  refine j_iconst (v := 1) hx d_Mo_put_33 (by decide) ?_
  refine j_goto (tgt := 38) hx d_Mo_put_34 (by decide) ?_
  refine j_iconst (v := 1) hx d_Mo_put_38 (by decide) ?_
  refine j_iconst (v := 1) hx d_Mo_put_39 (by decide) ?_
  refine j_callVi hx (c_Mo_bad1 hG (up σ 111 0 0) 1 1 1 (by decide) (by exact up_rd) (by decide) (by decide)) mo_Mo_bad mv_Mo_bad t_1584 (by decide) rfl (by decide) (sh_111 _ _) rfl rfl (Nat.le_of_ble_eq_true rfl) d_Mo_put_40 ?_
  refine j_if_eq (tgt := 48) hx d_Mo_put_43 (by decide) (fun zc43 => absurd zc43 (by decide)) (fun _ => ?_)
  refine j_iconst (v := 0) hx d_Mo_put_46 (by decide) ?_
  exact j_iret hx hq rfl d_Mo_put_47 (by first | (rfl) | fail) (by first | (rfl) | fail)

set_option maxRecDepth 20000 in
set_option maxHeartbeats 4000000 in
theorem c_Mo_save {l : Launch} {G : Gz} (hG : zI G) (σ : St) (w : Int32) (hw : mW (up σ 111 0 0)) (hr : rW (up σ 111 0 0) 122) (hv9 : 0 ≤ w ∧ w ≤ 2) : MI l G y_Mo_save prog_14_method_76_code 8 .int 9 [.ref (G.1 111), .int w] σ (mvV (up σ 111 0 0) w) ((mvX (up σ 111 0 0) (ct ((up σ 111 0 0) 115 0))).2) := by
  refine MI.of hG (by decide) (Nat.le_of_ble_eq_true rfl) (fun X hx hq => ?_)
  show J l G X 8 σ 0 [(0, .ref (G.1 111)), (1, .int w)] []
  have hb1 : ct ((up σ 111 0 0) 115 1) ≤ 6 := hw.1.2.1
  have hb2 : ct ((up σ 111 0 0) 115 2) ≤ 3 := hw.1.2.2.1
  have hb0 : ct ((up σ 111 0 0) 115 0) ≤ 12 := hw.1.1
  have hb3 : ct ((up σ 111 0 0) 115 3) ≤ 6 := hw.1.2.2.2.1
  have hb4 : ct ((up σ 111 0 0) 115 4) ≤ 6 := hw.1.2.2.2.2
  refine j_aload_n hx d_Mo_save_0 rfl 0 rfl ?_
  refine j_iconst (v := 0) hx d_Mo_save_1 (by decide) ?_
  refine j_put hx ck_Mo 0 (by decide) t_1418 (by decide) (sh_111 _ _) rfl (Nat.le_of_ble_eq_true rfl) (sh_111 _ _) d_Mo_save_2 ?_
  refine j_aload_n hx d_Mo_save_5 rfl 0 rfl ?_
  refine j_iload_n hx d_Mo_save_6 rfl 1 rfl ?_
  refine j_iconst (v := 0) hx d_Mo_save_7 (by decide) ?_
  refine j_iconst (v := 2) hx d_Mo_save_8 (by decide) ?_
  refine j_callSi hx (c_Mo_in1 hG (up σ 111 0 0) w 0 2 (by exact hv9)) mo_Mo_in t_1582 t_1581 (by decide) rfl rfl (Nat.le_of_ble_eq_true rfl) d_Mo_save_9 ?_
  refine j_if_ne (tgt := 19) hx d_Mo_save_12 (by decide) (fun _ => ?_) (fun zc12 => absurd zc12 (by decide))
  refine j_iconst (v := 0) hx d_Mo_save_19 (by decide) ?_
  refine j_iconst (v := 1) hx d_Mo_save_20 (by decide) ?_
  refine j_iconst (v := 1) hx d_Mo_save_21 (by decide) ?_
  refine j_callVi hx (c_Mo_bad0 hG (up σ 111 0 0) 0 1 1 (by rfl) (by exact up_rd)) mo_Mo_bad mv_Mo_bad t_1584 (by decide) rfl (by decide) (sh_111 _ _) rfl rfl (Nat.le_of_ble_eq_true rfl) d_Mo_save_22 ?_
  refine j_if_eq (tgt := 30) hx d_Mo_save_25 (by decide) (fun _ => ?_) (fun zc25 => absurd (by decide) zc25)
  refine j_iconst (v := (-1)) hx d_Mo_save_30 (by decide) ?_
  refine j_istore_n hx [(2, .int ((-1))), (0, .ref (G.1 111)), (1, .int w)] d_Mo_save_31 rfl (by decide) rfl ?_
  refine j_iconst (v := (-1)) hx d_Mo_save_32 (by decide) ?_
  refine j_istore_n hx [(3, .int ((-1))), (2, .int ((-1))), (0, .ref (G.1 111)), (1, .int w)] d_Mo_save_33 rfl (by decide) rfl ?_
  refine j_iconst (v := (-1)) hx d_Mo_save_34 (by decide) ?_
  refine j_istore hx [(4, .int ((-1))), (3, .int ((-1))), (2, .int ((-1))), (0, .ref (G.1 111)), (1, .int w)] d_Mo_save_35 (by decide) rfl ?_
  refine j_aload_n hx d_Mo_save_37 rfl 3 rfl ?_
  refine j_get hx ck_Mo 33 (by decide) t_1451 (by decide) (sh_111 _ _) rfl d_Mo_save_38 ?_
  refine j_aload_n hx d_Mo_save_41 rfl 3 rfl ?_
  refine j_get hx ck_Mo 34 (by decide) t_1452 (by decide) (sh_111 _ _) rfl d_Mo_save_42 ?_
  refine j_callSv hx (c_Mo_copies hG ia_122 ia_123 (up σ 111 0 0) (by first | assumption | omega)) mo_Mo_copies t_1710 t_1709 (by decide) rfl rfl (Nat.le_of_ble_eq_true rfl) d_Mo_save_45 ?_
  obtain ⟨s9_1, eg_1⟩ : ∃ z : St, z = pt0 (up σ 111 0 0) := ⟨_, rfl⟩
  refine J.to (σ' := s9_1) (by rw [eg_1]; rfl) rfl ?_
  have hpw : mW (pt0 (up σ 111 0 0)) := pt0_w hw
  have hpr : rW (pt0 (up σ 111 0 0)) 123 := pt0_r hr
  refine j_iconst (v := 0) hx d_Mo_save_48 (by decide) ?_
  refine j_istore hx [(5, .int 0), (4, .int ((-1))), (3, .int ((-1))), (2, .int ((-1))), (0, .ref (G.1 111)), (1, .int w)] d_Mo_save_49 (by decide) rfl ?_
  have hl51 : ∀ (N9 : Nat) (i : Nat), (i ≤ (ct ((up σ 111 0 0) 115 0))) → (ct ((up σ 111 0 0) 115 0)) - i = N9 → J l G X 8 ((mvX (up σ 111 0 0) i).2) 51 [(0, .ref (G.1 111)), (1, .int w), (2, .int ((mvX (up σ 111 0 0) i).1.1)), (3, .int ((mvX (up σ 111 0 0) i).1.2.1)), (4, .int ((mvX (up σ 111 0 0) i).1.2.2)), (5, .int (nI i))] [] := by
    intro N9
    induction N9 using Nat.strongRecOn with
    | _ N9 ih51 =>
      intro i hi_i hm51
      have hq9 : vq (pt0 (up σ 111 0 0)) (mvX (up σ 111 0 0) i).2 := vq.X
      have e115 : (mvX (up σ 111 0 0) i).2 115 = (up σ 111 0 0) 115 := by rw [hq9.1 115 (by decide) (by decide) (by decide) (by decide), pt0_o (by decide)]
      refine j_iload hx d_Mo_save_51 5 rfl ?_
      refine j_aload_n hx d_Mo_save_53 rfl 0 rfl ?_
      refine j_get hx ck_Mo 12 (by decide) t_1430 (by decide) (sh_111 _ _) rfl d_Mo_save_54 ?_
      refine j_iconst (v := 0) hx d_Mo_save_57 (by decide) ?_
      have hz58_1 : zin (0) 6 0 := by first | exact ⟨rfl, by decide⟩ | exact zin_nI (by omega) (by first | decide | omega) | exact zin_of (by omega) (by omega)
      refine j_ialdk hx ia_115 hz58_1 d_Mo_save_58 ?_
      refine j_icmp_ge (tgt := 134) hx d_Mo_save_59 (by decide) (fun zc59 => ?_) (fun zc59 => ?_)
      · skip
        obtain rfl := ct_end' hi_i (by have q9 := zc59; rw [e115] at q9; exact q9)
        refine j_iload_n hx d_Mo_save_134 rfl 1 rfl ?_
        refine j_if_ne (tgt := 142) hx d_Mo_save_135 (by decide) (fun zc135 => ?_) (fun zc135 => ?_)
        · skip
          refine j_iload_n hx d_Mo_save_142 rfl 1 rfl ?_
          refine j_iconst (v := 1) hx d_Mo_save_143 (by decide) ?_
          refine j_icmp_ne (tgt := 151) hx d_Mo_save_144 (by decide) (fun zc144 => ?_) (fun zc144 => ?_)
          · skip
            refine j_iload hx d_Mo_save_151 4 rfl ?_
            exact j_iret hx hq rfl d_Mo_save_153 (by first | (unfold mvV; first | exact (if_pos zc135).symm | (rw [if_neg zc135]; first | exact (if_pos zc144).symm | exact (if_neg zc144).symm)) | fail) (by first | (rfl) | fail)
          · skip
            refine j_iload_n hx d_Mo_save_147 rfl 3 rfl ?_
            refine j_goto (tgt := 153) hx d_Mo_save_148 (by decide) ?_
            exact j_iret hx hq rfl d_Mo_save_153 (by first | (unfold mvV; first | exact (if_pos zc135).symm | (rw [if_neg zc135]; first | exact (if_pos zc144).symm | exact (if_neg zc144).symm)) | fail) (by first | (rfl) | fail)
        · skip
          refine j_iload_n hx d_Mo_save_138 rfl 2 rfl ?_
          refine j_goto (tgt := 153) hx d_Mo_save_139 (by decide) ?_
          exact j_iret hx hq rfl d_Mo_save_153 (by first | (unfold mvV; first | exact (if_pos zc135).symm | (rw [if_neg zc135]; first | exact (if_pos zc144).symm | exact (if_neg zc144).symm)) | fail) (by first | (rfl) | fail)
      · skip
        have hlt51 := ct_go hi_i (by have q9 := zc59; rw [e115] at q9; exact q9)
        refine j_iconst (v := 1) hx d_Mo_save_62 (by decide) ?_
        refine j_istore hx [(6, .int 1), (0, .ref (G.1 111)), (1, .int w), (2, .int ((mvX (up σ 111 0 0) i).1.1)), (3, .int ((mvX (up σ 111 0 0) i).1.2.1)), (4, .int ((mvX (up σ 111 0 0) i).1.2.2)), (5, .int (nI i))] d_Mo_save_63 (by decide) rfl ?_
        have hl65 : ∀ (N9 : Nat) (j : Nat), (j ≤ 9) → 9 - j = N9 → J l G X 8 ((mvP i (mvX (up σ 111 0 0) i) j).2) 65 [(0, .ref (G.1 111)), (1, .int w), (2, .int ((mvP i (mvX (up σ 111 0 0) i) j).1.1)), (3, .int ((mvP i (mvX (up σ 111 0 0) i) j).1.2.1)), (4, .int ((mvP i (mvX (up σ 111 0 0) i) j).1.2.2)), (5, .int (nI i)), (6, .int (nI (j + 1)))] [] := by
          intro N9
          induction N9 using Nat.strongRecOn with
          | _ N9 ih65 =>
            intro j hi_j hm65
            have hqP : vq (pt0 (up σ 111 0 0)) (mvP i (mvX (up σ 111 0 0) i) j).2 := hq9.P
            have p115 : (mvP i (mvX (up σ 111 0 0) i) j).2 115 = (up σ 111 0 0) 115 := by rw [hqP.1 115 (by decide) (by decide) (by decide) (by decide), pt0_o (by decide)]
            refine j_iload hx d_Mo_save_65 6 rfl ?_
            refine j_bipush (v := 9) hx d_Mo_save_67 (by decide) ?_
            refine j_icmp_gt (tgt := 128) hx d_Mo_save_69 (by decide) (fun zc69 => ?_) (fun zc69 => ?_)
            · skip
              obtain rfl := gt_end (n := 9) hi_j (by decide) zc69
              refine j_iinc hx [(5, .int ((nI i) + 1)), (0, .ref (G.1 111)), (1, .int w), (2, .int ((mvP i (mvX (up σ 111 0 0) i) 9).1.1)), (3, .int ((mvP i (mvX (up σ 111 0 0) i) 9).1.2.1)), (4, .int ((mvP i (mvX (up σ 111 0 0) i) 9).1.2.2)), (6, .int (nI (9 + 1)))] d_Mo_save_128 5 rfl rfl (by decide) rfl ?_
              refine j_goto (tgt := 51) hx d_Mo_save_131 (by decide) ?_
              refine J.lsub (ls' := [(0, .ref (G.1 111)), (1, .int w), (2, .int ((mvP i (mvX (up σ 111 0 0) i) 9).1.1)), (3, .int ((mvP i (mvX (up σ 111 0 0) i) 9).1.2.1)), (4, .int ((mvP i (mvX (up σ 111 0 0) i) 9).1.2.2)), (5, .int ((nI i) + 1))]) [1, 2, 3, 4, 5, 0] rfl ?_
              refine J.to ?_ ?_ (ih51 _ ?_ (i + 1) hlt51 rfl)
              · first | (rw [mvX_q, mvQ_p]) | fail
              · first | (rw [mvX_q, mvQ_p]; simp only [nI_s]) | fail
              · first | (omega) | fail
            · skip
              have hlt65 := gt_go (n := 9) hi_j (by decide) zc69
              refine j_aload_n hx d_Mo_save_72 rfl 0 rfl ?_
              refine j_get hx ck_Mo 34 (by decide) t_1452 (by decide) (sh_111 _ _) rfl d_Mo_save_73 ?_
              refine j_bipush (v := 29) hx d_Mo_save_76 (by decide) ?_
              refine j_iload hx d_Mo_save_78 5 rfl ?_
              have hz80_2 : zin (29) 31 29 := by first | exact ⟨rfl, by decide⟩ | exact zin_nI (by omega) (by first | decide | omega) | exact zin_of (by omega) (by omega)
              refine j_iastk hx ia_123 hz80_2 d_Mo_save_80 ?_
              refine j_aload_n hx d_Mo_save_81 rfl 0 rfl ?_
              refine j_get hx ck_Mo 34 (by decide) t_1452 (by decide) (sh_111 _ _) rfl d_Mo_save_82 ?_
              refine j_bipush (v := 30) hx d_Mo_save_85 (by decide) ?_
              refine j_iload hx d_Mo_save_87 6 rfl ?_
              have hz89_3 : zin (30) 31 30 := by first | exact ⟨rfl, by decide⟩ | exact zin_nI (by omega) (by first | decide | omega) | exact zin_of (by omega) (by omega)
              refine j_iastk hx ia_123 hz89_3 d_Mo_save_89 ?_
              obtain ⟨s9_2, eg_2⟩ : ∃ z : St, z = vt1 (mvP i (mvX (up σ 111 0 0) i) j).2 i (j + 1) := ⟨_, rfl⟩
              refine J.to (σ' := s9_2) (by rw [eg_2]; rfl) rfl ?_
              have hr8 : rW s9_2 123 := by rw [eg_2]; exact vt1_r (hqP.2.2 hpr.1) (by omega) (by omega)
              refine j_aload_n hx d_Mo_save_90 rfl 0 rfl ?_
              refine j_aload_n hx d_Mo_save_91 rfl 0 rfl ?_
              refine j_get hx ck_Mo 34 (by decide) t_1452 (by decide) (sh_111 _ _) rfl d_Mo_save_92 ?_
              refine j_callVi hx (c_Mo_safeBy hG ia_123 s9_2 (by rw [eg_2]; exact (hqP.t).w hpw) (by exact hr8) (by decide) (by decide) (by decide)) mo_Mo_safeBy mv_Mo_safeBy t_1825 (by decide) rfl (by decide) (sh_111 _ _) rfl rfl (Nat.le_of_ble_eq_true rfl) d_Mo_save_95 ?_
              refine j_callSi hx (c_Mo_ones hG ((msf s9_2 123 (tl s9_2 3)).2) ((msf s9_2 123 (tl s9_2 3)).1)) mo_Mo_ones t_1842 t_1841 (by decide) rfl rfl (Nat.le_of_ble_eq_true rfl) d_Mo_save_98 ?_
              refine j_istore hx [(7, .int (ons ((msf s9_2 123 (tl s9_2 3)).1) 6)), (0, .ref (G.1 111)), (1, .int w), (2, .int ((mvP i (mvX (up σ 111 0 0) i) j).1.1)), (3, .int ((mvP i (mvX (up σ 111 0 0) i) j).1.2.1)), (4, .int ((mvP i (mvX (up σ 111 0 0) i) j).1.2.2)), (5, .int (nI i)), (6, .int (nI (j + 1)))] d_Mo_save_101 (by decide) rfl ?_
              refine j_iload hx d_Mo_save_103 0 rfl ?_
              refine j_iload_n hx d_Mo_save_105 rfl 3 rfl ?_
              refine j_icmp_gt (tgt := 112) hx d_Mo_save_106 (by decide) (fun zc106 => ?_) (fun zc106 => ?_)
              · skip
                refine j_iload hx d_Mo_save_112 0 rfl ?_
                refine j_istore_n hx [(2, .int (ons ((msf s9_2 123 (tl s9_2 3)).1) 6)), (7, .int (ons ((msf s9_2 123 (tl s9_2 3)).1) 6)), (0, .ref (G.1 111)), (1, .int w), (3, .int ((mvP i (mvX (up σ 111 0 0) i) j).1.2.1)), (4, .int ((mvP i (mvX (up σ 111 0 0) i) j).1.2.2)), (5, .int (nI i)), (6, .int (nI (j + 1)))] d_Mo_save_114 rfl (by decide) rfl ?_
                refine j_iload hx d_Mo_save_115 6 rfl ?_
                refine j_istore_n hx [(3, .int (nI i)), (2, .int (ons ((msf s9_2 123 (tl s9_2 3)).1) 6)), (7, .int (ons ((msf s9_2 123 (tl s9_2 3)).1) 6)), (0, .ref (G.1 111)), (1, .int w), (4, .int ((mvP i (mvX (up σ 111 0 0) i) j).1.2.2)), (5, .int (nI i)), (6, .int (nI (j + 1)))] d_Mo_save_117 rfl (by decide) rfl ?_
                refine j_iload hx d_Mo_save_118 7 rfl ?_
                refine j_istore hx [(4, .int (nI (j + 1))), (3, .int (nI i)), (2, .int (ons ((msf s9_2 123 (tl s9_2 3)).1) 6)), (7, .int (ons ((msf s9_2 123 (tl s9_2 3)).1) 6)), (0, .ref (G.1 111)), (1, .int w), (5, .int (nI i)), (6, .int (nI (j + 1)))] d_Mo_save_120 (by decide) rfl ?_
                refine j_iinc hx [(6, .int ((nI (j + 1)) + 1)), (4, .int (nI (j + 1))), (3, .int (nI i)), (2, .int (ons ((msf s9_2 123 (tl s9_2 3)).1) 6)), (7, .int (ons ((msf s9_2 123 (tl s9_2 3)).1) 6)), (0, .ref (G.1 111)), (1, .int w), (5, .int (nI i))] d_Mo_save_122 7 rfl rfl (by decide) rfl ?_
                refine j_goto (tgt := 65) hx d_Mo_save_125 (by decide) ?_
                refine J.lsub (ls' := [(0, .ref (G.1 111)), (1, .int w), (2, .int (ons ((msf s9_2 123 (tl s9_2 3)).1) 6)), (3, .int (nI i)), (4, .int (nI (j + 1))), (5, .int (nI i)), (6, .int ((nI (j + 1)) + 1))]) [5, 6, 3, 2, 1, 7, 0] rfl ?_
                refine J.to ?_ ?_ (ih65 _ ?_ (j + 1) hlt65 rfl)
                · first | (first | (rw [mvP_1 eg_2 (i_nlt zc106)]; done) | (rw [mvP_2 eg_2 (i_lle zc106)]; done)) | fail
                · first | (simp only [nI_s]; first | (rw [mvP_1 eg_2 (i_nlt zc106)]; done) | (rw [mvP_2 eg_2 (i_lle zc106)]; done)) | fail
                · first | (omega) | fail
              · skip
                refine j_goto (tgt := 122) hx d_Mo_save_109 (by decide) ?_
                refine j_iinc hx [(6, .int ((nI (j + 1)) + 1)), (7, .int (ons ((msf s9_2 123 (tl s9_2 3)).1) 6)), (0, .ref (G.1 111)), (1, .int w), (2, .int ((mvP i (mvX (up σ 111 0 0) i) j).1.1)), (3, .int ((mvP i (mvX (up σ 111 0 0) i) j).1.2.1)), (4, .int ((mvP i (mvX (up σ 111 0 0) i) j).1.2.2)), (5, .int (nI i))] d_Mo_save_122 7 rfl rfl (by decide) rfl ?_
                refine j_goto (tgt := 65) hx d_Mo_save_125 (by decide) ?_
                refine J.lsub (ls' := [(0, .ref (G.1 111)), (1, .int w), (2, .int ((mvP i (mvX (up σ 111 0 0) i) j).1.1)), (3, .int ((mvP i (mvX (up σ 111 0 0) i) j).1.2.1)), (4, .int ((mvP i (mvX (up σ 111 0 0) i) j).1.2.2)), (5, .int (nI i)), (6, .int ((nI (j + 1)) + 1))]) [2, 3, 4, 5, 6, 7, 0] rfl ?_
                refine J.to ?_ ?_ (ih65 _ ?_ (j + 1) hlt65 rfl)
                · first | (first | (rw [mvP_1 eg_2 (i_nlt zc106)]; done) | (rw [mvP_2 eg_2 (i_lle zc106)]; done)) | fail
                · first | (simp only [nI_s]; first | (rw [mvP_1 eg_2 (i_nlt zc106)]; done) | (rw [mvP_2 eg_2 (i_lle zc106)]; done)) | fail
                · first | (omega) | fail
        refine J.lsub (ls' := [(0, .ref (G.1 111)), (1, .int w), (2, .int ((mvX (up σ 111 0 0) i).1.1)), (3, .int ((mvX (up σ 111 0 0) i).1.2.1)), (4, .int ((mvX (up σ 111 0 0) i).1.2.2)), (5, .int (nI i)), (6, .int 1)]) [1, 2, 3, 4, 5, 6, 0] rfl ?_
        refine J.to ?_ ?_ (hl65 _ 0 (Nat.zero_le _) rfl)
        · first | (rw [mvP_0]) | fail
        · first | (rw [mvP_0]; rfl) | fail
  refine J.lsub (ls' := [(0, .ref (G.1 111)), (1, .int w), (2, .int ((-1))), (3, .int ((-1))), (4, .int ((-1))), (5, .int 0)]) [4, 5, 3, 2, 1, 0] rfl ?_
  refine J.to ?_ ?_ (hl51 _ 0 (Nat.zero_le _) rfl)
  · first | (rw [eg_1, mvX_0]) | fail
  · first | (rw [mvX_0]; rfl) | fail

set_option maxRecDepth 20000 in
set_option maxHeartbeats 4000000 in
theorem c_Mo_saveI {l : Launch} {G : Gz} (hG : zI G) (σ : St) (w : Int32) (hbad : ¬ (0 ≤ w ∧ w ≤ 2)) : MI l G y_Mo_save prog_14_method_76_code 8 .int 4 [.ref (G.1 111), .int w] σ 0 (mrf σ 1 1) := by
  refine MI.of hG (by decide) (Nat.le_of_ble_eq_true rfl) (fun X hx hq => ?_)
  show J l G X 8 σ 0 [(0, .ref (G.1 111)), (1, .int w)] []
  refine j_aload_n hx d_Mo_save_0 rfl 0 rfl ?_
  refine j_iconst (v := 0) hx d_Mo_save_1 (by decide) ?_
  refine j_put hx ck_Mo 0 (by decide) t_1418 (by decide) (sh_111 _ _) rfl (Nat.le_of_ble_eq_true rfl) (sh_111 _ _) d_Mo_save_2 ?_
  refine j_aload_n hx d_Mo_save_5 rfl 0 rfl ?_
  refine j_iload_n hx d_Mo_save_6 rfl 1 rfl ?_
  refine j_iconst (v := 0) hx d_Mo_save_7 (by decide) ?_
  refine j_iconst (v := 2) hx d_Mo_save_8 (by decide) ?_
  refine j_callSi hx (c_Mo_in0 hG (up σ 111 0 0) w 0 2 (by exact hbad)) mo_Mo_in t_1582 t_1581 (by decide) rfl rfl (Nat.le_of_ble_eq_true rfl) d_Mo_save_9 ?_
  refine j_if_ne (tgt := 19) hx d_Mo_save_12 (by decide) (fun zc12 => absurd rfl zc12) (fun _ => ?_)
  refine j_iconst (v := 1) hx d_Mo_save_15 (by decide) ?_
  refine j_goto (tgt := 20) hx d_Mo_save_16 (by decide) ?_
  refine j_iconst (v := 1) hx d_Mo_save_20 (by decide) ?_
  refine j_iconst (v := 1) hx d_Mo_save_21 (by decide) ?_
  refine j_callVi hx (c_Mo_bad1 hG (up σ 111 0 0) 1 1 1 (by decide) (by exact up_rd) (by decide) (by decide)) mo_Mo_bad mv_Mo_bad t_1584 (by decide) rfl (by decide) (sh_111 _ _) rfl rfl (Nat.le_of_ble_eq_true rfl) d_Mo_save_22 ?_
  refine j_if_eq (tgt := 30) hx d_Mo_save_25 (by decide) (fun zc25 => absurd zc25 (by decide)) (fun _ => ?_)
  refine j_iconst (v := 0) hx d_Mo_save_28 (by decide) ?_
  exact j_iret hx hq rfl d_Mo_save_29 (by first | (rfl) | fail) (by first | (rfl) | fail)

set_option maxRecDepth 20000 in
set_option maxHeartbeats 4000000 in
theorem c_Mo_wink {l : Launch} {G : Gz} (hG : zI G) (σ : St) (a : Int32) (p : Int32) (q : Int32) (l9 : Nat) (n : Nat) (part : Int32) (hv10 : 0 ≤ a ∧ a ≤ 16) (hv20 : 0 ≤ p ∧ p ≤ 16) (hv30 : 0 ≤ q ∧ q ≤ 16) (hv41 : 0 ≤ nI n ∧ nI n ≤ 6) (hv52 : 0 ≤ nI l9 ∧ nI l9 ≤ nI n) (hv61 : 0 ≤ part ∧ part ≤ 1) (hU : 0 ≤ (mwU a p l9 n).toInt) (hL : 0 ≤ (mwL a p q l9 n).toInt) (h1 : l9 < 100) (h2 : n < 100) (hgn : ¬ mwU a p l9 n = 0 → ¬ gcl (mwU a p l9 n).toInt.toNat.succ (mwL a p q l9 n) (mwU a p l9 n) = 0) : ML l G y_Mo_wink prog_14_method_87_code 17 .long 3 [.ref (G.1 111), .int a, .int p, .int q, .int (nI l9), .int (nI n), .int part] σ (mwi a p q l9 n part) (t0 σ) := by
  refine ML.of hG (by decide) (Nat.le_of_ble_eq_true rfl) (fun X hx hq => ?_)
  show J l G X 17 σ 0 [(0, .ref (G.1 111)), (1, .int a), (2, .int p), (3, .int q), (4, .int (nI l9)), (5, .int (nI n)), (6, .int part)] []
  refine j_aload_n hx d_Mo_wink_0 rfl 0 rfl ?_
  refine j_iconst (v := 0) hx d_Mo_wink_1 (by decide) ?_
  refine j_put hx ck_Mo 0 (by decide) t_1418 (by decide) (sh_111 _ _) rfl (Nat.le_of_ble_eq_true rfl) (sh_111 _ _) d_Mo_wink_2 ?_
  refine j_aload_n hx d_Mo_wink_5 rfl 0 rfl ?_
  refine j_iload_n hx d_Mo_wink_6 rfl 1 rfl ?_
  refine j_iconst (v := 0) hx d_Mo_wink_7 (by decide) ?_
  refine j_bipush (v := 16) hx d_Mo_wink_8 (by decide) ?_
  refine j_callSi hx (c_Mo_in1 hG (up σ 111 0 0) a 0 16 (by exact hv10)) mo_Mo_in t_1582 t_1581 (by decide) rfl rfl (Nat.le_of_ble_eq_true rfl) d_Mo_wink_10 ?_
  refine j_if_eq (tgt := 68) hx d_Mo_wink_13 (by decide) (fun zc13 => absurd zc13 (by decide)) (fun _ => ?_)
  refine j_iload_n hx d_Mo_wink_16 rfl 2 rfl ?_
  refine j_iconst (v := 0) hx d_Mo_wink_17 (by decide) ?_
  refine j_bipush (v := 16) hx d_Mo_wink_18 (by decide) ?_
  refine j_callSi hx (c_Mo_in1 hG (up σ 111 0 0) p 0 16 (by exact hv20)) mo_Mo_in t_1582 t_1581 (by decide) rfl rfl (Nat.le_of_ble_eq_true rfl) d_Mo_wink_20 ?_
  refine j_if_eq (tgt := 68) hx d_Mo_wink_23 (by decide) (fun zc23 => absurd zc23 (by decide)) (fun _ => ?_)
  refine j_iload_n hx d_Mo_wink_26 rfl 3 rfl ?_
  refine j_iconst (v := 0) hx d_Mo_wink_27 (by decide) ?_
  refine j_bipush (v := 16) hx d_Mo_wink_28 (by decide) ?_
  refine j_callSi hx (c_Mo_in1 hG (up σ 111 0 0) q 0 16 (by exact hv30)) mo_Mo_in t_1582 t_1581 (by decide) rfl rfl (Nat.le_of_ble_eq_true rfl) d_Mo_wink_30 ?_
  refine j_if_eq (tgt := 68) hx d_Mo_wink_33 (by decide) (fun zc33 => absurd zc33 (by decide)) (fun _ => ?_)
  refine j_iload hx d_Mo_wink_36 5 rfl ?_
  refine j_iconst (v := 0) hx d_Mo_wink_38 (by decide) ?_
  refine j_bipush (v := 6) hx d_Mo_wink_39 (by decide) ?_
  refine j_callSi hx (c_Mo_in1 hG (up σ 111 0 0) (nI n) 0 6 (by exact hv41)) mo_Mo_in t_1582 t_1581 (by decide) rfl rfl (Nat.le_of_ble_eq_true rfl) d_Mo_wink_41 ?_
  refine j_if_eq (tgt := 68) hx d_Mo_wink_44 (by decide) (fun zc44 => absurd zc44 (by decide)) (fun _ => ?_)
  refine j_iload hx d_Mo_wink_47 4 rfl ?_
  refine j_iconst (v := 0) hx d_Mo_wink_49 (by decide) ?_
  refine j_iload hx d_Mo_wink_50 5 rfl ?_
  refine j_callSi hx (c_Mo_in1 hG (up σ 111 0 0) (nI l9) 0 (nI n) (by exact hv52)) mo_Mo_in t_1582 t_1581 (by decide) rfl rfl (Nat.le_of_ble_eq_true rfl) d_Mo_wink_52 ?_
  refine j_if_eq (tgt := 68) hx d_Mo_wink_55 (by decide) (fun zc55 => absurd zc55 (by decide)) (fun _ => ?_)
  refine j_iload hx d_Mo_wink_58 6 rfl ?_
  refine j_iconst (v := 0) hx d_Mo_wink_60 (by decide) ?_
  refine j_iconst (v := 1) hx d_Mo_wink_61 (by decide) ?_
  refine j_callSi hx (c_Mo_in1 hG (up σ 111 0 0) part 0 1 (by exact hv61)) mo_Mo_in t_1582 t_1581 (by decide) rfl rfl (Nat.le_of_ble_eq_true rfl) d_Mo_wink_62 ?_
  refine j_if_ne (tgt := 72) hx d_Mo_wink_65 (by decide) (fun _ => ?_) (fun zc65 => absurd zc65 (by decide))
  refine j_iconst (v := 0) hx d_Mo_wink_72 (by decide) ?_
  refine j_iconst (v := 1) hx d_Mo_wink_73 (by decide) ?_
  refine j_iconst (v := 1) hx d_Mo_wink_74 (by decide) ?_
  refine j_callVi hx (c_Mo_bad0 hG (up σ 111 0 0) 0 1 1 (by rfl) (by exact up_rd)) mo_Mo_bad mv_Mo_bad t_1584 (by decide) rfl (by decide) (sh_111 _ _) rfl rfl (Nat.le_of_ble_eq_true rfl) d_Mo_wink_75 ?_
  refine j_if_eq (tgt := 83) hx d_Mo_wink_78 (by decide) (fun _ => ?_) (fun zc78 => absurd (by decide) zc78)
  refine j_iload_n hx d_Mo_wink_83 rfl 1 rfl ?_
  refine j_i2l hx d_Mo_wink_84 rfl ?_
  refine j_iload_n hx d_Mo_wink_85 rfl 2 rfl ?_
  refine j_iload hx d_Mo_wink_86 4 rfl ?_
  refine j_iload hx d_Mo_wink_88 5 rfl ?_
  refine j_callSl hx (c_Mo_lostBy hG (up σ 111 0 0) p l9 n (by exact h1) (by exact h2)) mo_Mo_lostBy t_1885 t_1884 (by decide) rfl rfl (Nat.le_of_ble_eq_true rfl) d_Mo_wink_90 ?_
  refine j_lmul hx d_Mo_wink_93 ?_
  refine j_lstore hx [(7, .long (a.toInt64 * (mlb p l9 n))), (0, .ref (G.1 111)), (1, .int a), (2, .int p), (3, .int q), (4, .int (nI l9)), (5, .int (nI n)), (6, .int part)] d_Mo_wink_94 (by decide) rfl ?_
  refine j_lload hx d_Mo_wink_96 0 rfl ?_
  refine j_bipush (v := 16) hx d_Mo_wink_98 (by decide) ?_
  refine j_iload_n hx d_Mo_wink_100 rfl 2 rfl ?_
  refine j_isub hx d_Mo_wink_101 ?_
  refine j_i2l hx d_Mo_wink_102 rfl ?_
  refine j_iload_n hx d_Mo_wink_103 rfl 4 rfl ?_
  refine j_iload hx d_Mo_wink_104 5 rfl ?_
  refine j_iload hx d_Mo_wink_106 6 rfl ?_
  refine j_callSl hx (c_Mo_lostBy hG (up σ 111 0 0) q l9 n (by exact h1) (by exact h2)) mo_Mo_lostBy t_1885 t_1884 (by decide) rfl rfl (Nat.le_of_ble_eq_true rfl) d_Mo_wink_108 ?_
  refine j_lmul hx d_Mo_wink_111 ?_
  refine j_ladd hx d_Mo_wink_112 ?_
  refine j_lstore hx [(9, .long ((a.toInt64 * (mlb p l9 n)) + (((16 - a).toInt64) * (mlb q l9 n)))), (7, .long (a.toInt64 * (mlb p l9 n))), (0, .ref (G.1 111)), (1, .int a), (2, .int p), (3, .int q), (4, .int (nI l9)), (5, .int (nI n)), (6, .int part)] d_Mo_wink_113 (by decide) rfl ?_
  refine j_lload hx d_Mo_wink_115 0 rfl ?_
  refine j_lstore hx [(11, .long ((a.toInt64 * (mlb p l9 n)) + (((16 - a).toInt64) * (mlb q l9 n)))), (9, .long ((a.toInt64 * (mlb p l9 n)) + (((16 - a).toInt64) * (mlb q l9 n)))), (7, .long (a.toInt64 * (mlb p l9 n))), (0, .ref (G.1 111)), (1, .int a), (2, .int p), (3, .int q), (4, .int (nI l9)), (5, .int (nI n)), (6, .int part)] d_Mo_wink_117 (by decide) rfl ?_
  refine j_lload hx d_Mo_wink_119 2 rfl ?_
  refine j_lstore hx [(13, .long (a.toInt64 * (mlb p l9 n))), (11, .long ((a.toInt64 * (mlb p l9 n)) + (((16 - a).toInt64) * (mlb q l9 n)))), (9, .long ((a.toInt64 * (mlb p l9 n)) + (((16 - a).toInt64) * (mlb q l9 n)))), (7, .long (a.toInt64 * (mlb p l9 n))), (0, .ref (G.1 111)), (1, .int a), (2, .int p), (3, .int q), (4, .int (nI l9)), (5, .int (nI n)), (6, .int part)] d_Mo_wink_121 (by decide) rfl ?_
  have hl123 : ∀ (N9 : Nat) (x y : Int64), (0 ≤ x.toInt) → (0 ≤ y.toInt) → (gcl (y.toInt.toNat + 1) x y = gcl (mwU a p l9 n).toInt.toNat.succ (mwL a p q l9 n) (mwU a p l9 n)) → y.toInt.toNat = N9 → J l G X 17 (up σ 111 0 0) 123 [(0, .ref (G.1 111)), (1, .int a), (2, .int p), (3, .int q), (4, .int (nI l9)), (5, .int (nI n)), (6, .int part), (7, .long (mwU a p l9 n)), (9, .long (mwL a p q l9 n)), (11, .long (x)), (13, .long (y))] [] := by
    intro N9
    induction N9 using Nat.strongRecOn with
    | _ N9 ih123 =>
      intro x y hx9 hy9 hg9 hm123
      refine j_lload hx d_Mo_wink_123 10 rfl ?_
      refine j_lconst (v := 0) hx d_Mo_wink_125 (by decide) ?_
      refine j_lcmp hx d_Mo_wink_126 ?_
      refine j_if_eq (tgt := 148) hx d_Mo_wink_127 (by decide) (fun zc127 => ?_) (fun zc127 => ?_)
      · skip
        refine j_lload hx d_Mo_wink_148 7 rfl ?_
        refine j_lconst (v := 0) hx d_Mo_wink_150 (by decide) ?_
        refine j_lcmp hx d_Mo_wink_151 ?_
        refine j_if_ne (tgt := 159) hx d_Mo_wink_152 (by decide) (fun zc152 => ?_) (fun zc152 => ?_)
        · skip
          refine j_iload hx d_Mo_wink_159 6 rfl ?_
          refine j_if_ne (tgt := 172) hx d_Mo_wink_161 (by decide) (fun zc161 => ?_) (fun zc161 => ?_)
          · skip
            refine j_lload hx d_Mo_wink_172 8 rfl ?_
            refine j_lload hx d_Mo_wink_174 9 rfl ?_
            refine j_ldiv hx d_Mo_wink_176 (by exact fun z => hgn (fun u => zc152 ((lg_cmp_eq _ _).mpr u)) ((gcl_end hg9 ((lg_cmp_eq _ _).mp zc127)).symm.trans z)) ?_
            exact j_lret hx hq d_Mo_wink_177 (by first | (unfold mwi; first | (rw [if_pos ((lg_cmp_eq _ _).mp zc152)]; done) | (rw [if_neg (fun u => zc152 ((lg_cmp_eq _ _).mpr u))]; rw [← gcl_end hg9 ((lg_cmp_eq _ _).mp zc127)]; first | exact (if_pos zc161).symm | exact (if_neg zc161).symm)) | fail) (by first | (rfl) | fail)
          · skip
            refine j_lload hx d_Mo_wink_164 7 rfl ?_
            refine j_lload hx d_Mo_wink_166 9 rfl ?_
            refine j_ldiv hx d_Mo_wink_168 (by exact fun z => hgn (fun u => zc152 ((lg_cmp_eq _ _).mpr u)) ((gcl_end hg9 ((lg_cmp_eq _ _).mp zc127)).symm.trans z)) ?_
            refine j_goto (tgt := 177) hx d_Mo_wink_169 (by decide) ?_
            exact j_lret hx hq d_Mo_wink_177 (by first | (unfold mwi; first | (rw [if_pos ((lg_cmp_eq _ _).mp zc152)]; done) | (rw [if_neg (fun u => zc152 ((lg_cmp_eq _ _).mpr u))]; rw [← gcl_end hg9 ((lg_cmp_eq _ _).mp zc127)]; first | exact (if_pos zc161).symm | exact (if_neg zc161).symm)) | fail) (by first | (rfl) | fail)
        · skip
          refine j_iload hx d_Mo_wink_155 6 rfl ?_
          refine j_i2l hx d_Mo_wink_157 rfl ?_
          exact j_lret hx hq d_Mo_wink_158 (by first | (unfold mwi; first | (rw [if_pos ((lg_cmp_eq _ _).mp zc152)]; done) | (rw [if_neg (fun u => zc152 ((lg_cmp_eq _ _).mpr u))]; rw [← gcl_end hg9 ((lg_cmp_eq _ _).mp zc127)]; first | exact (if_pos zc161).symm | exact (if_neg zc161).symm)) | fail) (by first | (rfl) | fail)
      · skip
        refine j_lload hx d_Mo_wink_130 9 rfl ?_
        refine j_lload hx d_Mo_wink_132 10 rfl ?_
        refine j_lrem hx d_Mo_wink_134 (by exact fun z => zc127 ((lg_cmp_eq _ _).mpr z)) ?_
        refine j_lstore hx [(15, .long (x - x / y * y)), (0, .ref (G.1 111)), (1, .int a), (2, .int p), (3, .int q), (4, .int (nI l9)), (5, .int (nI n)), (6, .int part), (7, .long (mwU a p l9 n)), (9, .long (mwL a p q l9 n)), (11, .long (x)), (13, .long (y))] d_Mo_wink_135 (by decide) rfl ?_
        refine j_lload hx d_Mo_wink_137 11 rfl ?_
        refine j_lstore hx [(11, .long (y)), (15, .long (x - x / y * y)), (0, .ref (G.1 111)), (1, .int a), (2, .int p), (3, .int q), (4, .int (nI l9)), (5, .int (nI n)), (6, .int part), (7, .long (mwU a p l9 n)), (9, .long (mwL a p q l9 n)), (13, .long (y))] d_Mo_wink_139 (by decide) rfl ?_
        refine j_lload hx d_Mo_wink_141 1 rfl ?_
        refine j_lstore hx [(13, .long (x - x / y * y)), (11, .long (y)), (15, .long (x - x / y * y)), (0, .ref (G.1 111)), (1, .int a), (2, .int p), (3, .int q), (4, .int (nI l9)), (5, .int (nI n)), (6, .int part), (7, .long (mwU a p l9 n)), (9, .long (mwL a p q l9 n))] d_Mo_wink_143 (by decide) rfl ?_
        refine j_goto (tgt := 123) hx d_Mo_wink_145 (by decide) ?_
        refine J.lsub (ls' := [(0, .ref (G.1 111)), (1, .int a), (2, .int p), (3, .int q), (4, .int (nI l9)), (5, .int (nI n)), (6, .int part), (7, .long (mwU a p l9 n)), (9, .long (mwL a p q l9 n)), (11, .long (y)), (13, .long (x - x / y * y))]) [3, 4, 5, 6, 7, 8, 9, 10, 11, 1, 0] rfl ?_
        refine J.to ?_ ?_ (ih123 _ ?_ y (x - x / y * y) hy9 (gcl_go hx9 hy9 hg9 (fun z => zc127 ((lg_cmp_eq _ _).mpr z))).2.1 (gcl_go hx9 hy9 hg9 (fun z => zc127 ((lg_cmp_eq _ _).mpr z))).1 rfl)
        · first | (rfl) | fail
        · first | (rfl) | fail
        · first | (exact hm123 ▸ (gcl_go hx9 hy9 hg9 (fun z => zc127 ((lg_cmp_eq _ _).mpr z))).2.2) | fail
  refine J.lsub (ls' := [(0, .ref (G.1 111)), (1, .int a), (2, .int p), (3, .int q), (4, .int (nI l9)), (5, .int (nI n)), (6, .int part), (7, .long (a.toInt64 * (mlb p l9 n))), (9, .long ((a.toInt64 * (mlb p l9 n)) + (((16 - a).toInt64) * (mlb q l9 n)))), (11, .long ((a.toInt64 * (mlb p l9 n)) + (((16 - a).toInt64) * (mlb q l9 n)))), (13, .long (a.toInt64 * (mlb p l9 n)))]) [4, 5, 6, 7, 8, 9, 10, 3, 2, 1, 0] rfl ?_
  refine J.to ?_ ?_ (hl123 _ (mwL a p q l9 n) (mwU a p l9 n) hL hU rfl rfl)
  · first | (rfl) | fail
  · first | (rfl) | fail

set_option maxRecDepth 20000 in
set_option maxHeartbeats 4000000 in
theorem c_Mo_winkI {l : Launch} {G : Gz} (hG : zI G) (σ : St) (a : Int32) (p : Int32) (q : Int32) (l9 : Int32) (n : Int32) (part : Int32) (hbad : ¬ ((0 ≤ a ∧ a ≤ 16) ∧ (0 ≤ p ∧ p ≤ 16) ∧ (0 ≤ q ∧ q ≤ 16) ∧ (0 ≤ n ∧ n ≤ 6) ∧ (0 ≤ l9 ∧ l9 ≤ n) ∧ (0 ≤ part ∧ part ≤ 1))) : ML l G y_Mo_wink prog_14_method_87_code 17 .long 4 [.ref (G.1 111), .int a, .int p, .int q, .int l9, .int n, .int part] σ 0 (mrf σ 1 1) := by
  refine ML.of hG (by decide) (Nat.le_of_ble_eq_true rfl) (fun X hx hq => ?_)
  show J l G X 17 σ 0 [(0, .ref (G.1 111)), (1, .int a), (2, .int p), (3, .int q), (4, .int l9), (5, .int n), (6, .int part)] []
  refine j_aload_n hx d_Mo_wink_0 rfl 0 rfl ?_
  refine j_iconst (v := 0) hx d_Mo_wink_1 (by decide) ?_
  refine j_put hx ck_Mo 0 (by decide) t_1418 (by decide) (sh_111 _ _) rfl (Nat.le_of_ble_eq_true rfl) (sh_111 _ _) d_Mo_wink_2 ?_
  refine j_aload_n hx d_Mo_wink_5 rfl 0 rfl ?_
  refine j_iload_n hx d_Mo_wink_6 rfl 1 rfl ?_
  refine j_iconst (v := 0) hx d_Mo_wink_7 (by decide) ?_
  refine j_bipush (v := 16) hx d_Mo_wink_8 (by decide) ?_
  by_cases hn10 : 0 ≤ a ∧ a ≤ 16
  · skip
    refine j_callSi hx (c_Mo_in1 hG (up σ 111 0 0) a 0 16 (by exact hn10)) mo_Mo_in t_1582 t_1581 (by decide) rfl rfl (Nat.le_of_ble_eq_true rfl) d_Mo_wink_10 ?_
    refine j_if_eq (tgt := 68) hx d_Mo_wink_13 (by decide) (fun zc13 => absurd zc13 (by decide)) (fun _ => ?_)
    refine j_iload_n hx d_Mo_wink_16 rfl 2 rfl ?_
    refine j_iconst (v := 0) hx d_Mo_wink_17 (by decide) ?_
    refine j_bipush (v := 16) hx d_Mo_wink_18 (by decide) ?_
    by_cases hn20 : 0 ≤ p ∧ p ≤ 16
    · skip
      refine j_callSi hx (c_Mo_in1 hG (up σ 111 0 0) p 0 16 (by exact hn20)) mo_Mo_in t_1582 t_1581 (by decide) rfl rfl (Nat.le_of_ble_eq_true rfl) d_Mo_wink_20 ?_
      refine j_if_eq (tgt := 68) hx d_Mo_wink_23 (by decide) (fun zc23 => absurd zc23 (by decide)) (fun _ => ?_)
      refine j_iload_n hx d_Mo_wink_26 rfl 3 rfl ?_
      refine j_iconst (v := 0) hx d_Mo_wink_27 (by decide) ?_
      refine j_bipush (v := 16) hx d_Mo_wink_28 (by decide) ?_
      by_cases hn30 : 0 ≤ q ∧ q ≤ 16
      · skip
        refine j_callSi hx (c_Mo_in1 hG (up σ 111 0 0) q 0 16 (by exact hn30)) mo_Mo_in t_1582 t_1581 (by decide) rfl rfl (Nat.le_of_ble_eq_true rfl) d_Mo_wink_30 ?_
        refine j_if_eq (tgt := 68) hx d_Mo_wink_33 (by decide) (fun zc33 => absurd zc33 (by decide)) (fun _ => ?_)
        refine j_iload hx d_Mo_wink_36 5 rfl ?_
        refine j_iconst (v := 0) hx d_Mo_wink_38 (by decide) ?_
        refine j_bipush (v := 6) hx d_Mo_wink_39 (by decide) ?_
        by_cases hn41 : 0 ≤ n ∧ n ≤ 6
        · skip
          refine j_callSi hx (c_Mo_in1 hG (up σ 111 0 0) n 0 6 (by exact hn41)) mo_Mo_in t_1582 t_1581 (by decide) rfl rfl (Nat.le_of_ble_eq_true rfl) d_Mo_wink_41 ?_
          refine j_if_eq (tgt := 68) hx d_Mo_wink_44 (by decide) (fun zc44 => absurd zc44 (by decide)) (fun _ => ?_)
          refine j_iload hx d_Mo_wink_47 4 rfl ?_
          refine j_iconst (v := 0) hx d_Mo_wink_49 (by decide) ?_
          refine j_iload hx d_Mo_wink_50 5 rfl ?_
          by_cases hn52 : 0 ≤ l9 ∧ l9 ≤ n
          · skip
            refine j_callSi hx (c_Mo_in1 hG (up σ 111 0 0) l9 0 n (by exact hn52)) mo_Mo_in t_1582 t_1581 (by decide) rfl rfl (Nat.le_of_ble_eq_true rfl) d_Mo_wink_52 ?_
            refine j_if_eq (tgt := 68) hx d_Mo_wink_55 (by decide) (fun zc55 => absurd zc55 (by decide)) (fun _ => ?_)
            refine j_iload hx d_Mo_wink_58 6 rfl ?_
            refine j_iconst (v := 0) hx d_Mo_wink_60 (by decide) ?_
            refine j_iconst (v := 1) hx d_Mo_wink_61 (by decide) ?_
            by_cases hn62 : 0 ≤ part ∧ part ≤ 1
            · skip
              exact absurd ⟨hn10, hn20, hn30, hn41, hn52, hn62⟩ hbad
            refine j_callSi hx (c_Mo_in0 hG (up σ 111 0 0) part 0 1 (by exact hn62)) mo_Mo_in t_1582 t_1581 (by decide) rfl rfl (Nat.le_of_ble_eq_true rfl) d_Mo_wink_62 ?_
            refine j_if_ne (tgt := 72) hx d_Mo_wink_65 (by decide) (fun zc65 => absurd rfl zc65) (fun _ => ?_)
            refine j_iconst (v := 1) hx d_Mo_wink_68 (by decide) ?_
            refine j_goto (tgt := 73) hx d_Mo_wink_69 (by decide) ?_
            refine j_iconst (v := 1) hx d_Mo_wink_73 (by decide) ?_
            refine j_iconst (v := 1) hx d_Mo_wink_74 (by decide) ?_
            refine j_callVi hx (c_Mo_bad1 hG (up σ 111 0 0) 1 1 1 (by decide) (by exact up_rd) (by decide) (by decide)) mo_Mo_bad mv_Mo_bad t_1584 (by decide) rfl (by decide) (sh_111 _ _) rfl rfl (Nat.le_of_ble_eq_true rfl) d_Mo_wink_75 ?_
            refine j_if_eq (tgt := 83) hx d_Mo_wink_78 (by decide) (fun zc78 => absurd zc78 (by decide)) (fun _ => ?_)
            refine j_lconst (v := 0) hx d_Mo_wink_81 (by decide) ?_
            exact j_lret hx hq d_Mo_wink_82 (by first | (rfl) | fail) (by first | (rfl) | fail)
          refine j_callSi hx (c_Mo_in0 hG (up σ 111 0 0) l9 0 n (by exact hn52)) mo_Mo_in t_1582 t_1581 (by decide) rfl rfl (Nat.le_of_ble_eq_true rfl) d_Mo_wink_52 ?_
          refine j_if_eq (tgt := 68) hx d_Mo_wink_55 (by decide) (fun _ => ?_) (fun zc55 => absurd (by decide) zc55)
          refine j_iconst (v := 1) hx d_Mo_wink_68 (by decide) ?_
          refine j_goto (tgt := 73) hx d_Mo_wink_69 (by decide) ?_
          refine j_iconst (v := 1) hx d_Mo_wink_73 (by decide) ?_
          refine j_iconst (v := 1) hx d_Mo_wink_74 (by decide) ?_
          refine j_callVi hx (c_Mo_bad1 hG (up σ 111 0 0) 1 1 1 (by decide) (by exact up_rd) (by decide) (by decide)) mo_Mo_bad mv_Mo_bad t_1584 (by decide) rfl (by decide) (sh_111 _ _) rfl rfl (Nat.le_of_ble_eq_true rfl) d_Mo_wink_75 ?_
          refine j_if_eq (tgt := 83) hx d_Mo_wink_78 (by decide) (fun zc78 => absurd zc78 (by decide)) (fun _ => ?_)
          refine j_lconst (v := 0) hx d_Mo_wink_81 (by decide) ?_
          exact j_lret hx hq d_Mo_wink_82 (by first | (rfl) | fail) (by first | (rfl) | fail)
        refine j_callSi hx (c_Mo_in0 hG (up σ 111 0 0) n 0 6 (by exact hn41)) mo_Mo_in t_1582 t_1581 (by decide) rfl rfl (Nat.le_of_ble_eq_true rfl) d_Mo_wink_41 ?_
        refine j_if_eq (tgt := 68) hx d_Mo_wink_44 (by decide) (fun _ => ?_) (fun zc44 => absurd (by decide) zc44)
        refine j_iconst (v := 1) hx d_Mo_wink_68 (by decide) ?_
        refine j_goto (tgt := 73) hx d_Mo_wink_69 (by decide) ?_
        refine j_iconst (v := 1) hx d_Mo_wink_73 (by decide) ?_
        refine j_iconst (v := 1) hx d_Mo_wink_74 (by decide) ?_
        refine j_callVi hx (c_Mo_bad1 hG (up σ 111 0 0) 1 1 1 (by decide) (by exact up_rd) (by decide) (by decide)) mo_Mo_bad mv_Mo_bad t_1584 (by decide) rfl (by decide) (sh_111 _ _) rfl rfl (Nat.le_of_ble_eq_true rfl) d_Mo_wink_75 ?_
        refine j_if_eq (tgt := 83) hx d_Mo_wink_78 (by decide) (fun zc78 => absurd zc78 (by decide)) (fun _ => ?_)
        refine j_lconst (v := 0) hx d_Mo_wink_81 (by decide) ?_
        exact j_lret hx hq d_Mo_wink_82 (by first | (rfl) | fail) (by first | (rfl) | fail)
      refine j_callSi hx (c_Mo_in0 hG (up σ 111 0 0) q 0 16 (by exact hn30)) mo_Mo_in t_1582 t_1581 (by decide) rfl rfl (Nat.le_of_ble_eq_true rfl) d_Mo_wink_30 ?_
      refine j_if_eq (tgt := 68) hx d_Mo_wink_33 (by decide) (fun _ => ?_) (fun zc33 => absurd (by decide) zc33)
      refine j_iconst (v := 1) hx d_Mo_wink_68 (by decide) ?_
      refine j_goto (tgt := 73) hx d_Mo_wink_69 (by decide) ?_
      refine j_iconst (v := 1) hx d_Mo_wink_73 (by decide) ?_
      refine j_iconst (v := 1) hx d_Mo_wink_74 (by decide) ?_
      refine j_callVi hx (c_Mo_bad1 hG (up σ 111 0 0) 1 1 1 (by decide) (by exact up_rd) (by decide) (by decide)) mo_Mo_bad mv_Mo_bad t_1584 (by decide) rfl (by decide) (sh_111 _ _) rfl rfl (Nat.le_of_ble_eq_true rfl) d_Mo_wink_75 ?_
      refine j_if_eq (tgt := 83) hx d_Mo_wink_78 (by decide) (fun zc78 => absurd zc78 (by decide)) (fun _ => ?_)
      refine j_lconst (v := 0) hx d_Mo_wink_81 (by decide) ?_
      exact j_lret hx hq d_Mo_wink_82 (by first | (rfl) | fail) (by first | (rfl) | fail)
    refine j_callSi hx (c_Mo_in0 hG (up σ 111 0 0) p 0 16 (by exact hn20)) mo_Mo_in t_1582 t_1581 (by decide) rfl rfl (Nat.le_of_ble_eq_true rfl) d_Mo_wink_20 ?_
    refine j_if_eq (tgt := 68) hx d_Mo_wink_23 (by decide) (fun _ => ?_) (fun zc23 => absurd (by decide) zc23)
    refine j_iconst (v := 1) hx d_Mo_wink_68 (by decide) ?_
    refine j_goto (tgt := 73) hx d_Mo_wink_69 (by decide) ?_
    refine j_iconst (v := 1) hx d_Mo_wink_73 (by decide) ?_
    refine j_iconst (v := 1) hx d_Mo_wink_74 (by decide) ?_
    refine j_callVi hx (c_Mo_bad1 hG (up σ 111 0 0) 1 1 1 (by decide) (by exact up_rd) (by decide) (by decide)) mo_Mo_bad mv_Mo_bad t_1584 (by decide) rfl (by decide) (sh_111 _ _) rfl rfl (Nat.le_of_ble_eq_true rfl) d_Mo_wink_75 ?_
    refine j_if_eq (tgt := 83) hx d_Mo_wink_78 (by decide) (fun zc78 => absurd zc78 (by decide)) (fun _ => ?_)
    refine j_lconst (v := 0) hx d_Mo_wink_81 (by decide) ?_
    exact j_lret hx hq d_Mo_wink_82 (by first | (rfl) | fail) (by first | (rfl) | fail)
  refine j_callSi hx (c_Mo_in0 hG (up σ 111 0 0) a 0 16 (by exact hn10)) mo_Mo_in t_1582 t_1581 (by decide) rfl rfl (Nat.le_of_ble_eq_true rfl) d_Mo_wink_10 ?_
  refine j_if_eq (tgt := 68) hx d_Mo_wink_13 (by decide) (fun _ => ?_) (fun zc13 => absurd (by decide) zc13)
  refine j_iconst (v := 1) hx d_Mo_wink_68 (by decide) ?_
  refine j_goto (tgt := 73) hx d_Mo_wink_69 (by decide) ?_
  refine j_iconst (v := 1) hx d_Mo_wink_73 (by decide) ?_
  refine j_iconst (v := 1) hx d_Mo_wink_74 (by decide) ?_
  refine j_callVi hx (c_Mo_bad1 hG (up σ 111 0 0) 1 1 1 (by decide) (by exact up_rd) (by decide) (by decide)) mo_Mo_bad mv_Mo_bad t_1584 (by decide) rfl (by decide) (sh_111 _ _) rfl rfl (Nat.le_of_ble_eq_true rfl) d_Mo_wink_75 ?_
  refine j_if_eq (tgt := 83) hx d_Mo_wink_78 (by decide) (fun zc78 => absurd zc78 (by decide)) (fun _ => ?_)
  refine j_lconst (v := 0) hx d_Mo_wink_81 (by decide) ?_
  exact j_lret hx hq d_Mo_wink_82 (by first | (rfl) | fail) (by first | (rfl) | fail)

