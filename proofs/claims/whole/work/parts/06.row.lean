theorem J.to {l : Launch} {G : Gz} {X : Cx} {nL pc : Nat} {σ σ' : St} {ls ls' : List (Nat × Value)} {st : List Value} (hs : σ = σ') (hl : ls = ls') (K : J l G X nL σ' pc ls' st) : J l G X nL σ pc ls st := by subst hs; subst hl; exact K
theorem J.sw {l : Launch} {G : Gz} {X : Cx} {nL pc : Nat} {σ : St} {ls : List (Nat × Value)} {st : List Value} {x : Int32} (v : Int32) (h1 : x = v → J l G X nL σ pc ls st) (h2 : ¬ x = v → J l G X nL σ pc ls st) : J l G X nL σ pc ls st := by
  by_cases h : x = v
  · exact h1 h
  · exact h2 h
theorem sw_ne {x v : Int32} (h : ¬ x = v) : ¬ x.toInt = v.toInt := fun e => h (Int32.toInt_inj.mp e)
/-- a truth as a number -/
def b2 (p : Prop) [Decidable p] : Int32 := if p then 1 else 0
theorem b2_t {p : Prop} [Decidable p] (h : p) : b2 p = 1 := if_pos h
theorem b2_f {p : Prop} [Decidable p] (h : ¬ p) : b2 p = 0 := if_neg h
theorem b2_eq0 {p : Prop} [Decidable p] : (b2 p = 0) = ¬ p := by
  unfold b2; split <;> simp_all
theorem b2_eq1 {p : Prop} [Decidable p] : (b2 p = 1) = p := by
  unfold b2; split <;> simp_all
theorem nz_b2 (p : Prop) [Decidable p] : narrow .boolean (.int (b2 p)) = .int (b2 p) := by
  unfold b2; split <;> rfl
theorem b2_congr {p q : Prop} [Decidable p] [Decidable q] (h : p ↔ q) : b2 p = b2 q := by
  unfold b2; by_cases hp : p
  · rw [if_pos hp, if_pos (h.mp hp)]
  · rw [if_neg hp, if_neg (fun z => hp (h.mpr z))]
/-! Int32 as integers -/
theorem i_lt {x y : Int32} : (x < y) = (x.toInt < y.toInt) := propext Int32.lt_iff_toInt_lt
theorem i_le {x y : Int32} : (x ≤ y) = (x.toInt ≤ y.toInt) := propext Int32.le_iff_toInt_le
theorem i_eq {x y : Int32} : (x = y) = (x.toInt = y.toInt) := propext Int32.toInt_inj.symm
theorem i_lo (x : Int32) : -2147483648 ≤ x.toInt := Int32.le_toInt x
theorem i_hi (x : Int32) : x.toInt < 2147483648 := Int32.toInt_lt x
theorem i_nat {n : Nat} (h : n < 2147483648) : (Int32.ofNat n).toInt = n := Int32.toInt_ofNat_of_lt h
theorem i_nI {n : Nat} (h : n < 2147483648) : (nI n).toInt = n := Int32.toInt_ofNat_of_lt h
theorem i_clamp {x : Int32} : x.toNatClampNeg = x.toInt.toNat := rfl
theorem vp_inz {i : Int32} {n : Nat} (h1 : 0 ≤ i.toInt) (h2 : i.toInt < n) : vp_in i n := by
  unfold vp_in
  rw [i_lt, i_clamp]
  have : (0 : Int32).toInt = 0 := rfl
  omega
theorem vp_in_len {i : Int32} {n : Nat} (h1 : ¬ i < 0) (h2 : ¬ Int32.ofNat n ≤ i) (hn : n < 2000) : vp_in i n := by
  rw [i_lt] at h1
  have h3 : ¬ (n : Int) ≤ i.toInt := by rw [← i_nat (n := n) (by omega), ← i_le]; exact h2
  have : (0 : Int32).toInt = 0 := rfl
  exact vp_inz (by omega) (by omega)
/-- a Row's place, 0 outside -/
def rg (f : Nat → Int32) (n : Nat) (i : Int32) : Int32 := if 0 ≤ i.toInt ∧ i.toInt < n then f i.toInt.toNat else 0
def rs (σ : St) (o n : Nat) (i v : Int32) : St := if 0 ≤ i.toInt ∧ i.toInt < n then up σ (o + 1) i.toInt.toNat v else σ
/-- n turns of a loop -/
def it {α : Type} (f : Nat → α → α) (a : α) : Nat → α
  | 0 => a
  | n + 1 => f n (it f a n)
theorem it_0 {α : Type} (f : Nat → α → α) (a : α) : it f a 0 = a := rfl
theorem it_s {α : Type} (f : Nat → α → α) (a : α) (n : Nat) : it f a (n + 1) = f n (it f a n) := rfl
theorem it_congr {α : Type} {f g : Nat → α → α} {a : α} {n : Nat} (h : ∀ i, i < n → ∀ x, f i x = g i x) : it f a n = it g a n := by
  induction n with
  | zero => rfl
  | succ n ih => rw [it_s, it_s, ih (fun i hi => h i (by omega)), h n (by omega)]
theorem it_rel {α β : Type} {f : Nat → α → α} {g : Nat → β → β} {a : α} {b : β} {n : Nat} (R : Nat → α → β → Prop) (h0 : R 0 a b) (h : ∀ i, i < n → ∀ x y, R i x y → R (i + 1) (f i x) (g i y)) : R n (it f a n) (it g b n) := by
  induction n with
  | zero => exact h0
  | succ n ih => exact h n (by omega) _ _ (ih (fun i hi => h i (by omega)))
/-- how often a loop up to x turns -/
def ct (x : Int32) : Nat := x.toInt.toNat
theorem ct_lt {x : Int32} : ct x < 2147483648 := by have := i_hi x; unfold ct; omega
theorem ct_go {x : Int32} {i : Nat} (hi : i ≤ ct x) (h : ¬ x ≤ nI i) : i < ct x := by
  have hx := @ct_lt x
  rw [i_le, i_nI (by omega)] at h
  unfold ct at *; omega
theorem ct_end {x : Int32} {i : Nat} (hi : i ≤ ct x) (h : x ≤ nI i) : i = ct x := by
  have hx := @ct_lt x
  rw [i_le, i_nI (by omega)] at h
  unfold ct at *; omega
theorem nI_s (i : Nat) : nI i + 1 = nI (i + 1) := by unfold nI; exact (inc_ofNat i).symm
theorem nI_00 : (0 : Int32) = nI 0 := rfl
theorem rg_nI {f : Nat → Int32} {n i : Nat} (h : i < n) (hn : n < 2147483648) : rg f n (nI i) = f i := by
  unfold rg; rw [i_nI (by omega), if_pos (by omega)]; rfl

theorem rg_lo {f : Nat → Int32} {n : Nat} {i : Int32} (h : i < 0) : rg f n i = 0 := by
  unfold rg; rw [if_neg]; rw [i_lt] at h; have : (0 : Int32).toInt = 0 := rfl; omega
theorem rg_hi {f : Nat → Int32} {n : Nat} {i : Int32} (hn : n < 2000) (h : Int32.ofNat n ≤ i) : rg f n i = 0 := by
  unfold rg; rw [if_neg]; rw [i_le, i_nat (by omega)] at h; omega
theorem rg_in {f : Nat → Int32} {n : Nat} {i : Int32} (h1 : ¬ i < 0) (h2 : ¬ Int32.ofNat n ≤ i) (hn : n < 2000) : rg f n i = f i.toNatClampNeg := by
  have h3 : ¬ (n : Int) ≤ i.toInt := by rw [← i_nat (n := n) (by omega), ← i_le]; exact h2
  rw [i_lt] at h1; have : (0 : Int32).toInt = 0 := rfl
  unfold rg; rw [if_pos (by omega), i_clamp]
theorem rs_lo {σ : St} {o n : Nat} {i v : Int32} (h : i < 0) : rs σ o n i v = σ := by
  unfold rs; rw [if_neg]; rw [i_lt] at h; have : (0 : Int32).toInt = 0 := rfl; omega
theorem rs_hi {σ : St} {o n : Nat} {i v : Int32} (hn : n < 2000) (h : Int32.ofNat n ≤ i) : rs σ o n i v = σ := by
  unfold rs; rw [if_neg]; rw [i_le, i_nat (by omega)] at h; omega
theorem rs_in {σ : St} {o n : Nat} {i v : Int32} (h1 : ¬ i < 0) (h2 : ¬ Int32.ofNat n ≤ i) (hn : n < 2000) : rs σ o n i v = up σ (o + 1) i.toNatClampNeg v := by
  have h3 : ¬ (n : Int) ≤ i.toInt := by rw [← i_nat (n := n) (by omega), ← i_le]; exact h2
  rw [i_lt] at h1; have : (0 : Int32).toInt = 0 := rfl
  unfold rs; rw [if_pos (by omega), i_clamp]
/-- the first n places of o are f's -/
def fl (σ : St) (o n : Nat) (f : Nat → Int32) : St := fun o' => if o' = o then (fun k => if k < n then f k else σ o k) else σ o'
theorem fl_0 {σ : St} {o : Nat} {f : Nat → Int32} : fl σ o 0 f = σ := by
  funext o' k; unfold fl; split
  · rename_i h; subst h; simp
  · rfl
theorem fl_s {σ : St} {o n : Nat} {f : Nat → Int32} : up (fl σ o n f) o n (f n) = fl σ o (n + 1) f := by
  funext o' k
  unfold up fl upd
  by_cases h : o' = o
  · subst h
    simp only [if_true]
    by_cases h2 : k = n
    · subst h2; simp
    · simp only [if_neg h2]
      by_cases h3 : k < n
      · rw [if_pos h3, if_pos (by omega)]
      · rw [if_neg h3, if_neg (by omega)]
  · simp [h]
/-- loops' ends -/
theorem nt_go {n i : Nat} (hi : i ≤ n) (hn : n < 100000) (h : ¬ Int32.ofNat n ≤ nI i) : i < n := by
  rw [i_le, i_nat (by omega), i_nI (by omega)] at h; omega
theorem nt_end {n i : Nat} (hi : i ≤ n) (hn : n < 100000) (h : Int32.ofNat n ≤ nI i) : n = i := by
  rw [i_le, i_nat (by omega), i_nI (by omega)] at h; omega
theorem gt_go {n i : Nat} (hi : i ≤ n) (hn : n < 100000) (h : ¬ Int32.ofNat n < nI (i + 1)) : i < n := by
  rw [i_lt, i_nat (by omega), i_nI (by omega)] at h; omega
theorem gt_end {n i : Nat} (hi : i ≤ n) (hn : n < 100000) (h : Int32.ofNat n < nI (i + 1)) : n = i := by
  rw [i_lt, i_nat (by omega), i_nI (by omega)] at h; omega
theorem ct_end' {x : Int32} {i : Nat} (hi : i ≤ ct x) (h : x ≤ nI i) : ct x = i := (ct_end hi h).symm
theorem vp_in_nt {n i : Nat} (h : i < n) (hn : n < 100000) : vp_in (nI i) n := vp_inz (by rw [i_nI (by omega)]; omega) (by rw [i_nI (by omega)]; omega)
theorem nI_clampz {i : Nat} (h : i < 2147483648) : (nI i).toNatClampNeg = i := by rw [i_clamp, i_nI h]; rfl
def sm (f : Nat → Int32) (n : Nat) : Int32 := it (fun k a => a + f k) 0 n
def cpy (σ : St) (o n q m : Nat) (start to many : Int32) : St := it (fun k s => rs s o n (to + nI k) (rg (s (q + 1)) m (start + nI k))) σ (ct many)

set_option maxRecDepth 20000 in
set_option maxHeartbeats 4000000 in
theorem c_Row_get {l : Launch} {G : Gz} (hG : zI G) {o oN : Nat} (ho_o : isRow o oN) (σ : St) (i : Int32) : MI l G y_Row_get prog_9_method_2_code 2 .int 1 [.ref (G.1 (o)), .int i] σ (rg (σ (o + 1)) oN i) σ := by
  refine MI.of hG (by decide) (Nat.le_of_ble_eq_true rfl) (fun X hx hq => ?_)
  show J l G X 2 σ 0 [(0, .ref (G.1 (o))), (1, .int i)] []
  refine j_iload_n hx d_Row_get_0 rfl 1 rfl ?_
  refine j_if_lt (tgt := 22) hx d_Row_get_1 (by decide) (fun zc1 => ?_) (fun zc1 => ?_)
  · skip
    refine j_iconst (v := 0) hx d_Row_get_22 (by decide) ?_
    exact j_iret hx hq rfl d_Row_get_23 (by first | (first | exact (rg_lo zc1).symm | exact (rg_hi ho_o.1.2 zc10).symm | exact (rg_in zc1 zc10 ho_o.1.2).symm) | fail) (by first | (first | rfl | (simp only [zc1]; done) | (simp [zc1]; done)) | fail)
  · skip
    refine j_iload_n hx d_Row_get_4 rfl 1 rfl ?_
    refine j_aload_n hx d_Row_get_5 rfl 0 rfl ?_
    refine j_get hx ck_Row 0 (by decide) t_47 (by have := ho_o.1; omega) (ho_o.2.1 _ _) rfl d_Row_get_6 ?_
    refine j_alen hx (by have := ho_o.1; omega) (ho_o.2.2 _ _) rfl d_Row_get_9 ?_
    refine j_icmp_ge (tgt := 22) hx d_Row_get_10 (by decide) (fun zc10 => ?_) (fun zc10 => ?_)
    · skip
      refine j_iconst (v := 0) hx d_Row_get_22 (by decide) ?_
      exact j_iret hx hq rfl d_Row_get_23 (by first | (first | exact (rg_lo zc1).symm | exact (rg_hi ho_o.1.2 zc10).symm | exact (rg_in zc1 zc10 ho_o.1.2).symm) | fail) (by first | (first | rfl | (simp only [zc1, zc10]; done) | (simp [zc1, zc10]; done)) | fail)
    · skip
      refine j_aload_n hx d_Row_get_13 rfl 0 rfl ?_
      refine j_get hx ck_Row 0 (by decide) t_47 (by have := ho_o.1; omega) (ho_o.2.1 _ _) rfl d_Row_get_14 ?_
      refine j_iload_n hx d_Row_get_17 rfl 1 rfl ?_
      refine j_iald hx (by have := ho_o.1; omega) (ho_o.2.2 _ _) (by exact vp_in_len zc1 zc10 ho_o.1.2) d_Row_get_18 ?_
      refine j_goto (tgt := 23) hx d_Row_get_19 (by decide) ?_
      exact j_iret hx hq rfl d_Row_get_23 (by first | (first | exact (rg_lo zc1).symm | exact (rg_hi ho_o.1.2 zc10).symm | exact (rg_in zc1 zc10 ho_o.1.2).symm) | fail) (by first | (first | rfl | (simp only [zc1, zc10]; done) | (simp [zc1, zc10]; done)) | fail)

set_option maxRecDepth 20000 in
set_option maxHeartbeats 4000000 in
theorem c_Row_set {l : Launch} {G : Gz} (hG : zI G) {o oN : Nat} (ho_o : isRow o oN) (σ : St) (i : Int32) (v : Int32) : MV l G y_Row_set prog_9_method_3_code 3 1 [.ref (G.1 (o)), .int i, .int v] σ (rs σ o oN i v) := by
  refine MV.of hG (by decide) (Nat.le_of_ble_eq_true rfl) (fun X hx hq => ?_)
  show J l G X 3 σ 0 [(0, .ref (G.1 (o))), (1, .int i), (2, .int v)] []
  refine j_iload_n hx d_Row_set_0 rfl 1 rfl ?_
  refine j_if_lt (tgt := 20) hx d_Row_set_1 (by decide) (fun zc1 => ?_) (fun zc1 => ?_)
  · skip
    exact j_vret hx hq d_Row_set_20 (by first | (first | exact (rs_lo zc1).symm | exact (rs_hi ho_o.1.2 zc10).symm | exact (rs_in zc1 zc10 ho_o.1.2).symm) | fail)
  · skip
    refine j_iload_n hx d_Row_set_4 rfl 1 rfl ?_
    refine j_aload_n hx d_Row_set_5 rfl 0 rfl ?_
    refine j_get hx ck_Row 0 (by decide) t_47 (by have := ho_o.1; omega) (ho_o.2.1 _ _) rfl d_Row_set_6 ?_
    refine j_alen hx (by have := ho_o.1; omega) (ho_o.2.2 _ _) rfl d_Row_set_9 ?_
    refine j_icmp_ge (tgt := 20) hx d_Row_set_10 (by decide) (fun zc10 => ?_) (fun zc10 => ?_)
    · skip
      exact j_vret hx hq d_Row_set_20 (by first | (first | exact (rs_lo zc1).symm | exact (rs_hi ho_o.1.2 zc10).symm | exact (rs_in zc1 zc10 ho_o.1.2).symm) | fail)
    · skip
      refine j_aload_n hx d_Row_set_13 rfl 0 rfl ?_
      refine j_get hx ck_Row 0 (by decide) t_47 (by have := ho_o.1; omega) (ho_o.2.1 _ _) rfl d_Row_set_14 ?_
      refine j_iload_n hx d_Row_set_17 rfl 1 rfl ?_
      refine j_iload_n hx d_Row_set_18 rfl 2 rfl ?_
      refine j_iast hx (by have := ho_o.1; omega) (fun f => ho_o.2.2 _ f) (by exact vp_in_len zc1 zc10 ho_o.1.2) d_Row_set_19 ?_
      exact j_vret hx hq d_Row_set_20 (by first | (first | exact (rs_lo zc1).symm | exact (rs_hi ho_o.1.2 zc10).symm | exact (rs_in zc1 zc10 ho_o.1.2).symm) | fail)

set_option maxRecDepth 20000 in
set_option maxHeartbeats 4000000 in
theorem c_Row_add {l : Launch} {G : Gz} (hG : zI G) {o oN : Nat} (ho_o : isRow o oN) (σ : St) (i : Int32) (v : Int32) : MV l G y_Row_add prog_9_method_4_code 3 1 [.ref (G.1 (o)), .int i, .int v] σ (rs σ o oN i (rg (σ (o + 1)) oN i + v)) := by
  refine MV.of hG (by decide) (Nat.le_of_ble_eq_true rfl) (fun X hx hq => ?_)
  show J l G X 3 σ 0 [(0, .ref (G.1 (o))), (1, .int i), (2, .int v)] []
  refine j_iload_n hx d_Row_add_0 rfl 1 rfl ?_
  refine j_if_lt (tgt := 23) hx d_Row_add_1 (by decide) (fun zc1 => ?_) (fun zc1 => ?_)
  · skip
    exact j_vret hx hq d_Row_add_23 (by first | (first | exact (rs_lo zc1).symm | exact (rs_hi ho_o.1.2 zc10).symm | (rw [rg_in zc1 zc10 ho_o.1.2]; exact (rs_in zc1 zc10 ho_o.1.2).symm)) | fail)
  · skip
    refine j_iload_n hx d_Row_add_4 rfl 1 rfl ?_
    refine j_aload_n hx d_Row_add_5 rfl 0 rfl ?_
    refine j_get hx ck_Row 0 (by decide) t_47 (by have := ho_o.1; omega) (ho_o.2.1 _ _) rfl d_Row_add_6 ?_
    refine j_alen hx (by have := ho_o.1; omega) (ho_o.2.2 _ _) rfl d_Row_add_9 ?_
    refine j_icmp_ge (tgt := 23) hx d_Row_add_10 (by decide) (fun zc10 => ?_) (fun zc10 => ?_)
    · skip
      exact j_vret hx hq d_Row_add_23 (by first | (first | exact (rs_lo zc1).symm | exact (rs_hi ho_o.1.2 zc10).symm | (rw [rg_in zc1 zc10 ho_o.1.2]; exact (rs_in zc1 zc10 ho_o.1.2).symm)) | fail)
    · skip
      refine j_aload_n hx d_Row_add_13 rfl 0 rfl ?_
      refine j_get hx ck_Row 0 (by decide) t_47 (by have := ho_o.1; omega) (ho_o.2.1 _ _) rfl d_Row_add_14 ?_
      refine j_iload_n hx d_Row_add_17 rfl 1 rfl ?_
      refine j_dup2_11 hx d_Row_add_18 rfl rfl ?_
      refine j_iald hx (by have := ho_o.1; omega) (ho_o.2.2 _ _) (by exact vp_in_len zc1 zc10 ho_o.1.2) d_Row_add_19 ?_
      refine j_iload_n hx d_Row_add_20 rfl 2 rfl ?_
      refine j_iadd hx d_Row_add_21 ?_
      refine j_iast hx (by have := ho_o.1; omega) (fun f => ho_o.2.2 _ f) (by exact vp_in_len zc1 zc10 ho_o.1.2) d_Row_add_22 ?_
      exact j_vret hx hq d_Row_add_23 (by first | (first | exact (rs_lo zc1).symm | exact (rs_hi ho_o.1.2 zc10).symm | (rw [rg_in zc1 zc10 ho_o.1.2]; exact (rs_in zc1 zc10 ho_o.1.2).symm)) | fail)

set_option maxRecDepth 20000 in
set_option maxHeartbeats 4000000 in
theorem c_Row_clear {l : Launch} {G : Gz} (hG : zI G) {o oN : Nat} (ho_o : isRow o oN) (σ : St) : MV l G y_Row_clear prog_9_method_5_code 2 1 [.ref (G.1 (o))] σ (fl σ (o + 1) oN (fun _ => 0)) := by
  refine MV.of hG (by decide) (Nat.le_of_ble_eq_true rfl) (fun X hx hq => ?_)
  show J l G X 2 σ 0 [(0, .ref (G.1 (o)))] []
  refine j_iconst (v := 0) hx d_Row_clear_0 (by decide) ?_
  refine j_istore_n hx [(1, .int 0), (0, .ref (G.1 (o)))] d_Row_clear_1 rfl (by decide) rfl ?_
  have hl2 : ∀ (N9 : Nat) (i : Nat), (i ≤ oN) → oN - i = N9 → J l G X 2 (fl σ (o + 1) i (fun _ => 0)) 2 [(0, .ref (G.1 (o))), (1, .int (nI i))] [] := by
    intro N9
    induction N9 using Nat.strongRecOn with
    | _ N9 ih2 =>
      intro i hi_i hm2
      refine j_iload_n hx d_Row_clear_2 rfl 1 rfl ?_
      refine j_aload_n hx d_Row_clear_3 rfl 0 rfl ?_
      refine j_get hx ck_Row 0 (by decide) t_47 (by have := ho_o.1; omega) (ho_o.2.1 _ _) rfl d_Row_clear_4 ?_
      refine j_alen hx (by have := ho_o.1; omega) (ho_o.2.2 _ _) rfl d_Row_clear_7 ?_
      refine j_icmp_ge (tgt := 24) hx d_Row_clear_8 (by decide) (fun zc8 => ?_) (fun zc8 => ?_)
      · skip
        obtain rfl := nt_end hi_i (by have := ho_o.1.2; omega) zc8
        exact j_vret hx hq d_Row_clear_24 (by first | (first | rfl | (simp only [zc8]; done) | (simp [zc8]; done)) | fail)
      · skip
        have hlt2 := nt_go hi_i (by have := ho_o.1.2; omega) zc8
        refine j_aload_n hx d_Row_clear_11 rfl 0 rfl ?_
        refine j_get hx ck_Row 0 (by decide) t_47 (by have := ho_o.1; omega) (ho_o.2.1 _ _) rfl d_Row_clear_12 ?_
        refine j_iload_n hx d_Row_clear_15 rfl 1 rfl ?_
        refine j_iconst (v := 0) hx d_Row_clear_16 (by decide) ?_
        refine j_iast hx (by have := ho_o.1; omega) (fun f => ho_o.2.2 _ f) (by exact vp_in_nt hlt2 (by have := ho_o.1.2; omega)) d_Row_clear_17 ?_
        refine j_iinc hx [(1, .int ((nI i) + 1)), (0, .ref (G.1 (o)))] d_Row_clear_18 1 rfl rfl (by decide) rfl ?_
        refine j_goto (tgt := 2) hx d_Row_clear_21 (by decide) ?_
        refine J.lsub (ls' := [(0, .ref (G.1 (o))), (1, .int ((nI i) + 1))]) [1, 0] rfl ?_
        refine J.to ?_ ?_ (ih2 _ ?_ (i + 1) hlt2 rfl)
        · first | (rw [nI_clampz (by have := ho_o.1.2; omega)]; exact fl_s (f := fun _ => 0)) | fail
        · first | (simp only [nI_s]) | fail
        · first | (omega) | fail
  refine J.lsub (ls' := [(0, .ref (G.1 (o))), (1, .int 0)]) [1, 0] rfl ?_
  refine J.to ?_ ?_ (hl2 _ 0 (Nat.zero_le _) rfl)
  · first | (exact fl_0.symm) | fail
  · first | (first | rfl | (simp only [nI_s]; done) | (simp only [nI_s, it_s]; done) | (simp [nI_s, it_s, ]; done)) | fail

set_option maxRecDepth 20000 in
set_option maxHeartbeats 4000000 in
theorem c_Row_sum {l : Launch} {G : Gz} (hG : zI G) {o oN : Nat} (ho_o : isRow o oN) (σ : St) : MI l G y_Row_sum prog_9_method_6_code 3 .int 1 [.ref (G.1 (o))] σ (sm (σ (o + 1)) oN) σ := by
  refine MI.of hG (by decide) (Nat.le_of_ble_eq_true rfl) (fun X hx hq => ?_)
  show J l G X 3 σ 0 [(0, .ref (G.1 (o)))] []
  refine j_iconst (v := 0) hx d_Row_sum_0 (by decide) ?_
  refine j_istore_n hx [(1, .int 0), (0, .ref (G.1 (o)))] d_Row_sum_1 rfl (by decide) rfl ?_
  refine j_iconst (v := 0) hx d_Row_sum_2 (by decide) ?_
  refine j_istore_n hx [(2, .int 0), (1, .int 0), (0, .ref (G.1 (o)))] d_Row_sum_3 rfl (by decide) rfl ?_
  have hl4 : ∀ (N9 : Nat) (i : Nat), (i ≤ oN) → oN - i = N9 → J l G X 3 σ 4 [(0, .ref (G.1 (o))), (1, .int (sm (σ (o + 1)) i)), (2, .int (nI i))] [] := by
    intro N9
    induction N9 using Nat.strongRecOn with
    | _ N9 ih4 =>
      intro i hi_i hm4
      refine j_iload_n hx d_Row_sum_4 rfl 2 rfl ?_
      refine j_aload_n hx d_Row_sum_5 rfl 0 rfl ?_
      refine j_get hx ck_Row 0 (by decide) t_47 (by have := ho_o.1; omega) (ho_o.2.1 _ _) rfl d_Row_sum_6 ?_
      refine j_alen hx (by have := ho_o.1; omega) (ho_o.2.2 _ _) rfl d_Row_sum_9 ?_
      refine j_icmp_ge (tgt := 28) hx d_Row_sum_10 (by decide) (fun zc10 => ?_) (fun zc10 => ?_)
      · skip
        obtain rfl := nt_end hi_i (by have := ho_o.1.2; omega) zc10
        refine j_iload_n hx d_Row_sum_28 rfl 1 rfl ?_
        exact j_iret hx hq rfl d_Row_sum_29 (by first | (first | rfl | (simp only [zc10]; done) | (simp [zc10]; done)) | fail) (by first | (first | rfl | (simp only [zc10]; done) | (simp [zc10]; done)) | fail)
      · skip
        have hlt4 := nt_go hi_i (by have := ho_o.1.2; omega) zc10
        refine j_iload_n hx d_Row_sum_13 rfl 1 rfl ?_
        refine j_aload_n hx d_Row_sum_14 rfl 0 rfl ?_
        refine j_get hx ck_Row 0 (by decide) t_47 (by have := ho_o.1; omega) (ho_o.2.1 _ _) rfl d_Row_sum_15 ?_
        refine j_iload_n hx d_Row_sum_18 rfl 2 rfl ?_
        refine j_iald hx (by have := ho_o.1; omega) (ho_o.2.2 _ _) (by exact vp_in_nt hlt4 (by have := ho_o.1.2; omega)) d_Row_sum_19 ?_
        refine j_iadd hx d_Row_sum_20 ?_
        refine j_istore_n hx [(1, .int ((sm (σ (o + 1)) i) + (σ (o + 1) (nI i).toNatClampNeg))), (0, .ref (G.1 (o))), (2, .int (nI i))] d_Row_sum_21 rfl (by decide) rfl ?_
        refine j_iinc hx [(2, .int ((nI i) + 1)), (1, .int ((sm (σ (o + 1)) i) + (σ (o + 1) (nI i).toNatClampNeg))), (0, .ref (G.1 (o)))] d_Row_sum_22 2 rfl rfl (by decide) rfl ?_
        refine j_goto (tgt := 4) hx d_Row_sum_25 (by decide) ?_
        refine J.lsub (ls' := [(0, .ref (G.1 (o))), (1, .int ((sm (σ (o + 1)) i) + (σ (o + 1) (nI i).toNatClampNeg))), (2, .int ((nI i) + 1))]) [2, 1, 0] rfl ?_
        refine J.to ?_ ?_ (ih4 _ ?_ (i + 1) hlt4 rfl)
        · first | (first | rfl | (simp [zc10]; done)) | fail
        · first | (simp only [nI_s, sm, it_s, nI_clampz (show i < 2147483648 by have := ho_o.1.2; omega)]) | fail
        · first | (omega) | fail
  refine J.lsub (ls' := [(0, .ref (G.1 (o))), (1, .int 0), (2, .int 0)]) [2, 1, 0] rfl ?_
  refine J.to ?_ ?_ (hl4 _ 0 (Nat.zero_le _) rfl)
  · first | (first | rfl | (simp []; done)) | fail
  · first | (first | rfl | (simp only [nI_s]; done) | (simp only [nI_s, it_s]; done) | (simp [nI_s, it_s, ]; done)) | fail

theorem c_Row_getA {l : Launch} {G : Gz} (hG : zI G) {o oN : Nat} (ho_o : isRow o oN) (a : Nat) (ha : o + 1 = a) (σ : St) (i : Int32) : MI l G y_Row_get prog_9_method_2_code 2 .int 1 [.ref (G.1 o), .int i] σ (rg (σ a) oN i) σ := by
  subst ha; exact c_Row_get hG ho_o σ i
theorem c_Row_addA {l : Launch} {G : Gz} (hG : zI G) {o oN : Nat} (ho_o : isRow o oN) (a : Nat) (ha : o + 1 = a) (σ : St) (i v : Int32) : MV l G y_Row_add prog_9_method_4_code 3 1 [.ref (G.1 o), .int i, .int v] σ (rs σ o oN i (rg (σ a) oN i + v)) := by
  subst ha; exact c_Row_add hG ho_o σ i v

set_option maxRecDepth 20000 in
set_option maxHeartbeats 4000000 in
theorem c_Row_copyFrom {l : Launch} {G : Gz} (hG : zI G) {o oN : Nat} (ho_o : isRow o oN) {q qN : Nat} (ho_q : isRow q qN) (σ : St) (start : Int32) (to : Int32) (many : Int32) : MV l G y_Row_copyFrom prog_9_method_8_code 6 2 [.ref (G.1 (o)), .ref (G.1 (q)), .int start, .int to, .int many] σ (cpy σ o oN q qN start to many) := by
  refine MV.of hG (by decide) (Nat.le_of_ble_eq_true rfl) (fun X hx hq => ?_)
  show J l G X 6 σ 0 [(0, .ref (G.1 (o))), (1, .ref (G.1 (q))), (2, .int start), (3, .int to), (4, .int many)] []
  refine j_iconst (v := 0) hx d_Row_copyFrom_0 (by decide) ?_
  refine j_istore hx [(5, .int 0), (0, .ref (G.1 (o))), (1, .ref (G.1 (q))), (2, .int start), (3, .int to), (4, .int many)] d_Row_copyFrom_1 (by decide) rfl ?_
  have hl3 : ∀ (N9 : Nat) (i : Nat), (i ≤ (ct many)) → (ct many) - i = N9 → J l G X 6 (it (fun k s => rs s o oN (to + nI k) (rg (s (q + 1)) qN (start + nI k))) σ i) 3 [(0, .ref (G.1 (o))), (1, .ref (G.1 (q))), (2, .int start), (3, .int to), (4, .int many), (5, .int (nI i))] [] := by
    intro N9
    induction N9 using Nat.strongRecOn with
    | _ N9 ih3 =>
      intro i hi_i hm3
      refine j_iload hx d_Row_copyFrom_3 5 rfl ?_
      refine j_iload hx d_Row_copyFrom_5 4 rfl ?_
      refine j_icmp_ge (tgt := 32) hx d_Row_copyFrom_7 (by decide) (fun zc7 => ?_) (fun zc7 => ?_)
      · skip
        obtain rfl := ct_end' hi_i zc7
        exact j_vret hx hq d_Row_copyFrom_32 (by first | (first | rfl | (simp only [zc7]; done) | (simp [zc7]; done)) | fail)
      · skip
        have hlt3 := ct_go hi_i zc7
        refine j_aload_n hx d_Row_copyFrom_10 rfl 0 rfl ?_
        refine j_iload_n hx d_Row_copyFrom_11 rfl 3 rfl ?_
        refine j_iload hx d_Row_copyFrom_12 5 rfl ?_
        refine j_iadd hx d_Row_copyFrom_14 ?_
        refine j_aload_n hx d_Row_copyFrom_15 rfl 1 rfl ?_
        refine j_iload_n hx d_Row_copyFrom_16 rfl 2 rfl ?_
        refine j_iload hx d_Row_copyFrom_17 5 rfl ?_
        refine j_iadd hx d_Row_copyFrom_19 ?_
        refine j_callVi hx (c_Row_getA hG ho_q (q + 1) rfl (it (fun k s => rs s o oN (to + nI k) (rg (s (q + 1)) qN (start + nI k))) σ i) (start + (nI i))) mo_Row_get mv_Row_get t_415 (by decide) rfl (by have := ho_q.1; omega) (ho_q.2.1 _ _) rfl rfl (Nat.le_of_ble_eq_true rfl) d_Row_copyFrom_20 ?_
        refine j_callVv hx (c_Row_set hG ho_o (it (fun k s => rs s o oN (to + nI k) (rg (s (q + 1)) qN (start + nI k))) σ i) (to + (nI i)) (rg ((it (fun k s => rs s o oN (to + nI k) (rg (s (q + 1)) qN (start + nI k))) σ i) (q + 1)) qN (start + (nI i)))) mo_Row_set mv_Row_set t_419 (by decide) rfl (by have := ho_o.1; omega) (ho_o.2.1 _ _) rfl rfl (Nat.le_of_ble_eq_true rfl) d_Row_copyFrom_23 ?_
        refine j_iinc hx [(5, .int ((nI i) + 1)), (0, .ref (G.1 (o))), (1, .ref (G.1 (q))), (2, .int start), (3, .int to), (4, .int many)] d_Row_copyFrom_26 5 rfl rfl (by decide) rfl ?_
        refine j_goto (tgt := 3) hx d_Row_copyFrom_29 (by decide) ?_
        refine J.lsub (ls' := [(0, .ref (G.1 (o))), (1, .ref (G.1 (q))), (2, .int start), (3, .int to), (4, .int many), (5, .int ((nI i) + 1))]) [1, 2, 3, 4, 5, 0] rfl ?_
        refine J.to ?_ ?_ (ih3 _ ?_ (i + 1) hlt3 rfl)
        · first | (rfl) | fail
        · first | (simp only [nI_s]) | fail
        · first | (omega) | fail
  refine J.lsub (ls' := [(0, .ref (G.1 (o))), (1, .ref (G.1 (q))), (2, .int start), (3, .int to), (4, .int many), (5, .int 0)]) [1, 2, 3, 4, 5, 0] rfl ?_
  refine J.to ?_ ?_ (hl3 _ 0 (Nat.zero_le _) rfl)
  · first | (first | rfl | (simp []; done)) | fail
  · first | (first | rfl | (simp only [nI_s]; done) | (simp only [nI_s, it_s]; done) | (simp [nI_s, it_s, ]; done)) | fail

set_option maxRecDepth 20000 in
set_option maxHeartbeats 4000000 in
theorem c_Row_become {l : Launch} {G : Gz} (hG : zI G) {o oN : Nat} (ho_o : isRow o oN) {q qN : Nat} (ho_q : isRow q qN) (σ : St) : MV l G y_Row_become prog_9_method_7_code 2 3 [.ref (G.1 (o)), .ref (G.1 (q))] σ (cpy σ o oN q qN 0 0 (Int32.ofNat oN)) := by
  refine MV.of hG (by decide) (Nat.le_of_ble_eq_true rfl) (fun X hx hq => ?_)
  show J l G X 2 σ 0 [(0, .ref (G.1 (o))), (1, .ref (G.1 (q)))] []
  refine j_aload_n hx d_Row_become_0 rfl 0 rfl ?_
  refine j_aload_n hx d_Row_become_1 rfl 1 rfl ?_
  refine j_iconst (v := 0) hx d_Row_become_2 (by decide) ?_
  refine j_iconst (v := 0) hx d_Row_become_3 (by decide) ?_
  refine j_aload_n hx d_Row_become_4 rfl 0 rfl ?_
  refine j_get hx ck_Row 0 (by decide) t_47 (by have := ho_o.1; omega) (ho_o.2.1 _ _) rfl d_Row_become_5 ?_
  refine j_alen hx (by have := ho_o.1; omega) (ho_o.2.2 _ _) rfl d_Row_become_8 ?_
  refine j_callVv hx (c_Row_copyFrom hG ho_o ho_q σ 0 0 (Int32.ofNat oN)) mo_Row_copyFrom mv_Row_copyFrom t_767 (by decide) rfl (by have := ho_o.1; omega) (ho_o.2.1 _ _) rfl rfl (Nat.le_of_ble_eq_true rfl) d_Row_become_9 ?_
  exact j_vret hx hq d_Row_become_12 (by first | (first | rfl | (simp only []; done) | (simp []; done)) | fail)
